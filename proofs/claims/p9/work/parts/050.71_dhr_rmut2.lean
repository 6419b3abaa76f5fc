section
/-! the reference's nap, wake, bed, set, undo, hold, restore -/
section RMV
variable {d i j a k n v U : Nat} {S S' S1 S2 : WS} {R R' : RW} {H : HO} {x1 x2 x3 z u w : Int32} {P P' : Nat → Nat → Prop} {g : Nat → Nat → Int32} {c0 : Nat}
theorem psm_of (h1 : ∀ i, i < 96 → S2.1 186 i = R' i) (hf : ∀ c j, c ≠ 186 → c ≠ 181 → c ≠ 182 → c ≠ 184 → c ≠ 185 → ¬ (c = 148 ∧ (j = 51 ∨ (56 ≤ j ∧ j ≤ 59))) → S2.1 c j = S.1 c j) (h2 : S2.2 = S.2) (hU : (S.1 148 60).toInt = (U : Int)) (hU30 : U ≤ 30) : ∃ S', RX (d + 2) 251 [.ref 148] S2 = some (none, S') ∧ PSM S S' U R' ∧ ∀ j, S'.1 184 j = S2.1 184 j ∧ S'.1 185 j = S2.1 185 j := by
  have e60 : S2.1 148 60 = S.1 148 60 := hf _ _ (by omega) (by omega) (by omega) (by omega) (by omega) (by omega)
  obtain ⟨S3, k1, k2, ⟨k3, k3'⟩, k4, k5, k6⟩ := keeps_M (d := d) (S := S2) (U := U) (by rw [e60]; exact hU) hU30
  have e183 : ∀ j, S2.1 183 j = S.1 183 j := fun j => hf _ _ (by omega) (by omega) (by omega) (by omega) (by omega) (by omega)
  have e187 : ∀ j, S2.1 187 j = S.1 187 j := fun j => hf _ _ (by omega) (by omega) (by omega) (by omega) (by omega) (by omega)
  refine ⟨S3, k1, ⟨fun i hi => (k2 i hi).trans (h1 i hi), ⟨fun q => ⟨fun k hk => ((k3 q).1 k hk).trans (e183 k), fun j hj => ((k3 q).2 j hj).trans (e187 j)⟩, fun q => ⟨fun k hk => ((k3' q).1 k hk).trans (e183 k), fun j hj => ((k3' q).2 j hj).trans (e187 _)⟩⟩, by rw [k4, e60], fun c j q1 q2 => ?_, k6.trans h2⟩, fun j => ⟨k5 _ _ (by omega) (by omega) (by omega), k5 _ _ (by omega) (by omega) (by omega)⟩⟩
  rw [k5 c j (by omega) (by omega) (by omega)]
  exact hf _ _ (by omega) (by omega) (by omega) (by omega) (by omega) (by omega)
theorem inb (b : Prop) [Decidable b] : cmpB .eq (if b then (1 : Int32) else 0) 0 = !(decide b) := by
  by_cases q : b
  · rw [if_pos q, decide_eq_true q]; rfl
  · rw [if_neg q, decide_eq_false q]; rfl
theorem inbn (b : Prop) [Decidable b] : cmpB .ne (if b then (1 : Int32) else 0) 0 = decide b := by
  by_cases q : b
  · rw [if_pos q, decide_eq_true q]; rfl
  · rw [if_neg q, decide_eq_false q]; rfl
theorem cp_M (hH : HM S v H) (hR : ∀ i, i < 96 → S.1 183 i = R i) (h5 : R 220 = H.1 0 5) (h6 : R 221 = -1) : ∃ S', RX (d + 2) 235 [.ref 148] S = some (none, S') ∧ RM S' R ∧ (∀ c j, c ≠ 186 → ¬ (c = 148 ∧ (j = 56 ∨ j = 57)) → S'.1 c j = S.1 c j) ∧ S'.2 = S.2 := by
  obtain ⟨i1, i2⟩ := inl_v hH
  exact copies_M i1 hR (by rw [i2, hH.2.2.2.2.2.1]; exact h5) h6
theorem hm_k (h : HM S v H) (k0 : S'.1 148 18 = S.1 148 18) (e : ∀ c j, 150 ≤ c → c ≤ 180 → S'.1 c j = S.1 c j) : HM S' v H := by
  obtain ⟨h1, h2, h3, h4, h5, h6, h7, h8, h9, h10⟩ := h
  refine ⟨h1, by rw [k0]; exact h2, by rw [e _ _ (by decide) (by decide)]; exact h3, by rw [e _ _ (by decide) (by decide)]; exact h4, by rw [e _ _ (by decide) (by decide)]; exact h5, by rw [e _ _ (by decide) (by decide)]; exact h6, fun q => by rw [e _ _ (by decide) (by decide)]; exact h7 q, fun s hs => ?_, fun a ha => ?_, fun c j q1 q2 => by rw [e _ _ (by omega) (by omega)]; exact h10 c j q1 q2⟩
  · obtain ⟨g1, g2, g3, g4⟩ := h8 s hs
    exact ⟨by rw [e _ _ (by decide) (by decide)]; exact g1, by rw [e _ _ (by decide) (by decide)]; exact g2, by rw [e _ _ (by decide) (by decide)]; exact g3, fun k hk => by rw [e _ _ (by decide) (by decide)]; exact g4 k hk⟩
  · obtain ⟨g1, g2, g3⟩ := h9 a ha
    exact ⟨by rw [e _ _ (by decide) (by decide)]; exact g1, by rw [e _ _ (by decide) (by decide)]; exact g2, by rw [e _ _ (by decide) (by decide)]; exact g3⟩
theorem hm_cp (h : HM S v H) (k : ∀ c j, c ≠ 186 → ¬ (c = 148 ∧ (j = 56 ∨ j = 57)) → S'.1 c j = S.1 c j) : HM S' v H := hm_k h (k _ _ (by omega) (by omega)) (fun c j _ _ => k c j (by omega) (by omega))
theorem hm_up (h : HM S v H) (k : ∀ c j, c ≠ 184 → c ≠ 185 → S'.1 c j = S.1 c j) : HM S' v H := hm_k h (k _ _ (by omega) (by omega)) (fun c j _ _ => k c j (by omega) (by omega))
theorem nap_M (hH : HM S v H) (hV : HV H) (hR : ∀ i, i < 96 → S.1 183 i = R i) (h5 : R 220 = H.1 0 5) (h6 : R 221 = -1) (hU : (S.1 148 60).toInt = (U : Int)) (hU30 : U ≤ 30) : (NPP (slH H) R x1 x2 → ∃ S', RX (d + 3) 253 [.ref 148, .int x1, .int x2] S = some (some (.int 1), S') ∧ PSM S S' U (fallF R x1.toInt.toNat x2) ∧ PSL S S') ∧ (¬ NPP (slH H) R x1 x2 → RX (d + 3) 253 [.ref 148, .int x1, .int x2] S = some (some (.int 0), S)) := by
  have hsl := hV.2.1
  have k29 : limK (RX (d + 2)) (mdOf 253) 29 [some (.ref 148), some (.int x1), some (.int x2)] [] S = some (some (.int 0), S) := by rw [q_X12_nap_29]
  rw [e_X12_nap, q_X12_nap_0, isSl_M hH hV]
  show (_ → ∃ S', limK (RX (d + 2)) (mdOf 253) 5 _ [.int _] _ = _ ∧ _) ∧ (_ → limK (RX (d + 2)) (mdOf 253) 5 _ [.int _] _ = _)
  rw [q_X12_nap_5, inb, k29]
  unfold NPP
  by_cases p1 : 0 ≤ x1.toInt ∧ x1.toInt < slH H
  · rw [decide_eq_true p1, show (!true) = false from rfl, cond_false, show d + 2 = d + 1 + 1 from rfl, in_rx]
    show (_ → ∃ S', limK (RX (d + 2)) (mdOf 253) 15 _ [.int _] _ = _ ∧ _) ∧ (_ → limK (RX (d + 2)) (mdOf 253) 15 _ [.int _] _ = _)
    rw [q_X12_nap_15, inb, k29]
    by_cases p2 : (1 : Int32).toInt ≤ x2.toInt ∧ x2.toInt ≤ (12 : Int32).toInt
    · have p2' : 1 ≤ x2.toInt ∧ x2.toInt ≤ 12 := p2
      have hxe : x1.toInt = ((x1.toInt.toNat : Nat) : Int) := by omega
      have e4 := ixa (z := 4) (k := 4) rfl hxe (by omega)
      rw [decide_eq_true p2, show (!true) = false from rfl, cond_false, inR_of (n := 96) (by omega) (by omega), cond_true, tnc e4, hR _ (by omega)]
      rcases c_le (R (4 + x1.toInt.toNat)) 0 with ⟨a1, a2⟩ | ⟨a1, a2⟩
      · have a2 : (R (4 + x1.toInt.toNat)).toInt ≤ 0 := a2
        obtain ⟨S1, g1, g2, g3, g4⟩ := cp_M (d := d) hH hR h5 h6
        obtain ⟨S2, m1, m2, m3⟩ := fall_M (d := d + 1) (n := x2) g2 hxe (by omega)
        obtain ⟨S3, n1, n2, n3⟩ := psm_of (d := d) (S := S) (S2 := S2) m2.1 (fun c j q1 q2 q3 q4 q5 q6 => by rw [m3.1 c j q1 q2 q3 (by omega), g3 c j q1 (by omega)]) (m3.2.trans g4) hU hU30
        rw [a1, cond_true, g1]
        refine ⟨fun _ => ⟨S3, ?_, n2, fun j => ?_⟩, fun q => absurd ⟨p1.1, p1.2, p2'.1, p2'.2, a2⟩ q⟩
        · show limK (RX (d + 2)) (mdOf 253) 35 _ [] _ = _
          rw [q_X12_nap_35, show d + 2 = d + 1 + 1 from rfl, m1]
          show limK (RX (d + 2)) (mdOf 253) 41 _ [] _ = _
          rw [q_X12_nap_41, n1]
          show limK (RX (d + 2)) (mdOf 253) 45 _ [] _ = _
          rw [q_X12_nap_45]
        · obtain ⟨z1, z2⟩ := n3 j
          exact ⟨by rw [z1, m3.1 _ _ (by decide) (by decide) (by decide) (by omega), g3 _ _ (by decide) (by omega)], by rw [z2, m3.1 _ _ (by decide) (by decide) (by decide) (by omega), g3 _ _ (by decide) (by omega)]⟩
      · have a2 : 0 < (R (4 + x1.toInt.toNat)).toInt := a2
        rw [a1, cond_false]
        exact ⟨fun q => by omega, fun _ => rfl⟩
    · rw [decide_eq_false p2, show (!false) = true from rfl, cond_true]
      exact ⟨fun q => absurd ⟨q.2.2.1, q.2.2.2.1⟩ p2, fun _ => rfl⟩
  · rw [decide_eq_false p1, show (!false) = true from rfl, cond_true]
    exact ⟨fun q => absurd ⟨q.1, q.2.1⟩ p1, fun _ => rfl⟩
theorem wake_M (hH : HM S v H) (hV : HV H) (hR : ∀ i, i < 96 → S.1 183 i = R i) (h5 : R 220 = H.1 0 5) (h6 : R 221 = -1) (hn : ∀ a, a < 6 → 0 ≤ (R (4 + a)).toInt) (hU : (S.1 148 60).toInt = (U : Int)) (hU30 : U ≤ 30) : (WKP (slH H) R x1 → ∃ S', RX (d + 3) 255 [.ref 148, .int x1] S = some (some (.int 1), S') ∧ PSM S S' U (wkF R x1.toInt.toNat) ∧ PSL S S') ∧ (¬ WKP (slH H) R x1 → RX (d + 3) 255 [.ref 148, .int x1] S = some (some (.int 0), S)) := by
  have hsl := hV.2.1
  have k19 : limK (RX (d + 2)) (mdOf 255) 19 [some (.ref 148), some (.int x1)] [] S = some (some (.int 0), S) := by rw [q_X12_wake_19]
  rw [e_X12_wake, q_X12_wake_0, isSl_M hH hV]
  show (_ → ∃ S', limK (RX (d + 2)) (mdOf 255) 5 _ [.int _] _ = _ ∧ _) ∧ (_ → limK (RX (d + 2)) (mdOf 255) 5 _ [.int _] _ = _)
  rw [q_X12_wake_5, inb, k19]
  unfold WKP
  by_cases p1 : 0 ≤ x1.toInt ∧ x1.toInt < slH H
  · have hxe : x1.toInt = ((x1.toInt.toNat : Nat) : Int) := by omega
    have e4 := ixa (z := 4) (k := 4) rfl hxe (by omega)
    have hn4 := hn x1.toInt.toNat (by omega)
    rw [decide_eq_true p1, show (!true) = false from rfl, cond_false, inR_of (n := 96) (by omega) (by omega), cond_true, tnc e4, hR _ (by omega)]
    rcases c_ne (R (4 + x1.toInt.toNat)) 0 with ⟨a1, a2⟩ | ⟨a1, a2⟩
    · have a2 : (R (4 + x1.toInt.toNat)).toInt ≠ 0 := a2
      obtain ⟨S1, g1, g2, g3, g4⟩ := cp_M (d := d) hH hR h5 h6
      obtain ⟨S2, m1, m2, m3, m4⟩ := wakes_M (d := d + 1) g2 hxe (by omega)
      obtain ⟨S3, n1, n2, n3⟩ := psm_of (d := d) (S := S) (S2 := S2) m2.1 (fun c j q1 q2 q3 q4 q5 q6 => by rw [m3 c j q1, g3 c j q1 (by omega)]) (m4.trans g4) hU hU30
      rw [a1, cond_true, g1]
      refine ⟨fun _ => ⟨S3, ?_, n2, fun j => ?_⟩, fun q => absurd ⟨p1.1, p1.2, by omega⟩ q⟩
      · show limK (RX (d + 2)) (mdOf 255) 25 _ [] _ = _
        rw [q_X12_wake_25, show d + 2 = d + 1 + 1 from rfl, m1]
        show limK (RX (d + 2)) (mdOf 255) 30 _ [] _ = _
        rw [q_X12_wake_30, n1]
        show limK (RX (d + 2)) (mdOf 255) 34 _ [] _ = _
        rw [q_X12_wake_34]
      · obtain ⟨z1, z2⟩ := n3 j
        exact ⟨by rw [z1, m3 _ _ (by decide), g3 _ _ (by decide) (by omega)], by rw [z2, m3 _ _ (by decide), g3 _ _ (by decide) (by omega)]⟩
    · have a2 : (R (4 + x1.toInt.toNat)).toInt = 0 := a2
      rw [a1, cond_false]
      exact ⟨fun q => by omega, fun _ => rfl⟩
  · rw [decide_eq_false p1, show (!false) = true from rfl, cond_true]
    exact ⟨fun q => absurd ⟨q.1, q.2.1⟩ p1, fun _ => rfl⟩
theorem bed_M (hH : HM S v H) (hV : HV H) (hR : ∀ i, i < 96 → S.1 183 i = R i) (h5 : R 220 = H.1 0 5) (h6 : R 221 = -1) (hU : (S.1 148 60).toInt = (U : Int)) (hU30 : U ≤ 30) : (BDP (slH H) R x1 x2 → ∃ S', RX (d + 3) 256 [.ref 148, .int x1, .int x2] S = some (some (.int 1), S') ∧ PSM S S' U (up R (22 + x1.toInt.toNat) x2) ∧ PSL S S') ∧ (¬ BDP (slH H) R x1 x2 → RX (d + 3) 256 [.ref 148, .int x1, .int x2] S = some (some (.int 0), S)) := by
  have hsl := hV.2.1
  have k31 : limK (RX (d + 2)) (mdOf 256) 31 [some (.ref 148), some (.int x1), some (.int x2)] [] S = some (some (.int 0), S) := by rw [q_X12_bed_31]
  rw [e_X12_bed, q_X12_bed_0, isSl_M hH hV]
  show (_ → ∃ S', limK (RX (d + 2)) (mdOf 256) 5 _ [.int _] _ = _ ∧ _) ∧ (_ → limK (RX (d + 2)) (mdOf 256) 5 _ [.int _] _ = _)
  rw [q_X12_bed_5, inb, k31]
  unfold BDP
  by_cases p1 : 0 ≤ x1.toInt ∧ x1.toInt < slH H
  · rw [decide_eq_true p1, show (!true) = false from rfl, cond_false, show d + 2 = d + 1 + 1 from rfl, in_rx]
    show (_ → ∃ S', limK (RX (d + 2)) (mdOf 256) 15 _ [.int _] _ = _ ∧ _) ∧ (_ → limK (RX (d + 2)) (mdOf 256) 15 _ [.int _] _ = _)
    rw [q_X12_bed_15, inb, k31]
    by_cases p2 : (0 : Int32).toInt ≤ x2.toInt ∧ x2.toInt ≤ (23 : Int32).toInt
    · have p2' : 0 ≤ x2.toInt ∧ x2.toInt ≤ 23 := p2
      have hxe : x1.toInt = ((x1.toInt.toNat : Nat) : Int) := by omega
      have e22 := ixa (z := 22) (k := 22) rfl hxe (by omega)
      rw [decide_eq_true p2, show (!true) = false from rfl, cond_false, inR_of (n := 96) (by omega) (by omega), cond_true, tnc e22, hR _ (by omega)]
      rcases c_ne (R (22 + x1.toInt.toNat)) x2 with ⟨a1, a2⟩ | ⟨a1, a2⟩
      · obtain ⟨S1, g1, g2, g3, g4⟩ := cp_M (d := d) hH hR h5 h6
        have m2 : RM (uI S1 186 (22 + x1.toInt.toNat) x2) (up R (22 + x1.toInt.toNat) x2) := rm_w g2 (by omega)
        obtain ⟨S3, n1, n2, n3⟩ := psm_of (d := d) (S := S) m2.1 (fun c j q1 q2 q3 q4 q5 q6 => by rw [uI_ne _ _ _ _ q1, g3 c j q1 (by omega)]) g4 hU hU30
        rw [a1, cond_true, show d + 1 + 1 = d + 2 from rfl, g1]
        refine ⟨fun _ => ⟨S3, ?_, n2, fun j => ?_⟩, fun q => absurd ⟨p1.1, p1.2, p2'.1, by omega, fun z => a2 (by rw [z])⟩ q⟩
        · show limK (RX (d + 2)) (mdOf 256) 37 _ [] _ = _
          rw [q_X12_bed_37, inR_of (n := 96) (by omega) (by omega), cond_true, tnc e22, n1]
          show limK (RX (d + 2)) (mdOf 256) 51 _ [] _ = _
          rw [q_X12_bed_51]
        · obtain ⟨z1, z2⟩ := n3 j
          exact ⟨by rw [z1, uI_ne _ _ _ _ (by decide), g3 _ _ (by decide) (by omega)], by rw [z2, uI_ne _ _ _ _ (by decide), g3 _ _ (by decide) (by omega)]⟩
      · rw [a1, cond_false]
        exact ⟨fun q => absurd (Int32.toInt_inj.mp a2) q.2.2.2.2, fun _ => rfl⟩
    · rw [decide_eq_false p2, show (!false) = true from rfl, cond_true]
      exact ⟨fun q => absurd ⟨q.2.2.1, by show x2.toInt ≤ (23 : Int); omega⟩ p2, fun _ => rfl⟩
  · rw [decide_eq_false p1, show (!false) = true from rfl, cond_true]
    exact ⟨fun q => absurd ⟨q.1, q.2.1⟩ p1, fun _ => rfl⟩
theorem set_M (hH : HM S v H) (hV : HV H) (hR : ∀ i, i < 96 → S.1 183 i = R i) (h5 : R 220 = H.1 0 5) (h6 : R 221 = -1) (hU : (S.1 148 60).toInt = (U : Int)) (hU30 : U ≤ 30) : (STP (stH H) R x1 → ∃ S', RX (d + 3) 257 [.ref 148, .int x1] S = some (some (.int 1), S') ∧ PSM S S' U (up R 0 x1) ∧ PSL S S') ∧ (¬ STP (stH H) R x1 → RX (d + 3) 257 [.ref 148, .int x1] S = some (some (.int 0), S)) := by
  have k18 : limK (RX (d + 2)) (mdOf 257) 18 [some (.ref 148), some (.int x1)] [] S = some (some (.int 0), S) := by rw [q_X12_set_18]
  rw [e_X12_set, q_X12_set_0, isSt_M hH hV]
  show (_ → ∃ S', limK (RX (d + 2)) (mdOf 257) 5 _ [.int _] _ = _ ∧ _) ∧ (_ → limK (RX (d + 2)) (mdOf 257) 5 _ [.int _] _ = _)
  rw [q_X12_set_5, inb, k18, hR 0 (by decide)]
  unfold STP
  by_cases p1 : 0 ≤ x1.toInt ∧ x1.toInt < stH H
  · rw [decide_eq_true p1, show (!true) = false from rfl, cond_false]
    rcases c_ne (R 0) x1 with ⟨a1, a2⟩ | ⟨a1, a2⟩
    · obtain ⟨S1, g1, g2, g3, g4⟩ := cp_M (d := d) hH hR h5 h6
      have m2 : RM (uI S1 186 0 x1) (up R 0 x1) := rm_w g2 (by decide)
      obtain ⟨S3, n1, n2, n3⟩ := psm_of (d := d) (S := S) m2.1 (fun c j q1 q2 q3 q4 q5 q6 => by rw [uI_ne _ _ _ _ q1, g3 c j q1 (by omega)]) g4 hU hU30
      rw [a1, cond_true, g1]
      refine ⟨fun _ => ⟨S3, ?_, n2, fun j => ?_⟩, fun q => absurd ⟨p1.1, p1.2, fun z => a2 (by rw [z])⟩ q⟩
      · show limK (RX (d + 2)) (mdOf 257) 24 _ [] _ = _
        rw [q_X12_set_24, n1]
        show limK (RX (d + 2)) (mdOf 257) 35 _ [] _ = _
        rw [q_X12_set_35]
      · obtain ⟨z1, z2⟩ := n3 j
        exact ⟨by rw [z1, uI_ne _ _ _ _ (by decide), g3 _ _ (by decide) (by omega)], by rw [z2, uI_ne _ _ _ _ (by decide), g3 _ _ (by decide) (by omega)]⟩
    · rw [a1, cond_false]
      exact ⟨fun q => absurd (Int32.toInt_inj.mp a2) q.2.2, fun _ => rfl⟩
  · rw [decide_eq_false p1, show (!false) = true from rfl, cond_true]
    exact ⟨fun q => absurd ⟨q.1, q.2.1⟩ p1, fun _ => rfl⟩
theorem undo_M (hU : (S.1 148 60).toInt = (U : Int)) (hU30 : U ≤ 30) : (U = 0 → RX (d + 1) 258 [.ref 148] S = some (some (.int 0), S)) ∧ (0 < U → ∃ S', RX (d + 1) 258 [.ref 148] S = some (some (.int 1), S') ∧ (S'.1 148 60).toInt = (U : Int) - 1 ∧ (∀ k, k < 96 → S'.1 183 k = S.1 187 (96 * (U - 1) + k)) ∧ (∀ c j, c ≠ 183 → ¬ (c = 148 ∧ j = 60) → S'.1 c j = S.1 c j) ∧ S'.2 = S.2) := by
  rw [e_X12_undo, q_X12_undo_0]
  refine ⟨fun q => ?_, fun q => ?_⟩
  · rw [ne_f (by rw [hU, q]; rfl), cond_false]
  · have e4 : ((S.1 148 60) - 1).toInt = ((U - 1 : Nat) : Int) := by
      rw [sb_i (by show _ ≤ _ - (1 : Int); omega) (by show _ - (1 : Int) ≤ _; omega), hU]
      show (U : Int) - 1 = _
      omega
    have key : ∀ (m i : Nat) (x1 : Int32) (S1 : WS), i + m = 96 → x1.toInt = (i : Int) → WR (uI S 148 60 ((S.1 148 60) - 1)) S1 (fun c j => c = 183 ∧ j < i) (fun c j => S.1 187 (96 * (U - 1) + j)) → ∃ S', limK (RX d) (mdOf 258) 21 [some (.ref 148), some (.int x1)] [] S1 = some (some (.int 1), S') ∧ WR (uI S 148 60 ((S.1 148 60) - 1)) S' (fun c j => c = 183 ∧ j < 96) (fun c j => S.1 187 (96 * (U - 1) + j)) := by
      intro m
      induction m with
      | zero =>
        intro i x1 S1 hi hx hW
        rw [q_X12_undo_21, ge_t (by rw [hx]; show (96 : Int) ≤ _; omega), cond_true]
        exact ⟨S1, rfl, wr_iff hW (fun c j => by omega)⟩
      | succ m ih =>
        intro i x1 S1 hi hx hW
        have e60 : S1.1 148 60 = (S.1 148 60) - 1 := by rw [hW.2.1 _ _ (by omega), uI_i]
        have hix := ix96 (w := (S.1 148 60) - 1) e4 (by omega) hx (by omega)
        rw [q_X12_undo_21, ge_f (by rw [hx]; show _ < (96 : Int); omega), cond_false, e60, inR_of (n := 2880) (by omega) (by omega), cond_true, inR_of (n := 96) (by omega) (by omega), cond_true, tnc hx, tnc hix]
        refine ih (i + 1) (x1 + 1) _ (by omega) (inc_i hx (by omega)) (wr_step hW ?_ (fun c j => by omega))
        rw [hW.2.1 _ _ (by omega), uI_ne _ _ _ _ (by decide)]
    obtain ⟨S', g1, g2⟩ := key 96 0 0 _ (by decide) rfl (wr_0 (fun c j => by omega))
    rw [ne_t (by rw [hU]; show (U : Int) ≠ 0; omega), cond_true]
    refine ⟨S', g1, ?_, fun k hk => g2.1 _ _ ⟨rfl, hk⟩, fun c j q1 q2 => ?_, g2.2.2⟩
    · rw [g2.2.1 _ _ (by omega), uI_i, e4]
      omega
    · rw [g2.2.1 _ _ (by omega), uI_no _ _ _ _ q2]
theorem ix1296 {b : Nat} (hk : w.toInt = (k : Int)) (hk3 : k < 3) (hz : z.toInt = (b : Int)) (hb : b ≤ 1000) (hx : x1.toInt = (i : Int)) (hi : i < 600) : ((((1296 : Int32) * w) + z) + x1).toInt = ((1296 * k + b + i : Nat) : Int) := by
  have hm : ((1296 : Int32) * w).toInt = 1296 * (k : Int) := by
    rw [mu_i (by rw [hk]; show _ ≤ (1296 : Int) * _; omega) (by rw [hk]; show (1296 : Int) * _ ≤ _; omega), hk]
    rfl
  have h1 : (((1296 : Int32) * w) + z).toInt = 1296 * (k : Int) + b := by
    rw [ad_i (by omega) (by omega), hm, hz]
  rw [ad_i (by omega) (by omega), h1, hx]
  omega
theorem ix1296' (hk : w.toInt = (k : Int)) (hk3 : k < 3) (hx : x1.toInt = (i : Int)) (hi : i < 600) : (((1296 : Int32) * w) + x1).toInt = ((1296 * k + i : Nat) : Int) := by
  have hm : ((1296 : Int32) * w).toInt = 1296 * (k : Int) := by
    rw [mu_i (by rw [hk]; show _ ≤ (1296 : Int) * _; omega) (by rw [hk]; show (1296 : Int) * _ ≤ _; omega), hk]
    rfl
  rw [ad_i (by omega) (by omega), hm, hx]
  omega
theorem hold_M (hk : x1.toInt = (k : Int)) (hk3 : k < 3) : ∃ S', RX (d + 2) 306 [.ref 148, .int x1] S = some (some (.int 1), S') ∧ (∀ i, i < 96 → S'.1 199 (1296 * k + i) = S.1 183 i) ∧ (∀ i, i < 600 → S'.1 199 (1296 * k + 96 + i) = S.1 184 i ∧ S'.1 199 (1296 * k + 696 + i) = S.1 185 i) ∧ (∀ i, i < 1296 * k ∨ 1296 * k + 1296 ≤ i → S'.1 199 i = S.1 199 i) ∧ S'.1 198 k = 1 ∧ (∀ c j, c ≠ 199 → ¬ (c = 198 ∧ j = k) → S'.1 c j = S.1 c j) ∧ S'.2 = S.2 := by
  have key1 : ∀ (m i : Nat) (x2 : Int32) (S1 : WS), i + m = 96 → x2.toInt = (i : Int) → WR (uI S 198 k 1) S1 (fun c j => c = 199 ∧ 1296 * k ≤ j ∧ j < 1296 * k + i) (fun c j => S.1 183 (j - 1296 * k)) → ∃ S', limK (RX (d + 1)) (mdOf 306) 20 [some (.ref 148), some (.int x1), some (.int x2)] [] S1 = limK (RX (d + 1)) (mdOf 306) 52 [some (.ref 148), some (.int x1), some (.int 0)] [] S' ∧ WR (uI S 198 k 1) S' (fun c j => c = 199 ∧ 1296 * k ≤ j ∧ j < 1296 * k + 96) (fun c j => S.1 183 (j - 1296 * k)) := by
    intro m
    induction m with
    | zero =>
      intro i x2 S1 hi hx hW
      rw [q_X12_hold_20, ge_t (by rw [hx]; show (96 : Int) ≤ _; omega), cond_true]
      exact ⟨S1, rfl, wr_iff hW (fun c j => by omega)⟩
    | succ m ih =>
      intro i x2 S1 hi hx hW
      have hix := ix1296' hk hk3 hx (by omega)
      rw [q_X12_hold_20, ge_f (by rw [hx]; show _ < (96 : Int); omega), cond_false, inR_of (n := 96) (by omega) (by omega), cond_true, inR_of (n := 3888) (by omega) (by omega), cond_true, tnc hx, tnc hix]
      refine ih (i + 1) (x2 + 1) _ (by omega) (inc_i hx (by omega)) (wr_step hW ?_ (fun c j => by omega))
      rw [hW.2.1 _ _ (by omega), uI_ne _ _ _ _ (by decide)]
      show _ = S.1 183 (1296 * k + i - 1296 * k)
      rw [show 1296 * k + i - 1296 * k = i by omega]
  obtain ⟨SA, a1, a2⟩ := key1 96 0 0 _ (by decide) rfl (wr_0 (fun c j => by omega))
  have key2 : ∀ (m i : Nat) (x2 : Int32) (S1 : WS), i + m = 600 → x2.toInt = (i : Int) → WR SA S1 (fun c j => c = 199 ∧ ((1296 * k + 96 ≤ j ∧ j < 1296 * k + 96 + i) ∨ (1296 * k + 696 ≤ j ∧ j < 1296 * k + 696 + i))) (fun c j => if j < 1296 * k + 696 then S.1 184 (j - (1296 * k + 96)) else S.1 185 (j - (1296 * k + 696))) → ∃ S', limK (RX (d + 1)) (mdOf 306) 52 [some (.ref 148), some (.int x1), some (.int x2)] [] S1 = some (some (.int 1), S') ∧ WR SA S' (fun c j => c = 199 ∧ 1296 * k + 96 ≤ j ∧ j < 1296 * k + 1296) (fun c j => if j < 1296 * k + 696 then S.1 184 (j - (1296 * k + 96)) else S.1 185 (j - (1296 * k + 696))) := by
    intro m
    induction m with
    | zero =>
      intro i x2 S1 hi hx hW
      rw [q_X12_hold_52, ge_t (by rw [hx]; show (600 : Int) ≤ _; omega), cond_true]
      exact ⟨S1, rfl, wr_iff hW (fun c j => by omega)⟩
    | succ m ih =>
      intro i x2 S1 hi hx hW
      have i96 := ix1296 (z := 96) (b := 96) hk hk3 rfl (by decide) hx (by omega)
      have i696 := ix1296 (z := 696) (b := 696) hk hk3 rfl (by decide) hx (by omega)
      rw [q_X12_hold_52, ge_f (by rw [hx]; show _ < (600 : Int); omega), cond_false, inR_of (n := 600) (by omega) (by omega), cond_true, inR_of (n := 3888) (by omega) (by omega), cond_true, cond_true, inR_of (n := 3888) (by omega) (by omega), cond_true, tnc hx, tnc i96, tnc i696]
      have s1 : WR SA (uI S1 199 (1296 * k + 96 + i) (S1.1 184 i)) (fun c j => (c = 199 ∧ ((1296 * k + 96 ≤ j ∧ j < 1296 * k + 96 + i) ∨ (1296 * k + 696 ≤ j ∧ j < 1296 * k + 696 + i))) ∨ (c = 199 ∧ j = 1296 * k + 96 + i)) (fun c j => if j < 1296 * k + 696 then S.1 184 (j - (1296 * k + 96)) else S.1 185 (j - (1296 * k + 696))) := by
        refine wr_step hW ?_ (fun c j => Iff.rfl)
        show _ = if 1296 * k + 96 + i < 1296 * k + 696 then S.1 184 (1296 * k + 96 + i - (1296 * k + 96)) else S.1 185 (1296 * k + 96 + i - (1296 * k + 696))
        rw [if_pos (by omega), show 1296 * k + 96 + i - (1296 * k + 96) = i by omega, hW.2.1 _ _ (by omega), a2.2.1 _ _ (by omega), uI_ne _ _ _ _ (by decide)]
      refine ih (i + 1) (x2 + 1) _ (by omega) (inc_i hx (by omega)) (wr_step s1 ?_ (fun c j => by omega))
      show _ = if 1296 * k + 696 + i < 1296 * k + 696 then S.1 184 (1296 * k + 696 + i - (1296 * k + 96)) else S.1 185 (1296 * k + 696 + i - (1296 * k + 696))
      rw [if_neg (by omega), show 1296 * k + 696 + i - (1296 * k + 696) = i by omega, hW.2.1 _ _ (by omega), a2.2.1 _ _ (by omega), uI_ne _ _ _ _ (by decide)]
  obtain ⟨SB, b1, b2⟩ := key2 600 0 0 SA (by decide) rfl (wr_0 (fun c j => by omega))
  rw [e_X12_hold, q_X12_hold_0, in_rx]
  show ∃ S', limK (RX (d + 1)) (mdOf 306) 6 _ [.int _] _ = _ ∧ _
  rw [q_X12_hold_6, inbn, decide_eq_true (show (0 : Int32).toInt ≤ x1.toInt ∧ x1.toInt ≤ (2 : Int32).toInt by show (0 : Int) ≤ _ ∧ _ ≤ (2 : Int); omega), cond_true, inR_of (n := 3) (by omega) (by omega), cond_true, tnc hk, show (1 : Int32) &&& 1 = 1 from rfl, a1, b1]
  refine ⟨SB, rfl, fun i hi => ?_, fun i hi => ⟨?_, ?_⟩, fun i hi => ?_, ?_, fun c j q1 q2 => ?_, b2.2.2.trans a2.2.2⟩
  · rw [b2.2.1 _ _ (by omega), a2.1 _ _ ⟨rfl, by omega, by omega⟩]
    show S.1 183 (1296 * k + i - 1296 * k) = _
    rw [show 1296 * k + i - 1296 * k = i by omega]
  · rw [b2.1 _ _ ⟨rfl, by omega, by omega⟩]
    show (if 1296 * k + 96 + i < 1296 * k + 696 then S.1 184 (1296 * k + 96 + i - (1296 * k + 96)) else S.1 185 (1296 * k + 96 + i - (1296 * k + 696))) = _
    rw [if_pos (by omega), show 1296 * k + 96 + i - (1296 * k + 96) = i by omega]
  · rw [b2.1 _ _ ⟨rfl, by omega, by omega⟩]
    show (if 1296 * k + 696 + i < 1296 * k + 696 then S.1 184 (1296 * k + 696 + i - (1296 * k + 96)) else S.1 185 (1296 * k + 696 + i - (1296 * k + 696))) = _
    rw [if_neg (by omega), show 1296 * k + 696 + i - (1296 * k + 696) = i by omega]
  · rw [b2.2.1 _ _ (by omega), a2.2.1 _ _ (by omega), uI_ne _ _ _ _ (by decide)]
  · rw [b2.2.1 _ _ (by omega), a2.2.1 _ _ (by omega), uI_i]
  · rw [b2.2.1 _ _ (by omega), a2.2.1 _ _ (by omega), uI_no _ _ _ _ q2]
theorem restore_M (hk : x1.toInt = (k : Int)) (hk3 : k < 3) (hh : S.1 198 k ≠ 0) : ∃ S', RX (d + 2) 307 [.ref 148, .int x1] S = some (some (.int 1), S') ∧ (∀ i, i < 96 → S'.1 183 i = S.1 199 (1296 * k + i)) ∧ (∀ i, i < 600 → S'.1 184 i = S.1 199 (1296 * k + 96 + i) ∧ S'.1 185 i = S.1 199 (1296 * k + 696 + i)) ∧ S'.1 148 60 = 0 ∧ (∀ c j, c ≠ 183 → c ≠ 184 → c ≠ 185 → ¬ (c = 148 ∧ j = 60) → S'.1 c j = S.1 c j) ∧ S'.2 = S.2 := by
  have key1 : ∀ (m i : Nat) (x2 : Int32) (S1 : WS), i + m = 96 → x2.toInt = (i : Int) → WR S S1 (fun c j => c = 183 ∧ j < i) (fun c j => S.1 199 (1296 * k + j)) → ∃ S', limK (RX (d + 1)) (mdOf 307) 22 [some (.ref 148), some (.int x1), some (.int x2)] [] S1 = limK (RX (d + 1)) (mdOf 307) 54 [some (.ref 148), some (.int x1), some (.int 0)] [] S' ∧ WR S S' (fun c j => c = 183 ∧ j < 96) (fun c j => S.1 199 (1296 * k + j)) := by
    intro m
    induction m with
    | zero =>
      intro i x2 S1 hi hx hW
      rw [q_X12_restore_22, ge_t (by rw [hx]; show (96 : Int) ≤ _; omega), cond_true]
      exact ⟨S1, rfl, wr_iff hW (fun c j => by omega)⟩
    | succ m ih =>
      intro i x2 S1 hi hx hW
      have hix := ix1296' hk hk3 hx (by omega)
      rw [q_X12_restore_22, ge_f (by rw [hx]; show _ < (96 : Int); omega), cond_false, inR_of (n := 3888) (by omega) (by omega), cond_true, inR_of (n := 96) (by omega) (by omega), cond_true, tnc hx, tnc hix]
      exact ih (i + 1) (x2 + 1) _ (by omega) (inc_i hx (by omega)) (wr_step hW (hW.2.1 _ _ (by omega)) (fun c j => by omega))
  obtain ⟨SA, a1, a2⟩ := key1 96 0 0 S (by decide) rfl (wr_0 (fun c j => by omega))
  have key2 : ∀ (m i : Nat) (x2 : Int32) (S1 : WS), i + m = 600 → x2.toInt = (i : Int) → WR SA S1 (fun c j => (c = 184 ∧ j < i) ∨ (c = 185 ∧ j < i)) (fun c j => if c = 184 then S.1 199 (1296 * k + 96 + j) else S.1 199 (1296 * k + 696 + j)) → ∃ S', limK (RX (d + 1)) (mdOf 307) 54 [some (.ref 148), some (.int x1), some (.int x2)] [] S1 = some (some (.int 1), uI S' 148 60 0) ∧ WR SA S' (fun c j => (c = 184 ∧ j < 600) ∨ (c = 185 ∧ j < 600)) (fun c j => if c = 184 then S.1 199 (1296 * k + 96 + j) else S.1 199 (1296 * k + 696 + j)) := by
    intro m
    induction m with
    | zero =>
      intro i x2 S1 hi hx hW
      rw [q_X12_restore_54, ge_t (by rw [hx]; show (600 : Int) ≤ _; omega), cond_true]
      exact ⟨S1, rfl, wr_iff hW (fun c j => by omega)⟩
    | succ m ih =>
      intro i x2 S1 hi hx hW
      have i96 := ix1296 (z := 96) (b := 96) hk hk3 rfl (by decide) hx (by omega)
      have i696 := ix1296 (z := 696) (b := 696) hk hk3 rfl (by decide) hx (by omega)
      rw [q_X12_restore_54, ge_f (by rw [hx]; show _ < (600 : Int); omega), cond_false, inR_of (n := 3888) (by omega) (by omega), cond_true, inR_of (n := 600) (by omega) (by omega), cond_true, inR_of (n := 3888) (by omega) (by omega), cond_true, cond_true, tnc hx, tnc i96, tnc i696]
      have s1 : WR SA (uI S1 184 i (S1.1 199 (1296 * k + 96 + i))) (fun c j => ((c = 184 ∧ j < i) ∨ (c = 185 ∧ j < i)) ∨ (c = 184 ∧ j = i)) (fun c j => if c = 184 then S.1 199 (1296 * k + 96 + j) else S.1 199 (1296 * k + 696 + j)) := by
        refine wr_step hW ?_ (fun c j => Iff.rfl)
        show _ = if 184 = 184 then S.1 199 (1296 * k + 96 + i) else S.1 199 (1296 * k + 696 + i)
        rw [if_pos rfl, hW.2.1 _ _ (by omega), a2.2.1 _ _ (by omega)]
      refine ih (i + 1) (x2 + 1) _ (by omega) (inc_i hx (by omega)) (wr_step s1 ?_ (fun c j => by omega))
      show _ = if 185 = 184 then S.1 199 (1296 * k + 96 + i) else S.1 199 (1296 * k + 696 + i)
      rw [if_neg (by decide), hW.2.1 _ _ (by omega), a2.2.1 _ _ (by omega)]
  obtain ⟨SB, b1, b2⟩ := key2 600 0 0 SA (by decide) rfl (wr_0 (fun c j => by omega))
  rw [e_X12_restore, q_X12_restore_0, in_rx]
  show ∃ S', limK (RX (d + 1)) (mdOf 307) 6 _ [.int _] _ = _ ∧ _
  rw [q_X12_restore_6, inb, decide_eq_true (show (0 : Int32).toInt ≤ x1.toInt ∧ x1.toInt ≤ (2 : Int32).toInt by show (0 : Int) ≤ _ ∧ _ ≤ (2 : Int); omega), show (!true) = false from rfl, cond_false, inR_of (n := 3) (by omega) (by omega), cond_true, tnc hk, ne_t (fun q => hh (Int32.toInt_inj.mp q)), cond_true, a1, b1]
  refine ⟨_, rfl, fun i hi => ?_, fun i hi => ⟨?_, ?_⟩, uI_i _, fun c j q1 q2 q3 q4 => ?_, b2.2.2.trans a2.2.2⟩
  · rw [uI_ne _ _ _ _ (by decide), b2.2.1 _ _ (by omega), a2.1 _ _ ⟨rfl, hi⟩]
  · rw [uI_ne _ _ _ _ (by decide), b2.1 _ _ (.inl ⟨rfl, hi⟩)]
    exact if_pos rfl
  · rw [uI_ne _ _ _ _ (by decide), b2.1 _ _ (.inr ⟨rfl, hi⟩)]
    exact if_neg (by decide)
  · rw [uI_no _ _ _ _ q4, b2.2.1 _ _ (by omega), a2.2.1 _ _ (by omega)]
end RMV
end
section
/-! hours: the class's, the reference's -/
def byF (u p : Int32) : Int32 := (((((((u - (-2 : Int32)) * (16 : Int32)) + p) - (-2 : Int32))).toInt8.toInt32).toInt8.toInt32)
def byK (u p : Int32) : Bool := decide ((byF u p).toInt = 16 * (u.toInt + 2) + p.toInt + 2)
theorem by_t : (byK (-2) (-2) && ((List.range 10).all (fun b => byK (-2) (Int32.ofNat b)) && ((List.range 6).all (fun a => byK (Int32.ofNat a) (-2)) && (List.range 6).all (fun a => (List.range 10).all (fun b => byK (Int32.ofNat a) (Int32.ofNat b)))))) = true := by decide +kernel
theorem by_v {u p : Int32} (h : LG1 u p) : (byF u p).toInt = 16 * (u.toInt + 2) + p.toInt + 2 := by
  have t := by_t
  simp only [Bool.and_eq_true] at t
  obtain ⟨t1, t2, t3, t4⟩ := t
  obtain ⟨h1, h2⟩ := h
  rcases h1 with rfl | h1
  · rcases h2 with rfl | h2
    · exact of_decide_eq_true t1
    · have e := of_n0 (z := p) (a := p.toInt.toNat) (by omega) (by omega)
      have := List.all_eq_true.mp t2 p.toInt.toNat (List.mem_range.mpr (by omega))
      rw [← e] at this
      exact of_decide_eq_true this
  · have ea := of_n0 (z := u) (a := u.toInt.toNat) (by omega) (by omega)
    rcases h2 with rfl | h2
    · have := List.all_eq_true.mp t3 u.toInt.toNat (List.mem_range.mpr (by omega))
      rw [← ea] at this
      exact of_decide_eq_true this
    · have e := of_n0 (z := p) (a := p.toInt.toNat) (by omega) (by omega)
      have := List.all_eq_true.mp (List.all_eq_true.mp t4 u.toInt.toNat (List.mem_range.mpr (by omega))) p.toInt.toNat (List.mem_range.mpr (by omega))
      rw [← e, ← ea] at this
      exact of_decide_eq_true this
section HRS
variable {x y d n U a i j k h v m : Nat} {T T' T1 : TZ} {S S' S1 S2 : WS} {R R' : RW} {H : HO} {x1 x2 x3 z : Int32} {o2 o3 : Option Value}
theorem write_C (h1 : x1.toInt = (h : Int)) (h6 : h < 600) : RX (d + 1) 34 [.ref 38, .int x1, .int x2, .int x3] (wS x y T) = some (none, wS x y (zI T 39 h (byF x2 x3))) := by
  rw [e_X3_write, q_X3_write_0, lt_f (by rw [h1]; show (0 : Int) ≤ _; omega), cond_false, ge_f (by rw [h1]; show _ < (600 : Int); omega), cond_false, inR_of (n := 600) (by omega) (by omega), cond_true, tnc h1, q_X3_write_30]
  rfl
theorem cs_ne (h : CSt T 36 R) (hc : ∀ c j, c = 36 ∨ c = 37 → T'.1 c j = T.1 c j) : CSt T' 36 R := cs_o h (fun j _ => hc _ _ (.inl rfl)) (fun j => hc _ _ (.inr rfl))
theorem hrs_C (hx : x = 10 ∨ x = 23) (hV : HV H) (hL : LWC x y H) (hn : x1.toInt = (n : Int)) (hn6 : n ≤ 600) : ∀ (m : Nat) (T : TZ) (R : RW) (x2 : Int32) (o3 : Option Value), x2.toInt + m = n → 0 ≤ x2.toInt → (R 2).toInt + m ≤ 600 → HCC T x H → CSt T 36 R → RV H R → FLG R → ∃ T', limK (RX (d + 6)) (mdOf 152) 38 [some (.ref 0), some (.int x1), some (.int x2), o3] [] (wS x y T) = some (some (.int (goF H m R 2)), wS x y T') ∧ CSt T' 36 (goF H m R) ∧ T'.2 = T.2 ∧ (∀ c j, c ≠ 36 → c ≠ 37 → c ≠ 39 → c ≠ x + 11 → c ≠ x + 12 → T'.1 c j = T.1 c j) ∧ (∀ h : Nat, (h : Int) < (R 2).toInt → T'.1 39 h = T.1 39 h) ∧ ∀ i, i < m → (T'.1 39 ((R 2).toInt.toNat + i)).toInt = 16 * ((goF H (i + 1) R 222).toInt + 2) + (goF H (i + 1) R 223).toInt + 2 := by
  intro m
  induction m with
  | zero =>
    intro T R x2 o3 h1 h0 h6 hH hC hR hF
    rw [q_X11_hours_38 (hx := hx), ge_t (by omega), cond_true, hC.1]
    exact ⟨T, rfl, hC, rfl, fun _ _ _ _ _ _ _ => rfl, fun _ _ => rfl, fun i hi => absurd hi (by omega)⟩
  | succ m ih =>
    intro T R x2 o3 h1 h0 h6 hH hC hR hF
    have h20 := hR.1
    obtain ⟨TA, a1, a2, a3, a4⟩ := pass1_C (y := y) (d := d) (s := 36) (.inl rfl) hx hV hL hH hC hR hF (by omega)
    obtain ⟨v1, v2, v3⟩ := rv_hour hV hR hF (by omega)
    have hlg := hour_log hV hR hF
    have e2 : (hourF H R 2).toInt = (R 2).toInt + 1 := by rw [v3, rv1_2 (by omega)]
    have hr : (R 2).toInt = (((R 2).toInt.toNat : Nat) : Int) := by omega
    have hxi : (x2 + 1).toInt = x2.toInt + 1 := by
      rw [ad_i (by show _ ≤ _ + (1 : Int); omega) (by show _ + (1 : Int) ≤ _; omega)]
      rfl
    have fB : ∀ c j, c ≠ 39 → (zI TA 39 (R 2).toInt.toNat (byF (hourF H R 222) (hourF H R 223))).1 c j = TA.1 c j := fun c j q => zI_ne _ q
    have cB : CSt (zI TA 39 (R 2).toInt.toNat (byF (hourF H R 222) (hourF H R 223))) 36 (hourF H R) := cs_ne a2 (fun c j q => fB c j (by omega))
    have hB : HCC (zI TA 39 (R 2).toInt.toNat (byF (hourF H R 222) (hourF H R 223))) x H := fun k' j hk => by
      rw [fB _ _ (by omega)]
      exact hcc_cf (.inl rfl) hx hH a3 k' j hk
    obtain ⟨T', b1, b2, b3, b4, b5, b6⟩ := ih _ (hourF H R) (x2 + 1) (some (.int (R 2))) (by omega) (by omega) (by omega) hB cB v1 (flz_flg v2)
    rw [q_X11_hours_38 (hx := hx), ge_f (by omega), cond_false, hC.1, a1]
    show ∃ T', limK (RX (d + 6)) (mdOf 152) 63 _ [] _ = _ ∧ _
    rw [q_X11_hours_63 (hx := hx), a4.1, a4.2.1, show d + 6 = d + 5 + 1 from rfl, write_C hr (by omega)]
    show ∃ T', limK (RX (d + 6)) (mdOf 152) 85 _ [] _ = _ ∧ _
    rw [q_X11_hours_85 (hx := hx), b1]
    have hgo : goF H (m + 1) R = goF H m (hourF H R) := go_s (by omega)
    refine ⟨T', by rw [hgo], by rw [hgo]; exact b2, b3.trans a3.2, fun c j q1 q2 q3 q4 q5 => ?_, fun h hh => ?_, fun i hi => ?_⟩
    · rw [b4 c j q1 q2 q3 q4 q5, fB c j q3]
      exact a3.1 c j q1 q2 q4 q5
    · rw [b5 h (by omega), zI_j _ (by omega)]
      exact a3.1 39 h (by decide) (by decide) (by omega) (by omega)
    · cases i with
      | zero =>
        rw [Nat.add_zero, b5 _ (by omega), zI_i, by_v hlg.1, Nat.zero_add, go_s (n := 0) (by omega)]
        rfl
      | succ i =>
        have z := b6 i (by omega)
        rw [go_s (by omega), show (R 2).toInt.toNat + (i + 1) = (hourF H R 2).toInt.toNat + i by omega]
        exact z
theorem hours_C (hx : x = 10 ∨ x = 23) (hV : HV H) (hL : LWC x y H) (hH : HCC T x H) (hC : CSt T 36 R) (hR : RV H R) (hF : FLG R) (hn : (T.1 40 1).toInt = (n : Int)) (h30 : n < 30) (hU : 0 ≤ (T.1 40 2).toInt ∧ (T.1 40 2).toInt ≤ 30) : (∀ m : Nat, 0 < m → x1.toInt = (m : Int) → (R 2).toInt + m ≤ 600 → ∃ T1 T', KPT T T1 n ∧ RX (d + 7) 152 [.ref 0, .int x1] (wS x y T) = some (some (.int (goF H m R 2)), wS x y T') ∧ CSt T' 36 (goF H m R) ∧ T'.2 = T.2 ∧ (∀ c j, c ≠ 36 → c ≠ 37 → c ≠ 39 → c ≠ x + 11 → c ≠ x + 12 → T'.1 c j = T1.1 c j) ∧ (∀ h : Nat, (h : Int) < (R 2).toInt → T'.1 39 h = T.1 39 h) ∧ ∀ i, i < m → (T'.1 39 ((R 2).toInt.toNat + i)).toInt = 16 * ((goF H (i + 1) R 222).toInt + 2) + (goF H (i + 1) R 223).toInt + 2) ∧ (x1.toInt = 0 → RX (d + 7) 152 [.ref 0, .int x1] (wS x y T) = some (some (.int (R 2)), wS x y T)) ∧ (x1.toInt < 0 ∨ 600 < (R 2).toInt + x1.toInt → RX (d + 7) 152 [.ref 0, .int x1] (wS x y T) = some (some (.int (-1)), wS x y T)) := by
  have h20 := hR.1
  have k19 : limK (RX (d + 6)) (mdOf 152) 19 [some (.ref 0), some (.int x1), none, none] [] (wS x y T) = some (some (.int (-1)), wS x y T) := by rw [q_X11_hours_19 (hx := hx)]
  have e6 : ((600 : Int32) - R 2).toInt = 600 - (R 2).toInt := by
    rw [sb_i (by show _ ≤ (600 : Int) - _; omega) (by show (600 : Int) - _ ≤ _; omega)]
    rfl
  rw [e_X11_hours, q_X11_hours_0 (hx := hx), k19, hC.1]
  refine ⟨fun m hm0 hm h6 => ?_, fun q => ?_, fun q => ?_⟩
  · obtain ⟨T1, g1, g2⟩ := keep_C (x := x) (y := y) (d := d + 4) hn h30 hU
    have hH1 : HCC T1 x H := fun k' j hk => by
      rw [g2.2.2.2.2.2 _ _ (by omega) (by omega) (by omega)]
      exact hH k' j hk
    obtain ⟨T', b1, b2, b3, b4, b5, b6⟩ := hrs_C (y := y) (d := d) (n := m) (x1 := x1) hx hV hL hm (by omega) m T1 R 0 none (by show (0 : Int) + _ = _; omega) (by decide) h6 hH1 (cs_kp hC g2 h30) hR hF
    refine ⟨T1, T', g2, ?_, b2, b3.trans g2.1, b4, fun h hh => ?_, b6⟩
    · rw [lt_f (by show (0 : Int) ≤ _; omega), cond_false, le_t (by rw [e6]; omega), cond_true, le_f (by show (0 : Int) < _; omega), cond_false, show d + 6 = d + 4 + 2 from rfl, g1]
      show limK (RX (d + 6)) (mdOf 152) 36 _ [] _ = _
      rw [q_X11_hours_36 (hx := hx), b1]
    · rw [b5 h hh]
      exact g2.2.2.2.2.2 _ _ (by omega) (by omega) (by omega)
  · rw [lt_f (by show (0 : Int) ≤ _; omega), cond_false, le_t (by rw [e6]; omega), cond_true, le_t (by show _ ≤ (0 : Int); omega), cond_true, q_X11_hours_36 (hx := hx), q_X11_hours_38 (hx := hx), ge_t (by show _ ≤ (0 : Int); omega), cond_true, hC.1]
  · rcases c_lt x1 0 with ⟨a1, a2⟩ | ⟨a1, a2⟩
    · rw [a1, cond_true]
    · have a2 : 0 ≤ x1.toInt := a2
      rw [a1, cond_false, le_f (by rw [e6]; omega), cond_false]
theorem hrs_M (hV : HV H) (hL : LWM v H) (hn : x1.toInt = (n : Int)) (hn6 : n ≤ 600) : ∀ (m : Nat) (S : WS) (R : RW) (x2 : Int32), x2.toInt + m = n → 0 ≤ x2.toInt → (R 2).toInt + m ≤ 600 → HM S v H → RM S R → RV H R → FLG R → ∃ (S' : WS) (x2' : Int32), limK (RX (d + 5)) (mdOf 252) 44 [some (.ref 148), some (.int x1), some (.int x2)] [] S = kbd (limK (RX (d + 5)) (mdOf 252)) 97 [some (.ref 148), some (.int x1), some (.int x2')] [] (RX (d + 5) 251 [.ref 148] S') ∧ RM S' (goF H m R) ∧ S'.2 = S.2 ∧ (∀ c j, c ≠ 186 → c ≠ 181 → c ≠ 182 → c ≠ 184 → c ≠ 185 → ¬ (c = 148 ∧ (j = 51 ∨ j = 58 ∨ j = 59)) → S'.1 c j = S.1 c j) ∧ (∀ h : Nat, (h : Int) < (R 2).toInt → S'.1 184 h = S.1 184 h ∧ S'.1 185 h = S.1 185 h) ∧ ∀ i, i < m → S'.1 184 ((R 2).toInt.toNat + i) = goF H (i + 1) R 225 ∧ S'.1 185 ((R 2).toInt.toNat + i) = goF H (i + 1) R 223 := by
  intro m
  induction m with
  | zero =>
    intro S R x2 h1 h0 h6 hH hM hR hF
    rw [q_X12_hours_44, ge_t (by omega), cond_true]
    exact ⟨S, x2, rfl, hM, rfl, fun _ _ _ _ _ _ _ _ => rfl, fun _ _ => ⟨rfl, rfl⟩, fun i hi => absurd hi (by omega)⟩
  | succ m ih =>
    intro S R x2 h1 h0 h6 hH hM hR hF
    have h20 := hR.1
    obtain ⟨SA, a1, a2, a3, a4, a5⟩ := hourGoes_M (d := d + 1) hV hL hH hM hR hF
    obtain ⟨v1, v2, v3⟩ := rv_hour hV hR hF (by omega)
    have e2 : (hourF H R 2).toInt = (R 2).toInt + 1 := by rw [v3, rv1_2 (by omega)]
    have e3 : ((hourF H R 2) - 1).toInt = (((R 2).toInt.toNat : Nat) : Int) := by
      rw [sb_i (by show _ ≤ _ - (1 : Int); omega) (by show _ - (1 : Int) ≤ _; omega), e2]
      show (R 2).toInt + 1 - 1 = _
      omega
    have hxi : (x2 + 1).toInt = x2.toInt + 1 := by
      rw [ad_i (by show _ ≤ _ + (1 : Int); omega) (by show _ + (1 : Int) ≤ _; omega)]
      rfl
    have fB : ∀ (S3 : WS) c j, S3 = uI (uI SA 184 (R 2).toInt.toNat (SA.1 148 58)) 185 (R 2).toInt.toNat (SA.1 148 59) → c ≠ 184 → c ≠ 185 → S3.1 c j = SA.1 c j := fun S3 c j e q1 q2 => by rw [e, uI_ne _ _ _ _ q2, uI_ne _ _ _ _ q1]
    have w4 : ∀ S3 : WS, S3 = uI (uI SA 184 (R 2).toInt.toNat (SA.1 148 58)) 185 (R 2).toInt.toNat (SA.1 148 59) → S3.2 = SA.2 ∧ S3.1 184 (R 2).toInt.toNat = SA.1 148 58 ∧ S3.1 185 (R 2).toInt.toNat = SA.1 148 59 ∧ (∀ h, h ≠ (R 2).toInt.toNat → S3.1 184 h = SA.1 184 h ∧ S3.1 185 h = SA.1 185 h) := fun S3 e => by
      rw [e]
      refine ⟨rfl, by rw [uI_ne _ _ _ _ (by decide), uI_i], uI_i _, fun h hh => ⟨by rw [uI_ne _ _ _ _ (by decide), uI_j _ hh], by rw [uI_j _ hh, uI_ne _ _ _ _ (by decide)]⟩⟩
    rw [q_X12_hours_44, ge_f (by omega), cond_false, show d + 5 = d + 1 + 4 from rfl, a1]
    show ∃ S' x2', limK (RX (d + 5)) (mdOf 252) 53 _ [] _ = _ ∧ _
    rw [q_X12_hours_53, a2.1 2 (by decide), inR_of (n := 600) (by omega) (by omega), cond_true, cond_true, tnc e3]
    revert fB w4
    generalize hS3 : uI (uI SA 184 (R 2).toInt.toNat (SA.1 148 58)) 185 (R 2).toInt.toNat (SA.1 148 59) = S3
    intro fB w4
    have fB := fun c j => fB S3 c j rfl
    obtain ⟨w0, w1, w2, w3⟩ := w4 S3 rfl
    have cB : RM S3 (hourF H R) := rm_o a2 (fun j => fB _ _ (by decide) (by decide)) (fB _ _ (by decide) (by decide)) (fB _ _ (by decide) (by decide))
    have hB : HM S3 v H := hm_up (hm_rf hH a3) (fun c j q1 q2 => fB c j q1 q2)
    obtain ⟨S', x2', b1, b2, b3, b4, b5, b6⟩ := ih S3 (hourF H R) (x2 + 1) (by omega) (by omega) (by omega) hB cB v1 (flz_flg v2)
    have hgo : goF H (m + 1) R = goF H m (hourF H R) := go_s (by omega)
    refine ⟨S', x2', b1, by rw [hgo]; exact b2, b3.trans (w0.trans a3.2), fun c j q1 q2 q3 q4 q5 q6 => ?_, fun h hh => ?_, fun i hi => ?_⟩
    · rw [b4 c j q1 q2 q3 q4 q5 q6, fB c j q4 q5]
      exact a3.1 c j q1 q2 q3 q6
    · obtain ⟨z1, z2⟩ := b5 h (by omega)
      obtain ⟨y1, y2⟩ := w3 h (by omega)
      exact ⟨by rw [z1, y1]; exact a3.1 _ _ (by decide) (by decide) (by decide) (by omega), by rw [z2, y2]; exact a3.1 _ _ (by decide) (by decide) (by decide) (by omega)⟩
    · cases i with
      | zero =>
        obtain ⟨z1, z2⟩ := b5 (R 2).toInt.toNat (by omega)
        rw [Nat.add_zero, z1, z2, w1, w2, a4, a5, Nat.zero_add, go_s (n := 0) (by omega)]
        exact ⟨rfl, rfl⟩
      | succ i =>
        have z := b6 i (by omega)
        rw [go_s (by omega), show (R 2).toInt.toNat + (i + 1) = (hourF H R 2).toInt.toNat + i by omega]
        exact z
theorem hours_M (hH : HM S v H) (hV : HV H) (hL : LWM v H) (hN : ∀ i, i < 96 → S.1 183 i = R i) (h5 : R 220 = H.1 0 5) (h6 : R 221 = -1) (hR : RV H R) (hF : FLG R) (hU : (S.1 148 60).toInt = (U : Int)) (hU30 : U ≤ 30) : (∀ m : Nat, 0 < m → x1.toInt = (m : Int) → (R 2).toInt + m ≤ 600 → ∃ S', RX (d + 6) 252 [.ref 148, .int x1] S = some (some (.int (goF H m R 2)), S') ∧ PSM S S' U (goF H m R) ∧ (∀ h : Nat, (h : Int) < (R 2).toInt → S'.1 184 h = S.1 184 h ∧ S'.1 185 h = S.1 185 h) ∧ ∀ i, i < m → S'.1 184 ((R 2).toInt.toNat + i) = goF H (i + 1) R 225 ∧ S'.1 185 ((R 2).toInt.toNat + i) = goF H (i + 1) R 223) ∧ (x1.toInt = 0 → RX (d + 6) 252 [.ref 148, .int x1] S = some (some (.int (R 2)), S)) ∧ (x1.toInt < 0 ∨ 600 < (R 2).toInt + x1.toInt → RX (d + 6) 252 [.ref 148, .int x1] S = some (some (.int (-1)), S)) := by
  have h20 := hR.1
  have e183 : S.1 183 2 = R 2 := hN 2 (by decide)
  have hr1 := r32 x1
  have k25 : limK (RX (d + 5)) (mdOf 252) 25 [some (.ref 148), some (.int x1), none] [] S = some (some (.int (-1)), S) := by rw [q_X12_hours_25]
  rw [e_X12_hours, q_X12_hours_0, show d + 5 = d + 4 + 1 from rfl, in_rx]
  show (∀ m : Nat, 0 < m → x1.toInt = (m : Int) → (R 2).toInt + m ≤ 600 → ∃ S', limK (RX (d + 5)) (mdOf 252) 8 _ [.int _] _ = _ ∧ _) ∧ (_ → limK (RX (d + 5)) (mdOf 252) 8 _ [.int _] _ = _) ∧ (_ → limK (RX (d + 5)) (mdOf 252) 8 _ [.int _] _ = _)
  rw [q_X12_hours_8, inb, k25, e183]
  by_cases p : (0 : Int32).toInt ≤ x1.toInt ∧ x1.toInt ≤ (600 : Int32).toInt
  · have p' : 0 ≤ x1.toInt ∧ x1.toInt ≤ 600 := p
    have ea : ((R 2) + x1).toInt = (R 2).toInt + x1.toInt := ad_i (by omega) (by omega)
    rw [decide_eq_true p, show (!true) = false from rfl, cond_false]
    refine ⟨fun m hm0 hm hm6 => ?_, fun q => ?_, fun q => ?_⟩
    · obtain ⟨S1, g1, g2, g3, g4⟩ := cp_M (d := d + 3) hH hN h5 h6
      obtain ⟨S2, x2', b1, b2, b3, b4, b5, b6⟩ := hrs_M (d := d) (n := m) (x1 := x1) hV hL hm (by omega) m S1 R 0 (by show (0 : Int) + _ = _; omega) (by decide) hm6 (hm_cp hH g3) g2 hR hF
      obtain ⟨S3, n1, n2, n3⟩ := psm_of (d := d + 3) (S := S) (S2 := S2) b2.1 (fun c j q1 q2 q3 q4 q5 q6 => by rw [b4 c j q1 q2 q3 q4 q5 (by omega), g3 c j q1 (by omega)]) (b3.trans g4) hU hU30
      have f183 : S3.1 183 2 = goF H m R 2 := n2.1 2 (by decide)
      refine ⟨S3, ?_, n2, fun h hh => ?_, fun i hi => ?_⟩
      · rw [le_t (by rw [ea]; show _ ≤ (600 : Int); omega), cond_true, ne_t (by show x1.toInt ≠ (0 : Int); omega), cond_true, show d + 4 + 1 = d + 3 + 2 from rfl, g1]
        show limK (RX (d + 5)) (mdOf 252) 42 _ [] _ = _
        rw [q_X12_hours_42, b1, show d + 5 = d + 3 + 2 from rfl, n1]
        show limK (RX (d + 5)) (mdOf 252) 97 _ [] _ = _
        rw [q_X12_hours_97, f183]
      · obtain ⟨z1, z2⟩ := n3 h
        obtain ⟨y1, y2⟩ := b5 h hh
        exact ⟨by rw [z1, y1, g3 _ _ (by decide) (by omega)], by rw [z2, y2, g3 _ _ (by decide) (by omega)]⟩
      · obtain ⟨z1, z2⟩ := n3 ((R 2).toInt.toNat + i)
        rw [z1, z2]
        exact b6 i hi
    · rw [le_t (by rw [ea]; show _ ≤ (600 : Int); omega), cond_true, ne_f (by show x1.toInt = (0 : Int); omega), cond_false]
    · rw [le_f (by rw [ea]; show (600 : Int) < _; omega), cond_false]
  · have p' : ¬ (0 ≤ x1.toInt ∧ x1.toInt ≤ 600) := p
    rw [decide_eq_false p, show (!false) = true from rfl, cond_true]
    exact ⟨fun m _ hm h6 => absurd ⟨by omega, by omega⟩ p', fun q => absurd ⟨by omega, by omega⟩ p', fun _ => rfl⟩
end HRS
end
section
/-! hold, restore, undo in the class -/
def lcM (h : Int32) : Int32 := if (0 : Int32) < (if (600 : Int32) < h then (600 : Int32) else h) then (if (600 : Int32) < h then (600 : Int32) else h) else (0 : Int32)
def lcT (T : TZ) (r q : Nat) (m : Int32) : TZ := zA T r (fun j => if 0 ≤ j ∧ j < 0 + m.toNatClampNeg then T.1 q (0 + (j - 0)) else T.1 r j)
def st_lc (p : Nat) : Bool := [0, 15, 18, 21, 24].any (fun q => Nat.beq q p)
section SLO
variable {x y d n U a i j k h v m : Nat} {T T' T1 : TZ} {S S' S1 S2 : WS} {R R' : RW} {H : HO} {x1 x2 x3 z : Int32} {o2 o3 : Option Value}
theorem lcq_24 (ev : EV') (o1 o2 o3 : Option Value) (S : WS) : limK ev (mdOf 35) 24 [o1, o2, o3] [] S = some (none, S) := (blk_lim ev (mdOf 35) st_lc 1 true 24 _ _ _).symm.trans rfl
set_option maxRecDepth 100000 in
theorem lcq_15 (ev : EV') (x y : Nat) (z : Int32) (T : TZ) {k : Nat} (hk : k < 3) : limK ev (mdOf 35) 0 [some (.ref (107 + 4 * k)), some (.ref 38), some (.int z)] [] (wS x y T) = limK ev (mdOf 35) 15 [some (.ref (107 + 4 * k)), some (.ref 38), some (.int z)] [.int 600, .int z, .int 0, .int 0, .ref (108 + 4 * k), .int 0, .ref 39] (wS x y T) := by
  match k, hk with
  | 0, _ => exact (blk_lim ev (mdOf 35) st_lc 20 true 0 _ _ _).symm.trans rfl
  | 1, _ => exact (blk_lim ev (mdOf 35) st_lc 20 true 0 _ _ _).symm.trans rfl
  | 2, _ => exact (blk_lim ev (mdOf 35) st_lc 20 true 0 _ _ _).symm.trans rfl
  | k + 3, q => exact absurd q (by omega)
set_option maxRecDepth 100000 in
theorem lcq_15o (ev : EV') (x y : Nat) (z : Int32) (T : TZ) {k : Nat} (hk : k < 3) : limK ev (mdOf 35) 0 [some (.ref 38), some (.ref (107 + 4 * k)), some (.int z)] [] (wS x y T) = limK ev (mdOf 35) 15 [some (.ref 38), some (.ref (107 + 4 * k)), some (.int z)] [.int 600, .int z, .int 0, .int 0, .ref 39, .int 0, .ref (108 + 4 * k)] (wS x y T) := by
  match k, hk with
  | 0, _ => exact (blk_lim ev (mdOf 35) st_lc 20 true 0 _ _ _).symm.trans rfl
  | 1, _ => exact (blk_lim ev (mdOf 35) st_lc 20 true 0 _ _ _).symm.trans rfl
  | 2, _ => exact (blk_lim ev (mdOf 35) st_lc 20 true 0 _ _ _).symm.trans rfl
  | k + 3, q => exact absurd q (by omega)
set_option maxRecDepth 100000 in
theorem lcq_18 (ev : EV') (a b : Nat) (z : Int32) (S : WS) (l : List (Option Value)) : limK ev (mdOf 35) 15 l [.int 600, .int z, .int 0, .int 0, .ref b, .int 0, .ref a] S = limK ev (mdOf 35) 18 l [.int (if (600 : Int32) < z then 600 else z), .int 0, .int 0, .ref b, .int 0, .ref a] S := (blk_lim ev (mdOf 35) st_lc 20 true 15 _ _ _).symm.trans rfl
set_option maxRecDepth 100000 in
theorem lcq_21 (ev : EV') (a b : Nat) (z : Int32) (S : WS) (l : List (Option Value)) : limK ev (mdOf 35) 18 l [.int z, .int 0, .int 0, .ref b, .int 0, .ref a] S = limK ev (mdOf 35) 21 l [.int (if (0 : Int32) < z then z else 0), .int 0, .ref b, .int 0, .ref a] S := (blk_lim ev (mdOf 35) st_lc 20 true 18 _ _ _).symm.trans rfl
set_option maxRecDepth 100000 in
theorem lcq_c (ev : EV') (a b x y : Nat) (z : Int32) (T : TZ) (l : List (Option Value)) : ∃ b1 b2 : Bool, limK ev (mdOf 35) 21 l [.int z, .int 0, .ref b, .int 0, .ref a] (wS x y T) = cond b1 (cond b2 (limK ev (mdOf 35) 24 l [] (wS x y (lcT T b a z))) none) none := ⟨_, _, (blk_lim ev (mdOf 35) st_lc 20 true 21 _ _ _).symm.trans rfl⟩
theorem lcq_i (ev : EV') (x y : Nat) (z : Int32) (T : TZ) {k : Nat} (hk : k < 3) : ∃ b1 b2 : Bool, limK ev (mdOf 35) 0 [some (.ref (107 + 4 * k)), some (.ref 38), some (.int z)] [] (wS x y T) = cond b1 (cond b2 (limK ev (mdOf 35) 24 [some (.ref (107 + 4 * k)), some (.ref 38), some (.int z)] [] (wS x y (lcT T (108 + 4 * k) 39 (lcM z)))) none) none := by
  rw [lcq_15 ev x y z T hk, lcq_18, lcq_21]
  exact lcq_c ev 39 (108 + 4 * k) x y _ T _
theorem lcq_o (ev : EV') (x y : Nat) (z : Int32) (T : TZ) {k : Nat} (hk : k < 3) : ∃ b1 b2 : Bool, limK ev (mdOf 35) 0 [some (.ref 38), some (.ref (107 + 4 * k)), some (.int z)] [] (wS x y T) = cond b1 (cond b2 (limK ev (mdOf 35) 24 [some (.ref 38), some (.ref (107 + 4 * k)), some (.int z)] [] (wS x y (lcT T 39 (108 + 4 * k) (lcM z)))) none) none := by
  rw [lcq_15o ev x y z T hk, lcq_18, lcq_21]
  exact lcq_c ev (108 + 4 * k) 39 x y _ T _
theorem lcm_h (h0 : 0 ≤ z.toInt) (h6 : z.toInt ≤ 600) : (lcM z).toNatClampNeg = z.toInt.toNat := by
  have e : (if (600 : Int32) < z then (600 : Int32) else z) = z := by
    rw [if_neg]
    intro q
    have q := Int32.lt_iff_toInt_lt.mp q
    have q : (600 : Int) < z.toInt := q
    omega
  unfold lcM
  rw [e]
  by_cases q : (0 : Int32) < z
  · rw [if_pos q]
    exact tnc (by omega)
  · rw [if_neg q]
    have q : ¬ (0 : Int) < z.toInt := fun w => q (Int32.lt_iff_toInt_lt.mpr w)
    rw [show z.toInt.toNat = 0 by omega]
    rfl
theorem lcT_i (h0 : 0 ≤ z.toInt) (h6 : z.toInt ≤ 600) {r q j : Nat} (hj : (j : Int) < z.toInt) : (lcT T r q (lcM z)).1 r j = T.1 q j := by
  unfold lcT
  rw [zA_i, lcm_h h0 h6, if_pos (by omega), Nat.zero_add, Nat.sub_zero]
theorem lcT_ne {r q c : Nat} (h : c ≠ r) : (lcT T r q z).1 c j = T.1 c j := zA_ne _ h
theorem rck_h : ((List.range 3).all fun n => rcK 78 (105 + 4 * n) && rcK 35 (107 + 4 * n)) = true := by decide +kernel
theorem hold_C (hx : x = 10 ∨ x = 23) (hw : wok EC (WD (wS x y T))) (hJ : JC (WD (wS x y T))) (hk : x1.toInt = (k : Int)) (hk3 : k < 3) (h0 : 0 ≤ (T.1 36 0).toInt) (h6 : (T.1 36 0).toInt ≤ 600) : ∃ T', RX 4 186 [.ref 0, .int x1] (wS x y T) = some (some (.int 1), wS x y T') ∧ T'.2 = T.2 ∧ (∀ j, j < 6 → T'.1 (105 + 4 * k) j = T.1 36 j) ∧ (∀ j, j < 102 → T'.1 (105 + 4 * k + 1) j = T.1 37 j) ∧ (∀ j : Nat, (j : Int) < (T.1 36 0).toInt → T'.1 (108 + 4 * k) j = T.1 39 j) ∧ T'.1 44 k = 1 ∧ ∀ c j, c ≠ 105 + 4 * k → c ≠ 106 + 4 * k → c ≠ 108 + 4 * k → ¬ (c = 44 ∧ j = k) → T'.1 c j = T.1 c j := by
  obtain ⟨r, S', e, -⟩ := mex_RX (by decide +kernel) (fun q => by simp at q) (s_X11_hold 0 [.ref 0, .int x1] (WD (wS x y T)) rfl (by decide) hw hJ ⟨rfl, i_ok _, trivial⟩ nof noe)
  have hcp : CPs (105 + 4 * k) 36 := .inr (.inr (.inl ⟨k, hk3, .inl ⟨rfl, rfl⟩⟩))
  have hr := List.all_eq_true.mp rck_h k (List.mem_range.mpr hk3)
  simp only [Bool.and_eq_true] at hr
  have e36 : (cpT T (105 + 4 * k) 36).1 36 0 = T.1 36 0 := cpT_o (by omega) (by omega)
  have hi := inR_of (x := x1) (n := 3) (by omega) (by omega)
  obtain ⟨b1, b2, hl⟩ := lcq_i (RX 1) x y (T.1 36 0) (cpT T (105 + 4 * k) 36) hk3
  have e35 : RX 2 35 [.ref (107 + 4 * k), .ref 38, .int (T.1 36 0)] (wS x y (cpT T (105 + 4 * k) 36)) = limK (RX 1) (mdOf 35) 0 [some (.ref (107 + 4 * k)), some (.ref 38), some (.int (T.1 36 0))] [] (wS x y (cpT T (105 + 4 * k) 36)) := rfl
  have main : RX 4 186 [.ref 0, .int x1] (wS x y T) = cond b1 (cond b2 (some (some (.int 1), wS x y (zI (lcT (cpT T (105 + 4 * k) 36) (108 + 4 * k) 39 (lcM (T.1 36 0))) 44 k 1))) none) none := by
    rw [e_X11_hold, q_X11_hold_0 (hx := hx), lt_f (by rw [hk]; show (0 : Int) ≤ _; omega), cond_false, lt_t (by rw [hk]; show _ < (3 : Int); omega), cond_true, e_X4_fillSlot, q_X4_fillSlot_0, lt_f (by rw [hk]; show (0 : Int) ≤ _; omega), cond_false, ge_f (by rw [hk]; show _ < (3 : Int); omega), cond_false, hi, cond_true, tnc hk, hr.1, cond_true, cp_C (d := 1) hcp]
    show kbd (limK (RX 3) (mdOf 186)) 27 _ [] (limK (RX 2) (mdOf 50) 19 _ [] _) = _
    rw [q_X4_fillSlot_19, hi, cond_true, tnc hk, hr.2, cond_true, e36, e35, hl, lcq_24]
    cases b1 with
    | false => rfl
    | true =>
      cases b2 with
      | false => rfl
      | true =>
        show kbd (limK (RX 3) (mdOf 186)) 27 _ [] (limK (RX 2) (mdOf 50) 33 _ [] _) = _
        rw [q_X4_fillSlot_33, hi, cond_true, tnc hk, q_X4_fillSlot_40]
        show limK (RX 3) (mdOf 186) 27 _ [] _ = _
        rw [q_X11_hold_27 (hx := hx)]
        rfl
  rw [main] at e
  cases b1 with
  | false => cases e
  | true =>
    cases b2 with
    | false => cases e
    | true =>
      refine ⟨_, main, rfl, fun j hj => ?_, fun j hj => ?_, fun j hj => ?_, zI_i _, fun c j q1 q2 q3 q4 => ?_⟩
      · rw [zI_ne _ (by omega), lcT_ne (by omega), cpT_f hj]
      · rw [zI_ne _ (by omega), lcT_ne (by omega), cpT_r hj]
      · rw [zI_ne _ (by omega), lcT_i h0 h6 hj, cpT_o (by omega) (by omega)]
      · rw [zI_no _ q4, lcT_ne q3, cpT_o q1 (by omega)]
theorem isHeld_C (hk : x1.toInt = (k : Int)) (hk3 : k < 3) : RX (d + 1) 48 [.ref 40, .int x1] (wS x y T) = some (some (.int (if T.1 44 k = 0 then 0 else 1)), wS x y T) := by
  rw [e_X4_isHeld, q_X4_isHeld_0, lt_f (by rw [hk]; show (0 : Int) ≤ _; omega), cond_false, ge_f (by rw [hk]; show _ < (3 : Int); omega), cond_false, inR_of (n := 3) (by omega) (by omega), cond_true, tnc hk]
  rcases c_eq (T.1 44 k) 0 with ⟨a1, a2⟩ | ⟨a1, a2⟩
  · rw [a1, cond_true, q_X4_isHeld_22, q_X4_isHeld_23, if_pos (Int32.toInt_inj.mp a2)]
    rfl
  · rw [a1, cond_false, q_X4_isHeld_23, if_neg (fun q => a2 (by rw [q]))]
    rfl
theorem restore_C (hx : x = 10 ∨ x = 23) (hw : wok EC (WD (wS x y T))) (hJ : JC (WD (wS x y T))) (hk : x1.toInt = (k : Int)) (hk3 : k < 3) (hh : T.1 44 k ≠ 0) (h0 : 0 ≤ (T.1 (105 + 4 * k) 0).toInt) (h6 : (T.1 (105 + 4 * k) 0).toInt ≤ 600) : ∃ T', RX 4 187 [.ref 0, .int x1] (wS x y T) = some (some (.int 1), wS x y T') ∧ T'.2 = T.2 ∧ (∀ j, j < 6 → T'.1 36 j = T.1 (105 + 4 * k) j) ∧ (∀ j, j < 102 → T'.1 37 j = T.1 (105 + 4 * k + 1) j) ∧ (∀ j : Nat, (j : Int) < (T.1 (105 + 4 * k) 0).toInt → T'.1 39 j = T.1 (108 + 4 * k) j) ∧ T'.1 40 2 = 0 ∧ ∀ c j, c ≠ 36 → c ≠ 37 → c ≠ 39 → ¬ (c = 40 ∧ j = 2) → T'.1 c j = T.1 c j := by
  obtain ⟨r, S', e, -⟩ := mex_RX (by decide +kernel) (fun q => by simp at q) (s_X11_restore 0 [.ref 0, .int x1] (WD (wS x y T)) rfl (by decide) hw hJ ⟨rfl, i_ok _, trivial⟩ nof noe)
  have hcp : CPs 36 (105 + 4 * k) := .inr (.inr (.inl ⟨k, hk3, .inr ⟨rfl, rfl⟩⟩))
  have e36 : (cpT T 36 (105 + 4 * k)).1 36 0 = T.1 (105 + 4 * k) 0 := cpT_f (by decide)
  have hi := inR_of (x := x1) (n := 3) (by omega) (by omega)
  obtain ⟨b1, b2, hl⟩ := lcq_o (RX 1) x y (T.1 (105 + 4 * k) 0) (cpT T 36 (105 + 4 * k)) hk3
  have e35 : RX 2 35 [.ref 38, .ref (107 + 4 * k), .int (T.1 (105 + 4 * k) 0)] (wS x y (cpT T 36 (105 + 4 * k))) = limK (RX 1) (mdOf 35) 0 [some (.ref 38), some (.ref (107 + 4 * k)), some (.int (T.1 (105 + 4 * k) 0))] [] (wS x y (cpT T 36 (105 + 4 * k))) := rfl
  have main : RX 4 187 [.ref 0, .int x1] (wS x y T) = cond b1 (cond b2 (some (some (.int 1), wS x y (zI (lcT (cpT T 36 (105 + 4 * k)) 39 (108 + 4 * k) (lcM (T.1 (105 + 4 * k) 0))) 40 2 0))) none) none := by
    rw [e_X11_restore, q_X11_restore_0 (hx := hx), lt_f (by rw [hk]; show (0 : Int) ≤ _; omega), cond_false, ge_f (by rw [hk]; show _ < (3 : Int); omega), cond_false, isHeld_C (d := 2) hk hk3, if_neg hh]
    show limK (RX 3) (mdOf 187) 17 _ [.int 1] _ = _
    rw [q_X11_restore_17 (hx := hx), show cmpB .ne (1 : Int32) 0 = true from rfl, cond_true, e_X4_pourSlot, q_X4_pourSlot_0, isHeld_C (d := 1) hk hk3, if_neg hh]
    show kbd (limK (RX 3) (mdOf 187)) 38 _ [] (limK (RX 2) (mdOf 51) 5 _ [.int 1] _) = _
    rw [q_X4_pourSlot_5, show cmpB .eq (1 : Int32) 0 = false from rfl, cond_false, hi, cond_true, tnc hk, cp_C (d := 1) hcp]
    show kbd (limK (RX 3) (mdOf 187)) 38 _ [] (limK (RX 2) (mdOf 51) 18 _ [] _) = _
    rw [q_X4_pourSlot_18, hi, cond_true, tnc hk, e36, e35, hl, lcq_24]
    cases b1 with
    | false => rfl
    | true =>
      cases b2 with
      | false => rfl
      | true =>
        show kbd (limK (RX 3) (mdOf 187)) 38 _ [] (limK (RX 2) (mdOf 51) 32 _ [] _) = _
        rw [q_X4_pourSlot_32, q_X4_pourSlot_37]
        show limK (RX 3) (mdOf 187) 38 _ [] _ = _
        rw [q_X11_restore_38 (hx := hx)]
        rfl
  rw [main] at e
  cases b1 with
  | false => cases e
  | true =>
    cases b2 with
    | false => cases e
    | true =>
      refine ⟨_, main, rfl, fun j hj => ?_, fun j hj => ?_, fun j hj => ?_, zI_i _, fun c j q1 q2 q3 q4 => ?_⟩
      · rw [zI_ne _ (by omega), lcT_ne (by omega), cpT_f hj]
      · rw [zI_ne _ (by omega), lcT_ne (by omega), cpT_r hj]
      · rw [zI_ne _ (by omega), lcT_i h0 h6 hj, cpT_o (by omega) (by omega)]
      · rw [zI_no _ q4, lcT_ne q3, cpT_o q1 q2]
theorem hold_N (hx : x = 10 ∨ x = 23) (hk : x1.toInt < 0 ∨ 3 ≤ x1.toInt) : RX (d + 1) 186 [.ref 0, .int x1] (wS x y T) = some (some (.int 0), wS x y T) := by
  rw [e_X11_hold, q_X11_hold_0 (hx := hx), q_X11_hold_9 (hx := hx)]
  rcases c_lt x1 0 with ⟨a1, a2⟩ | ⟨a1, a2⟩
  · rw [a1, cond_true]
  · have a2 : 0 ≤ x1.toInt := a2
    rw [a1, cond_false, lt_f (by show (3 : Int) ≤ _; omega), cond_false]
theorem restore_N (hx : x = 10 ∨ x = 23) (hk : x1.toInt < 0 ∨ 3 ≤ x1.toInt ∨ ∃ k : Nat, x1.toInt = (k : Int) ∧ k < 3 ∧ T.1 44 k = 0) : RX (d + 2) 187 [.ref 0, .int x1] (wS x y T) = some (some (.int 0), wS x y T) := by
  rw [e_X11_restore, q_X11_restore_0 (hx := hx), q_X11_restore_20 (hx := hx)]
  rcases c_lt x1 0 with ⟨a1, a2⟩ | ⟨a1, a2⟩
  · rw [a1, cond_true]
  · have a2 : 0 ≤ x1.toInt := a2
    rw [a1, cond_false]
    rcases c_ge x1 3 with ⟨b1, b2⟩ | ⟨b1, b2⟩
    · rw [b1, cond_true]
    · have b2 : x1.toInt < 3 := b2
      rw [b1, cond_false]
      obtain ⟨k, hk1, hk3, hz⟩ := hk.resolve_left (by omega) |>.resolve_left (by omega)
      rw [isHeld_C (d := d) hk1 hk3, if_pos hz]
      show limK (RX (d + 1)) (mdOf 187) 17 _ [.int 0] _ = _
      rw [q_X11_restore_17 (hx := hx), show cmpB .ne (0 : Int32) 0 = false from rfl, cond_false, q_X11_restore_20 (hx := hx)]
theorem hold_MN (hk : x1.toInt < 0 ∨ 3 ≤ x1.toInt) : RX (d + 2) 306 [.ref 148, .int x1] S = some (some (.int 0), S) := by
  rw [e_X12_hold, q_X12_hold_0, in_rx]
  show limK (RX (d + 1)) (mdOf 306) 6 _ [.int _] _ = _
  rw [q_X12_hold_6, inbn, decide_eq_false (show ¬ ((0 : Int32).toInt ≤ x1.toInt ∧ x1.toInt ≤ (2 : Int32).toInt) by show ¬ ((0 : Int) ≤ _ ∧ _ ≤ (2 : Int)); omega), cond_false]
theorem restore_MN (hk : x1.toInt < 0 ∨ 3 ≤ x1.toInt ∨ ∃ k : Nat, x1.toInt = (k : Int) ∧ k < 3 ∧ S.1 198 k = 0) : RX (d + 2) 307 [.ref 148, .int x1] S = some (some (.int 0), S) := by
  rw [e_X12_restore, q_X12_restore_0, in_rx]
  show limK (RX (d + 1)) (mdOf 307) 6 _ [.int _] _ = _
  rw [q_X12_restore_6, inb, q_X12_restore_18]
  by_cases p : (0 : Int32).toInt ≤ x1.toInt ∧ x1.toInt ≤ (2 : Int32).toInt
  · have p' : 0 ≤ x1.toInt ∧ x1.toInt ≤ 2 := p
    obtain ⟨k, hk1, hk3, hz⟩ := hk.resolve_left (by omega) |>.resolve_left (by omega)
    rw [decide_eq_true p, show (!true) = false from rfl, cond_false, inR_of (n := 3) (by omega) (by omega), cond_true, tnc hk1, hz, ne_f rfl, cond_false]
  · rw [decide_eq_false p, show (!false) = true from rfl, cond_true]
theorem undo_C (hx : x = 10 ∨ x = 23) (hn : (T.1 40 1).toInt = (n : Int)) (h30 : n < 30) (hU : (T.1 40 2).toInt = (U : Int)) (hU30 : U ≤ 30) : (U = 0 → RX (d + 3) 157 [.ref 0] (wS x y T) = some (some (.int 0), wS x y T)) ∧ (0 < U → ∃ T', RX (d + 3) 157 [.ref 0] (wS x y T) = some (some (.int 1), wS x y T') ∧ T'.2 = T.2 ∧ (T'.1 40 1).toInt = (((n + 29) % 30 : Nat) : Int) ∧ (T'.1 40 2).toInt = (U : Int) - 1 ∧ (∀ j, j < 6 → T'.1 36 j = T.1 (45 + 2 * ((n + 29) % 30)) j) ∧ (∀ j, j < 102 → T'.1 37 j = T.1 (45 + 2 * ((n + 29) % 30) + 1) j) ∧ ∀ c j, c ≠ 36 → c ≠ 37 → ¬ (c = 40 ∧ (j = 1 ∨ j = 2)) → T'.1 c j = T.1 c j) := by
  obtain ⟨h1, h2⟩ := back_C (x := x) (y := y) (d := d) hn h30 hU hU30
  rw [e_X11_undo, q_X11_undo_0 (hx := hx)]
  refine ⟨fun q => ?_, fun q => ?_⟩
  · rw [h1 q]
    show limK (RX (d + 2)) (mdOf 157) 11 _ [.int 0] _ = _
    rw [q_X11_undo_11 (hx := hx)]
    rfl
  · obtain ⟨T', g1, g2⟩ := h2 q
    refine ⟨T', ?_, g2⟩
    rw [g1]
    show limK (RX (d + 2)) (mdOf 157) 11 _ [.int 1] _ = _
    rw [q_X11_undo_11 (hx := hx)]
    rfl
end SLO
end
section
/-! through what changes them both sides' standing states stay alike -/
def SPK (T : TZ) (H : HO) (R : RW) (U n : Nat) : Prop := CSt T 36 R ∧ (∀ i, i < 96 → T.1 183 i = R i) ∧ R 220 = H.1 0 5 ∧ R 221 = -1 ∧ RV H R ∧ FLG R ∧ KNL R (T.1 184) (T.1 185) ∧ SNZ H R ∧ LGT T.1 39 (T.1 184) (T.1 185) (R 2).toInt (stH H) ∧ U ≤ 30 ∧ n < 30 ∧ (T.1 40 2).toInt = (U : Int) ∧ (T.1 148 60).toInt = (U : Int) ∧ (T.1 40 1).toInt = (n : Int)
section BTH
variable {x y d n U a i j k h v m : Nat} {T T' T1 : TZ} {S S' S1 S2 : WS} {R R' : RW} {H : HO} {x1 x2 x3 z u : Int32} {w p : Nat → Int32}
theorem flg_k (h34 : R' 34 = R 34) (h2 : ∀ a, a < 6 → R' (210 + a) = R (210 + a)) (h : FLG R) : FLG R' := by
  obtain ⟨m, h1, h3, h4⟩ := h
  exact ⟨m, h1, by rw [h34]; exact h3, fun a ha => by rw [h2 a ha]; exact h4 a ha⟩
theorem rv_oth (h : RV H R) (hi : 16 ≤ i ∧ i ≤ 27) : RV H (up R i u) := by
  obtain ⟨h1, h2, h3, h4, h5, h7, h8⟩ := h
  unfold RV
  refine ⟨by simp (disch := omega) only [upj]; exact h1, by simp (disch := omega) only [upj]; exact h2, by simp (disch := omega) only [upj]; exact h3, fun b hb => ?_, fun b hb hb6 => ?_, fun b hb => ?_, fun b s hb hs => ?_⟩
  · simp (disch := omega) only [upj]
    exact h4 b hb
  · simp (disch := omega) only [upj]
    exact h5 b hb hb6
  · obtain ⟨m, m1, m2, m3⟩ := h7 b hb
    refine ⟨m, m1, by simp (disch := omega) only [upj]; exact m2, fun s hs => ?_⟩
    simp (disch := omega) only [upj]
    exact m3 s hs
  · simp (disch := omega) only [upj]
    exact h8 b s hb hs
theorem knl_k (hk : ∀ i, 35 ≤ i → i ≤ 94 → R' i = R i) (h2 : R' 2 = R 2) (h : KNL R w p) : KNL R' w p := fun a s ha hs => by
  rw [hk _ (by omega) (by omega), h2]
  exact h a s ha hs
theorem spk_of (hS : STT T.1 x) (hC : HCC T x H) : ∃ R U n, SPK T H R U n := by
  obtain ⟨⟨R, r1, r2, r3, r4, r5, r6, r7, r8⟩, hlg, ⟨U, n, u1, u2, u3, u4, u5, -, -⟩, -⟩ := hS
  have e0 : T.1 x 0 = H.1 0 0 := hC 0 0 (by decide)
  have e2 : T.1 x 2 = H.1 0 2 := hC 0 2 (by decide)
  have e5 : T.1 x 5 = H.1 0 5 := hC 0 5 (by decide)
  refine ⟨R, U, n, cs_mv r2 (fun _ _ => rfl) (fun _ _ => rfl), r1, r3.trans e5, r4, rv_h (H := H0 T.1 x) (by rw [← e0]; rfl) (by rw [← e2]; rfl) r5, r6, r7, snz_h (H := H0 T.1 x) (by rw [← e0]; rfl) (by rw [← e2]; rfl) r8, ?_, u1, u2, u3, u4, u5⟩
  rw [r1 2 (by decide), e0] at hlg
  exact hlg
theorem ws_of (h : S2.2 = (wS x y T).2) : S2 = wS x y (S2.1, T.2) := Prod.ext rfl h
theorem push_fin (hx : x = 10 ∨ x = 23) (hS : STT T.1 x) (hC : HCC T x H) (hP : SPK T H R U n) (hk : KPT T T1 n) (hf : ∀ c j, c ≠ 36 → c ≠ 37 → c ≠ 39 → c ≠ x + 11 → c ≠ x + 12 → T'.1 c j = T1.1 c j) (hp : PSM (wS x y T') S2 U R') (hl : ∀ h : Nat, (h : Int) < (R 2).toInt → S2.1 184 h = T.1 184 h ∧ S2.1 185 h = T.1 185 h) (hC' : CSt T' 36 R') (h220 : R' 220 = H.1 0 5) (h221 : R' 221 = -1) (hRV : RV H R') (hFL : FLG R') (hKN : KNL R' (S2.1 184) (S2.1 185)) (hSN : SNZ H R') (hLG : LGT S2.1 39 (S2.1 184) (S2.1 185) (R' 2).toInt (stH H)) (hm : (R 2).toInt ≤ (R' 2).toInt) : STT S2.1 x := by
  obtain ⟨p1, p2, p3, p4, p5, p6, p7, pS, p8, p9, p10, p11, p12, p13⟩ := hP
  obtain ⟨g1, g2, g3, g4, g5, g6⟩ := hk
  obtain ⟨m1, m2, m3, m4, m5⟩ := hp
  have eC : ∀ c j, c < 148 → S2.1 c j = T'.1 c j := fun c j hc => m4 c j (.inl (by omega)) (by omega)
  have eT : ∀ c j, c ≠ 36 → c ≠ 37 → c ≠ 39 → c ≠ x + 11 → c ≠ x + 12 → c ≠ 45 + 2 * n → c ≠ 45 + 2 * n + 1 → ¬ (c = 40 ∧ (j = 1 ∨ j = 2)) → T'.1 c j = T.1 c j := fun c j q1 q2 q3 q4 q5 q6 q7 q8 => (hf c j q1 q2 q3 q4 q5).trans (g6 c j q6 q7 q8)
  have e0 : T.1 x 0 = H.1 0 0 := hC 0 0 (by decide)
  have e2 : T.1 x 2 = H.1 0 2 := hC 0 2 (by decide)
  have e5 : T.1 x 5 = H.1 0 5 := hC 0 5 (by decide)
  have hsx : HSX T.1 S2.1 x := ⟨by rw [eC _ _ (by omega), eT _ _ (by omega) (by omega) (by omega) (by omega) (by omega) (by omega) (by omega) (by omega)], by rw [eC _ _ (by omega), eT _ _ (by omega) (by omega) (by omega) (by omega) (by omega) (by omega) (by omega) (by omega)], by rw [eC _ _ (by omega), eT _ _ (by omega) (by omega) (by omega) (by omega) (by omega) (by omega) (by omega) (by omega)]⟩
  have m3 : (S2.1 148 60).toInt = min ((T'.1 148 60).toInt + 1) 30 := m3
  have z183 : ∀ k, (wS x y T').1 183 k = T.1 183 k := fun k => eT _ _ (by omega) (by omega) (by omega) (by omega) (by omega) (by omega) (by omega) (by omega)
  have z187 : ∀ k, (wS x y T').1 187 k = T.1 187 k := fun k => eT _ _ (by omega) (by omega) (by omega) (by omega) (by omega) (by omega) (by omega) (by omega)
  refine stt_push hS hsx ?_ ?_ ?_ (fun n' hn' => ?_) (fun U' hU' => ?_) (fun h _ hh => hl h (by rw [← p2 2 (by decide)]; exact hh)) (fun c j q => ?_) ⟨R', m1, cs_mv hC' (fun j _ => eC _ _ (by decide)) (fun j _ => eC _ _ (by decide)), by rw [hsx.2.2, e5]; exact h220, h221, rv_h (H := H) (by rw [← e0]; exact hsx.1) (by rw [← e2]; exact hsx.2.1) hRV, hFL, hKN, snz_h (H := H) (by rw [← e0]; exact hsx.1) (by rw [← e2]; exact hsx.2.1) hSN⟩ ?_ ?_
  · rw [eC _ _ (by decide), hf _ _ (by omega) (by omega) (by omega) (by omega) (by omega), g2, p13]
    omega
  · rw [eC _ _ (by decide), hf _ _ (by omega) (by omega) (by omega) (by omega) (by omega), g3]
  · rw [m3, eT _ _ (by omega) (by omega) (by omega) (by omega) (by omega) (by omega) (by omega) (by omega)]
  · have e : n' = n := by omega
    subst e
    refine ⟨fun j hj => ?_, fun j hj => ?_, fun c j q1 q2 q3 q4 => ?_⟩
    · rw [eC _ _ (by omega), hf _ _ (by omega) (by omega) (by omega) (by omega) (by omega), g4 j hj]
    · rw [eC _ _ (by omega), hf _ _ (by omega) (by omega) (by omega) (by omega) (by omega), g5 j hj]
    · rw [eC _ _ (by omega), eT _ _ (by omega) (by omega) (by omega) (by omega) (by omega) (by omega) (by omega) (by omega)]
  · have e : U' = U := by omega
    subst e
    exact ⟨fun q => ⟨fun k hk => ((m2.1 q).1 k hk).trans (z183 k), fun j hj => ((m2.1 q).2 j hj).trans (z187 j)⟩, fun q => ⟨fun k hk => ((m2.2 q).1 k hk).trans (z183 k), fun j hj => ((m2.2 q).2 j hj).trans (z187 _)⟩⟩
  · rw [m4 c j (by omega) (by omega)]
    exact eT _ _ (by omega) (by omega) (by omega) (by omega) (by omega) (by omega) (by omega) (by omega)
  · rw [m1 2 (by decide), hsx.1, e0]
    exact hLG
  · rw [p2 2 (by decide), m1 2 (by decide)]
    exact hm
theorem push_same (hx : x = 10 ∨ x = 23) (hS : STT T.1 x) (hC : HCC T x H) (hP : SPK T H R U n) (hM : MUT T T' x n R') (hp : PSM (wS x y T') S2 U R') (hl : PSL (wS x y T') S2) (hk : ∀ i, 35 ≤ i → i ≤ 94 → R' i = R i) (h2 : R' 2 = R 2) (h220 : R' 220 = R 220) (h221 : R' 221 = R 221) (hRV : RV H R') (hFL : FLG R') : STT S2.1 x := by
  obtain ⟨T1, k1, k2, k3, k4⟩ := hM
  obtain ⟨p1, p2, p3, p4, p5, p6, p7, pS, p8, p9, p10, p11, p12, p13⟩ := id hP
  have eT : ∀ c j, c ≠ 36 → c ≠ 37 → c ≠ x + 11 → c ≠ x + 12 → c ≠ 45 + 2 * n → c ≠ 45 + 2 * n + 1 → ¬ (c = 40 ∧ (j = 1 ∨ j = 2)) → T'.1 c j = T.1 c j := fun c j q1 q2 q4 q5 q6 q7 q8 => (k4 c j q1 q2 q4 q5).trans (k1.2.2.2.2.2 c j q6 q7 q8)
  have e184 : ∀ h, S2.1 184 h = T.1 184 h ∧ S2.1 185 h = T.1 185 h := fun h => by
    obtain ⟨z1, z2⟩ := hl h
    exact ⟨z1.trans (eT _ _ (by omega) (by omega) (by omega) (by omega) (by omega) (by omega) (by omega)), z2.trans (eT _ _ (by omega) (by omega) (by omega) (by omega) (by omega) (by omega) (by omega))⟩
  refine push_fin (T' := T') (y := y) hx hS hC hP k1 (fun c j q1 q2 _ q4 q5 => k4 c j q1 q2 q4 q5) hp (fun h _ => e184 h) k2 (h220.trans p3) (h221.trans p4) hRV hFL (knl_mv (knl_k hk h2 p7) hRV.1.2 (fun h _ _ => e184 h)) (fun a s ha hs hc => by rw [hk _ (by omega) (by omega)]; exact pS a s ha hs hc) ?_ (by rw [h2]; omega)
  rw [h2]
  refine lgt_mv p8 p5.1.2 (fun h _ _ => ⟨?_, e184 h⟩)
  rw [hp.2.2.2.1 _ _ (.inl (by decide)) (by omega)]
  exact eT _ _ (by omega) (by omega) (by omega) (by omega) (by omega) (by omega) (by omega)
theorem hm_T (h : HM (wS x y T) v H) (hf : ∀ c j, 148 ≤ c → T'.1 c j = T.1 c j) : HM (wS x y T') v H := hm_k h (hf _ _ (by decide)) (fun c j q _ => hf c j (by omega))
theorem mut_hi (hx : x = 10 ∨ x = 23) (hn : n < 30) (hM : MUT T T' x n R') : ∀ c j, 148 ≤ c → T'.1 c j = T.1 c j := by
  obtain ⟨T1, k1, k2, k3, k4⟩ := hM
  exact fun c j hc => (k4 c j (by omega) (by omega) (by omega) (by omega)).trans (k1.2.2.2.2.2 c j (by omega) (by omega) (by omega))
theorem mut_2 (hM : MUT T T' x n R') : T'.2 = T.2 := by
  obtain ⟨T1, k1, k2, k3, k4⟩ := hM
  exact k3
/-- what all three have in common -/
def BTH (b b' : Nat) (as : List Value) (x y : Nat) (T : TZ) : Prop := ∃ (r : Int32) (T1 T2 : TZ), RX 60 b (.ref 0 :: as) (wS x y T) = some (some (.int r), wS x y T1) ∧ RX 60 b' (.ref 148 :: as) (wS x y T1) = some (some (.int r), wS x y T2) ∧ STT T2.1 x
theorem nap_b (hx : x = 10 ∨ x = 23) (hS : STT T.1 x) (hV : HV H) (hC : HCC T x H) (hM : HM (wS x y T) v H) : BTH 153 253 [.int x1, .int x2] x y T := by
  obtain ⟨R, U, n, hP⟩ := spk_of hS hC
  obtain ⟨p1, p2, p3, p4, p5, p6, p7, pS, p8, p9, p10, p11, p12, p13⟩ := id hP
  have hsl := hV.2.1
  have es : (T.1 x 2).toInt = slH H := by rw [show T.1 x 2 = H.1 0 2 from hC 0 2 (by decide)]
  obtain ⟨c1, c2⟩ := nap_C (x := x) (y := y) (d := 56) (x1 := x1) (x2 := x2) hx p1 (by omega) p13 p10 (by omega)
  rw [es] at c1 c2
  by_cases q : NPP (slH H) R x1 x2
  · obtain ⟨T', e1, hMU⟩ := c1 q
    have hhi := mut_hi hx p10 hMU
    obtain ⟨m1, -⟩ := nap_M (d := 57) (x1 := x1) (x2 := x2) (hm_T hM hhi) hV (fun i hi => (hhi 183 i (by decide)).trans (p2 i hi)) p3 p4 (U := U) (by show (T'.1 148 60).toInt = _; rw [hhi _ _ (by decide)]; exact p12) p9
    obtain ⟨S2, e2, hp, hl⟩ := m1 q
    obtain ⟨q1, q2, q3, q4, q5⟩ := q
    have ha6 : x1.toInt.toNat < 6 := by omega
    have hSS := push_same (y := y) hx hS hC hP hMU hp hl (fun i h1 h2 => fall_k ha6 (by omega)) (fall_k ha6 (by omega)) (fall_k ha6 (by omega)) (fall_k ha6 (by omega)) (rv_fall p5 (by omega) ha6 ⟨q3, q4⟩) (flg_fall ha6 p6)
    refine ⟨1, T', (S2.1, T'.2), e1, ?_, hSS⟩
    rw [← ws_of hp.2.2.2.2]
    exact e2
  · obtain ⟨-, m2⟩ := nap_M (d := 57) (x1 := x1) (x2 := x2) hM hV p2 p3 p4 p12 p9
    exact ⟨0, T, T, c2 q, m2 q, hS⟩
theorem wake_b (hx : x = 10 ∨ x = 23) (hS : STT T.1 x) (hV : HV H) (hC : HCC T x H) (hM : HM (wS x y T) v H) : BTH 154 255 [.int x1] x y T := by
  obtain ⟨R, U, n, hP⟩ := spk_of hS hC
  obtain ⟨p1, p2, p3, p4, p5, p6, p7, pS, p8, p9, p10, p11, p12, p13⟩ := id hP
  have hsl := hV.2.1
  have es : (T.1 x 2).toInt = slH H := by rw [show T.1 x 2 = H.1 0 2 from hC 0 2 (by decide)]
  obtain ⟨c1, c2⟩ := wake_C (x := x) (y := y) (d := 56) (x1 := x1) hx p1 (by omega) p13 p10 (by omega)
  rw [es] at c1 c2
  by_cases q : WKP (slH H) R x1
  · obtain ⟨T', e1, hMU⟩ := c1 q
    have hhi := mut_hi hx p10 hMU
    obtain ⟨m1, -⟩ := wake_M (d := 57) (x1 := x1) (hm_T hM hhi) hV (fun i hi => (hhi 183 i (by decide)).trans (p2 i hi)) p3 p4 (fun a ha => (p5.2.2.2.1 a ha).1) (U := U) (by show (T'.1 148 60).toInt = _; rw [hhi _ _ (by decide)]; exact p12) p9
    obtain ⟨S2, e2, hp, hl⟩ := m1 q
    obtain ⟨q1, q2, q3⟩ := q
    have ha6 : x1.toInt.toNat < 6 := by omega
    have hSS := push_same (y := y) hx hS hC hP hMU hp hl (fun i h1 h2 => wk_k ha6 (by omega)) (wk_k ha6 (by omega)) (wk_k ha6 (by omega)) (wk_k ha6 (by omega)) (rv_wk p5 ha6) (flg_k (wk_k ha6 (by omega)) (fun b hb => wk_k ha6 (by omega)) p6)
    refine ⟨1, T', (S2.1, T'.2), e1, ?_, hSS⟩
    rw [← ws_of hp.2.2.2.2]
    exact e2
  · obtain ⟨-, m2⟩ := wake_M (d := 57) (x1 := x1) hM hV p2 p3 p4 (fun a ha => (p5.2.2.2.1 a ha).1) p12 p9
    exact ⟨0, T, T, c2 q, m2 q, hS⟩
theorem bed_b (hx : x = 10 ∨ x = 23) (hS : STT T.1 x) (hV : HV H) (hC : HCC T x H) (hM : HM (wS x y T) v H) : BTH 155 256 [.int x1, .int x2] x y T := by
  obtain ⟨R, U, n, hP⟩ := spk_of hS hC
  obtain ⟨p1, p2, p3, p4, p5, p6, p7, pS, p8, p9, p10, p11, p12, p13⟩ := id hP
  have hsl := hV.2.1
  have es : (T.1 x 2).toInt = slH H := by rw [show T.1 x 2 = H.1 0 2 from hC 0 2 (by decide)]
  obtain ⟨c1, c2⟩ := bed_C (x := x) (y := y) (d := 56) (x1 := x1) (x2 := x2) hx p1 (by omega) p13 p10 (by omega)
  rw [es] at c1 c2
  by_cases q : BDP (slH H) R x1 x2
  · obtain ⟨T', e1, hMU⟩ := c1 q
    have hhi := mut_hi hx p10 hMU
    obtain ⟨m1, -⟩ := bed_M (d := 57) (x1 := x1) (x2 := x2) (hm_T hM hhi) hV (fun i hi => (hhi 183 i (by decide)).trans (p2 i hi)) p3 p4 (U := U) (by show (T'.1 148 60).toInt = _; rw [hhi _ _ (by decide)]; exact p12) p9
    obtain ⟨S2, e2, hp, hl⟩ := m1 q
    obtain ⟨q1, q2, q3, q4, q5⟩ := q
    have ha6 : x1.toInt.toNat < 6 := by omega
    have hSS := push_same (y := y) hx hS hC hP hMU hp hl (fun i h1 h2 => upj (by omega)) (upj (by omega)) (upj (by omega)) (upj (by omega)) (rv_oth p5 (by omega)) (flg_k (upj (by omega)) (fun b hb => upj (by omega)) p6)
    refine ⟨1, T', (S2.1, T'.2), e1, ?_, hSS⟩
    rw [← ws_of hp.2.2.2.2]
    exact e2
  · obtain ⟨-, m2⟩ := bed_M (d := 57) (x1 := x1) (x2 := x2) hM hV p2 p3 p4 p12 p9
    exact ⟨0, T, T, c2 q, m2 q, hS⟩
theorem set_b (hx : x = 10 ∨ x = 23) (hS : STT T.1 x) (hV : HV H) (hC : HCC T x H) (hM : HM (wS x y T) v H) : BTH 156 257 [.int x1] x y T := by
  obtain ⟨R, U, n, hP⟩ := spk_of hS hC
  obtain ⟨p1, p2, p3, p4, p5, p6, p7, pS, p8, p9, p10, p11, p12, p13⟩ := id hP
  have hst := hV.1
  have es : (T.1 x 0).toInt = stH H := by rw [show T.1 x 0 = H.1 0 0 from hC 0 0 (by decide)]
  obtain ⟨c1, c2⟩ := set_C (x := x) (y := y) (d := 56) (x1 := x1) hx p1 p13 p10 (by omega)
  rw [es] at c1 c2
  by_cases q : STP (stH H) R x1
  · obtain ⟨T', e1, hMU⟩ := c1 q
    have hhi := mut_hi hx p10 hMU
    obtain ⟨m1, -⟩ := set_M (d := 57) (x1 := x1) (hm_T hM hhi) hV (fun i hi => (hhi 183 i (by decide)).trans (p2 i hi)) p3 p4 (U := U) (by show (T'.1 148 60).toInt = _; rw [hhi _ _ (by decide)]; exact p12) p9
    obtain ⟨S2, e2, hp, hl⟩ := m1 q
    obtain ⟨q1, q2, q3⟩ := q
    have hSS := push_same (y := y) hx hS hC hP hMU hp hl (fun i h1 h2 => upj (by omega)) (upj (by omega)) (upj (by omega)) (upj (by omega)) (rv_at p5 (.inr ⟨q1, q2⟩)) (flg_k (upj (by omega)) (fun b hb => upj (by omega)) p6)
    refine ⟨1, T', (S2.1, T'.2), e1, ?_, hSS⟩
    rw [← ws_of hp.2.2.2.2]
    exact e2
  · obtain ⟨-, m2⟩ := set_M (d := 57) (x1 := x1) hM hV p2 p3 p4 p12 p9
    exact ⟨0, T, T, c2 q, m2 q, hS⟩
theorem hours_b (hx : x = 10 ∨ x = 23) (hS : STT T.1 x) (hV : HV H) (hC : HCC T x H) (hM : HM (wS x y T) v H) (hL : LWC x y H) (hL' : LWM v H) : BTH 152 252 [.int x1] x y T := by
  obtain ⟨R, U, n, hP⟩ := spk_of hS hC
  obtain ⟨p1, p2, p3, p4, p5, p6, p7, pS, p8, p9, p10, p11, p12, p13⟩ := id hP
  have h20 := p5.1
  obtain ⟨c1, c2, c3⟩ := hours_C (x := x) (y := y) (d := 53) (x1 := x1) hx hV hL hC p1 p5 p6 p13 p10 (by omega)
  by_cases q0 : x1.toInt = 0
  · obtain ⟨-, m2, -⟩ := hours_M (d := 54) (x1 := x1) hM hV hL' p2 p3 p4 p5 p6 p12 p9
    exact ⟨_, T, T, c2 q0, m2 q0, hS⟩
  by_cases q1 : x1.toInt < 0 ∨ 600 < (R 2).toInt + x1.toInt
  · obtain ⟨-, -, m2⟩ := hours_M (d := 54) (x1 := x1) hM hV hL' p2 p3 p4 p5 p6 p12 p9
    exact ⟨_, T, T, c3 q1, m2 q1, hS⟩
  have hm : x1.toInt = ((x1.toInt.toNat : Nat) : Int) := by omega
  have hm0 : 0 < x1.toInt.toNat := by omega
  have hm6 : (R 2).toInt + (x1.toInt.toNat : Int) ≤ 600 := by omega
  revert hm hm0 hm6
  generalize x1.toInt.toNat = m
  intro hm hm0 hm6
  obtain ⟨T1, T', k1, e1, k2, k3, k4, k5, k6⟩ := c1 m hm0 hm hm6
  have hhi : ∀ c j, 148 ≤ c → T'.1 c j = T.1 c j := fun c j hc => (k4 c j (by omega) (by omega) (by omega) (by omega) (by omega)).trans (k1.2.2.2.2.2 c j (by omega) (by omega) (by omega))
  obtain ⟨m1, -, -⟩ := hours_M (d := 54) (x1 := x1) (hm_T hM hhi) hV hL' (fun i hi => (hhi 183 i (by decide)).trans (p2 i hi)) p3 p4 p5 p6 (U := U) (by show (T'.1 148 60).toInt = _; rw [hhi _ _ (by decide)]; exact p12) p9
  obtain ⟨S2, e2, hp, hl, hi⟩ := m1 m hm0 hm hm6
  have hn0 : (R 2).toInt = (((R 2).toInt.toNat : Nat) : Int) := by omega
  have hl' : ∀ h : Nat, (h : Int) < (R 2).toInt → S2.1 184 h = T.1 184 h ∧ S2.1 185 h = T.1 185 h := fun h hh => ⟨(hl h hh).1.trans (hhi _ _ (by decide)), (hl h hh).2.trans (hhi _ _ (by decide))⟩
  obtain ⟨v1, v2⟩ := rv_go hV m R p5 p6
  have hg2 := go_2 hV m R p5 p6 hm6
  obtain ⟨K1, K2⟩ := go_log hV m (R 2).toInt.toNat R (T.1 184) (T.1 185) p5 p6 hn0 (by omega) p7 (w' := S2.1 184) (p' := S2.1 185) (fun h hh => hl' h (by omega)) hi
  have e39 : ∀ j, S2.1 39 j = T'.1 39 j := fun j => hp.2.2.2.1 _ _ (.inl (by decide)) (by omega)
  have hLG : LGT S2.1 39 (S2.1 184) (S2.1 185) (goF H m R 2).toInt (stH H) := fun h hh => by
    by_cases q : (h : Int) < (R 2).toInt
    · obtain ⟨u, g1, g2, g3, g4⟩ := p8 h q
      obtain ⟨z1, z2⟩ := hl' h q
      rw [z1, z2, e39, k5 h q]
      exact ⟨u, g1, g2, g3, g4⟩
    · obtain ⟨i, rfl⟩ : ∃ i, h = (R 2).toInt.toNat + i := ⟨h - (R 2).toInt.toNat, by omega⟩
      have hi' : i < m := by omega
      obtain ⟨R0, l1, l2, l3, -⟩ := K2 i hi'
      obtain ⟨z1, z2⟩ := hi i hi'
      rw [z1, z2, e39]
      exact ⟨_, l1, l2, k6 i hi', l3⟩
  have hSS := push_fin (T' := T') (y := y) hx hS hC hP k1 k4 hp hl' k2 ((go_k hV (.inr (.inl rfl)) m R p5 p6).trans p3) ((go_k hV (.inr (.inr rfl)) m R p5 p6).trans p4) v1 v2 K1 (snz_go hV m R p5 p6 pS) hLG (by omega)
  refine ⟨_, T', (S2.1, T'.2), e1, ?_, hSS⟩
  rw [← ws_of hp.2.2.2.2]
  exact e2
theorem undo_b (hx : x = 10 ∨ x = 23) (hS : STT T.1 x) : BTH 157 258 [] x y T := by
  obtain ⟨U, n, u1, u2, u3, u4, u5, -, -⟩ := id hS.2.2.1
  obtain ⟨c1, c2⟩ := undo_C (x := x) (y := y) (d := 57) hx u5 u2 u3 u1
  by_cases q : U = 0
  · obtain ⟨m1, -⟩ := undo_M (S := wS x y T) (d := 59) u4 u1
    exact ⟨0, T, T, c1 q, m1 q, hS⟩
  · obtain ⟨T', e1, k1, k2, k3, k4, k5, k6⟩ := c2 (by omega)
    obtain ⟨-, m1⟩ := undo_M (S := wS x y T') (d := 59) (U := U) (by show (T'.1 148 60).toInt = _; rw [k6 _ _ (by decide) (by decide) (by omega)]; exact u4) u1
    obtain ⟨S2, e2, g1, g2, g3, g4⟩ := m1 (by omega)
    have e3 : ∀ c j, c ≠ 183 → ¬ (c = 148 ∧ j = 60) → c ≠ 36 → c ≠ 37 → ¬ (c = 40 ∧ (j = 1 ∨ j = 2)) → S2.1 c j = T.1 c j := fun c j q1 q2 q3 q4 q5 => (g3 c j q1 q2).trans (k6 c j q3 q4 q5)
    refine ⟨1, T', (S2.1, T'.2), e1, by rw [← ws_of g4]; exact e2, stt_pop (U := U - 1) (n := n) hS (by omega) u5 ⟨e3 _ _ (by omega) (by omega) (by omega) (by omega) (by omega), e3 _ _ (by omega) (by omega) (by omega) (by omega) (by omega), e3 _ _ (by omega) (by omega) (by omega) (by omega) (by omega)⟩ ?_ ?_ ?_ ⟨fun j hj => ?_, fun j hj => ?_⟩ (fun k hk => ?_) (fun c j q => e3 _ _ (by omega) (by omega) (by omega) (by omega) (by omega))⟩
    · show (S2.1 40 1).toInt = _
      rw [g3 _ _ (by decide) (by omega)]
      exact k2
    · show (S2.1 40 2).toInt = _
      rw [g3 _ _ (by decide) (by omega), show (wS x y T').1 40 2 = T'.1 40 2 from rfl, k3]
      omega
    · show (S2.1 148 60).toInt = _
      rw [g1]
      omega
    · exact (g3 _ _ (by decide) (by omega)).trans (k4 j hj)
    · exact (g3 _ _ (by decide) (by omega)).trans (k5 j hj)
    · exact (g2 k hk).trans (k6 _ _ (by decide) (by decide) (by omega))
theorem hold_b (hx : x = 10 ∨ x = 23) (hS : STT T.1 x) (hw : wok EC (WD (wS x y T))) (hJ : JC (WD (wS x y T))) : BTH 186 306 [.int x1] x y T := by
  by_cases q : x1.toInt < 0 ∨ 3 ≤ x1.toInt
  · exact ⟨0, T, T, hold_N (d := 59) hx q, hold_MN (d := 58) q, hS⟩
  have hk : x1.toInt = ((x1.toInt.toNat : Nat) : Int) := by omega
  have hk3 : x1.toInt.toNat < 3 := by omega
  revert hk hk3
  generalize x1.toInt.toNat = k
  intro hk hk3
  have hH := stt_hr hS
  obtain ⟨R, r1, r2, -⟩ := id hS.1
  have e36 : T.1 36 0 = T.1 183 2 := (r2.1).trans (r1 2 (by decide)).symm
  obtain ⟨T', e1, k1, k2, k3, k4, k5, k6⟩ := hold_C (x1 := x1) hx hw hJ hk hk3 (by rw [e36]; exact hH.1) (by rw [e36]; exact hH.2)
  obtain ⟨S2, e2, g1, g2, g3, g4, g5, g6⟩ := hold_M (S := wS x y T') (d := 58) hk hk3
  have hhi : ∀ c j, 148 ≤ c → T'.1 c j = T.1 c j := fun c j hc => k6 c j (by omega) (by omega) (by omega) (by omega)
  have e3 : ∀ c j, c ≠ 105 + 4 * k → c ≠ 106 + 4 * k → c ≠ 108 + 4 * k → ¬ (c = 44 ∧ j = k) → c ≠ 199 → ¬ (c = 198 ∧ j = k) → S2.1 c j = T.1 c j := fun c j q1 q2 q3 q4 q5 q6 => (g5 c j q5 q6).trans (k6 c j q1 q2 q3 q4)
  refine ⟨1, T', (S2.1, T'.2), RX_le (by decide) e1, by rw [← ws_of g6]; exact e2, stt_hold hS hk3 ⟨e3 _ _ (by omega) (by omega) (by omega) (by omega) (by omega) (by omega), e3 _ _ (by omega) (by omega) (by omega) (by omega) (by omega) (by omega), e3 _ _ (by omega) (by omega) (by omega) (by omega) (by omega) (by omega)⟩ (fun j hj => (g5 _ _ (by omega) (by omega)).trans (k2 j hj)) (fun j hj => (g5 _ _ (by omega) (by omega)).trans (k3 j hj)) (fun j _ hj => (g5 _ _ (by omega) (by omega)).trans (k4 j (by rw [e36]; exact hj))) (fun i hi => (g1 i hi).trans (hhi _ _ (by decide))) (fun i hi => ⟨((g2 i hi).1).trans (hhi _ _ (by decide)), ((g2 i hi).2).trans (hhi _ _ (by decide))⟩) (fun i hi hi' => (g3 i hi').trans (hhi _ _ (by decide))) (fun i hi => (g5 198 i (by decide) (by omega)).trans (hhi _ _ (by decide))) (fun c j q1 q2 q3 q4 q5 q6 => e3 _ _ q1 q2 q3 (fun z => ?_) q6 (by omega))⟩
  unfold ND at q4
  omega
theorem restore_b (hx : x = 10 ∨ x = 23) (hS : STT T.1 x) (hw : wok EC (WD (wS x y T))) (hJ : JC (WD (wS x y T))) (h44 : ∀ s, s < 3 → T.1 44 s = T.1 198 s) : BTH 187 307 [.int x1] x y T := by
  by_cases q : x1.toInt < 0 ∨ 3 ≤ x1.toInt ∨ ∃ k : Nat, x1.toInt = (k : Int) ∧ k < 3 ∧ T.1 44 k = 0
  · refine ⟨0, T, T, restore_N (d := 58) hx q, restore_MN (d := 58) ?_, hS⟩
    refine q.imp id (fun q => q.imp id (fun q => ?_))
    obtain ⟨k, z1, z2, z3⟩ := q
    exact ⟨k, z1, z2, (h44 k z2).symm.trans z3⟩
  have hk : x1.toInt = ((x1.toInt.toNat : Nat) : Int) := by omega
  have hk3 : x1.toInt.toNat < 3 := by omega
  have hh : T.1 44 x1.toInt.toNat ≠ 0 := fun z => q (.inr (.inr ⟨_, hk, hk3, z⟩))
  revert hk hk3 hh
  generalize x1.toInt.toNat = k
  intro hk hk3 hh
  have hh' : T.1 198 k ≠ 0 := by rw [← h44 k hk3]; exact hh
  obtain ⟨s1, s2⟩ := hS.2.2.2 k hk3 hh'
  have hH := sta_hr s1
  obtain ⟨R, r1, r2, -⟩ := id s1
  have e105 : T.1 (105 + 4 * k) 0 = T.1 199 (1296 * k + 2) := (r2.1).trans (r1 2 (by decide)).symm
  obtain ⟨T', e1, k1, k2, k3, k4, k5, k6⟩ := restore_C (x1 := x1) hx hw hJ hk hk3 hh (by rw [e105]; exact hH.1) (by rw [e105]; exact hH.2)
  have hhi : ∀ c j, 148 ≤ c → T'.1 c j = T.1 c j := fun c j hc => k6 c j (by omega) (by omega) (by omega) (by omega)
  obtain ⟨S2, e2, g1, g2, g3, g4, g5⟩ := restore_M (S := wS x y T') (d := 58) hk hk3 (by show T'.1 198 k ≠ 0; rw [hhi _ _ (by decide)]; exact hh')
  have e3 : ∀ c j, c ≠ 36 → c ≠ 37 → c ≠ 39 → ¬ (c = 40 ∧ j = 2) → c ≠ 183 → c ≠ 184 → c ≠ 185 → ¬ (c = 148 ∧ j = 60) → S2.1 c j = T.1 c j := fun c j q1 q2 q3 q4 q5 q6 q7 q8 => (g4 c j q5 q6 q7 q8).trans (k6 c j q1 q2 q3 q4)
  refine ⟨1, T', (S2.1, T'.2), RX_le (by decide) e1, by rw [← ws_of g5]; exact e2, stt_restore hS hk3 hh' ⟨e3 _ _ (by omega) (by omega) (by omega) (by omega) (by omega) (by omega) (by omega) (by omega), e3 _ _ (by omega) (by omega) (by omega) (by omega) (by omega) (by omega) (by omega) (by omega), e3 _ _ (by omega) (by omega) (by omega) (by omega) (by omega) (by omega) (by omega) (by omega)⟩ (fun j hj => (g4 _ _ (by omega) (by omega) (by omega) (by omega)).trans (k2 j hj)) (fun j hj => (g4 _ _ (by omega) (by omega) (by omega) (by omega)).trans (k3 j hj)) (fun j _ hj => (g4 _ _ (by omega) (by omega) (by omega) (by omega)).trans (k4 j (by rw [e105]; exact hj))) (fun i hi => (g1 i hi).trans (hhi _ _ (by decide))) (fun i hi => ⟨((g2 i hi).1).trans (hhi _ _ (by decide)), ((g2 i hi).2).trans (hhi _ _ (by decide))⟩) ?_ ?_ ?_ (fun c j q => e3 _ _ (by omega) (by omega) (by omega) (by omega) (by omega) (by omega) (by omega) (by omega))⟩
  · show (S2.1 40 2).toInt = 0
    rw [g4 _ _ (by decide) (by decide) (by decide) (by omega), show (wS x y T').1 40 2 = T'.1 40 2 from rfl, k5]
    rfl
  · show (S2.1 148 60).toInt = 0
    rw [g3]
    rfl
  · exact e3 _ _ (by decide) (by decide) (by decide) (by omega) (by decide) (by decide) (by decide) (by omega)
end BTH
end
