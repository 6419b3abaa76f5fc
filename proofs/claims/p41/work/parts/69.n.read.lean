/-! what the reference does ahead of the first thing told -/
def mdBd : MDs := mdTo ++ mdR1
section RPR
variable {x y d s v t E len : Nat} {T T' T3 : TZ} {S S' S0 S1 S2 : WS} {x1 : Int32} {o1 o2 : Option Value} {b : Nat → Int32}
theorem read_pre (hw : wok EC (WD S)) (hJ : JM (WD S)) (hlen : (S.1 148 2).toInt = (len : Int)) (hb : ∀ i, i < len → b i = S.1 149 i &&& 255) (hb2 : ∀ i, len ≤ i → b i = -1) (hK : isK S) : ∃ (S3 S4 S7 : WS) (N v : Nat) (x : Int32), RX (d + 8) 211 [.ref 148] S = limK (RX (d + 7)) (mdOf 211) 112 [some (.ref 148), some (.int x)] [] S7 ∧ BYM b len S3 ∧ isK S3 ∧ CUTm b len S3 S4 N ∧ ((∀ i, i ≤ 400 → S7.1 151 i = S4.1 151 i) ∧ (∀ i, i ≤ 400 → S7.1 153 i = S4.1 153 i) ∧ ∀ i, i ≤ 400 → S7.2.1 154 i = S4.2.1 154 i) ∧ wok EC (WD S7) ∧ PI S7 ∧ v ≤ 1 ∧ (S.1 148 18).toInt = (v : Int) ∧ sdS S7 = ((1 - v : Nat) : Int) ∧ (tkS S7 = 0 ∧ ftS S7 = 0 ∧ woS S7 = 0 ∧ nmS S7 = 0 ∧ opS' S7 = 0 ∧ brS S7 = ((130 * (1 - v) : Nat) : Int) ∧ cdS S7 = ((420 * (1 - v) : Nat) : Int)) ∧ (S7.1 158 (1 - v) = 0 ∧ S7.1 163 (1 - v) = 0 ∧ S7.1 164 (1 - v) = 0 ∧ S7.1 168 (1 - v) = 0 ∧ S7.1 169 (1 - v) = 0 ∧ S7.1 170 (1 - v) = 0) ∧ (∀ a, a < 6 → S7.1 171 (6 * (1 - v) + a) = S7.1 172 (6 * (1 - v) + a)) ∧ UPD mdBd S S7 ∧ (S7.1 148 2).toInt = 0 := by
  have h2 := tp2000 hw
  have hu4 : UPD mdR0 S (uI S 148 4 (S.1 148 2)) := up_f (up_r hw) rfl rfl rfl rfl rfl h2
  have hby : ∀ i, i < 2000 → -128 ≤ (S.1 149 i).toInt ∧ (S.1 149 i).toInt ≤ 127 := fun i hi => wel (c := 149) (j := i) (t := 1) (n := 2000) hw rfl rfl rfl (by decide) hi
  obtain ⟨S1, x, q1, q2, q3, q4, q5⟩ := read_10x (d := d) (S0 := S) (len := len) 2000 0 0 _ hu4 rfl (by omega) (by omega) (by rw [uI_i]; exact hlen) (by omega) (fun i q => by omega) (fun i => uI_ne _ _ _ _ (by decide)) rfl hby
  have k0 : (0 : Int) ≤ (0 : Int32).toInt ∧ (0 : Int32).toInt ≤ 2000 := ⟨by decide, by decide⟩
  have u2 : UPD mdR1 S (uI S1 148 2 0) := up_f (up_le rfl q2) rfl rfl rfl rfl rfl k0
  have hlen2 : len ≤ 2000 := by show len ≤ 2000; have : (S.1 148 2).toInt ≤ 2000 := h2.2; omega
  have hB : BYM b len (uI S1 148 2 0) := by
    have e4 : (uI S1 148 2 0).1 148 4 = S1.1 148 4 := uI_j _ (by decide)
    have e150 : ∀ i, (uI S1 148 2 0).1 150 i = S1.1 150 i := fun i => uI_ne _ _ _ _ (by decide)
    refine ⟨hlen2, by rw [e4]; exact q4, fun i hi => ?_, fun i hi => ⟨?_, hb2 i hi⟩⟩
    · unfold bM
      rw [e4, q4, e150, decide_eq_true (by omega : (i : Int) < (len : Int)), q3 i hi, hb i hi]
      rfl
    · unfold bM
      rw [e4, q4, decide_eq_false (by omega : ¬ (i : Int) < (len : Int))]
      rfl
  have hK3 : isK (uI S1 148 2 0) := fun i hi => by
    have : (uI S1 148 2 0).2.1 155 i = S.2.1 155 i := by show S1.2.1 155 i = _; rw [q5]
    rw [this]
    exact hK i hi
  obtain ⟨S3', N, m1, m2⟩ := cut_m (d := d + 4) hB
  obtain ⟨r3, S3, p1, p2⟩ := rx_sat (av := [.ref 148]) rfl (sat_up (show 4 ≤ d + 7 by omega) s_X12_cut) rfl u2.1 (up_jm u2 rfl hJ) ⟨rfl, trivial⟩ (fun q hq => by cases hq) noe
  obtain ⟨p3, p4, p5, o, ho, po, -⟩ := p2
  have e3 : r3 = none := by
    simp only [c_X12_cut, List.mem_singleton] at ho
    rw [ho] at po
    match r3, po with
    | none, _ => rfl
  subst e3
  have eS3 : S3' = S3 := by
    have : RX (d + 4 + 3) 203 [.ref 148] (uI S1 148 2 0) = some (none, S3) := p1
    rw [m1] at this
    cases this
    rfl
  subst eS3
  have uc : UPD mdR1 S S3' := up_t u2 (up_le rfl ⟨p3, p5⟩)
  have hlv := lv01 uc.1
  have e18 : S3'.1 148 18 = S.1 148 18 := up_fl uc rfl rfl rfl
  have e02 : S3'.1 148 2 = 0 := by
    have hc : UPD c_X12_cut.2.2.2.1 (uI S1 148 2 0) S3' := ⟨p3, p5⟩
    rw [up_fl hc rfl rfl rfl, uI_i]
  obtain ⟨v, hv⟩ : ∃ v : Nat, (S3'.1 148 18).toInt = (v : Int) := ⟨(S3'.1 148 18).toInt.toNat, by omega⟩
  have hv1 : v ≤ 1 := by omega
  have e1 : (1 : Int32).toInt = 1 := rfl
  have hsd : ((1 : Int32) - S3'.1 148 18).toInt = ((1 - v : Nat) : Int) := by rw [sb_i (by rw [e1]; omega) (by rw [e1]; omega), e1]; omega
  have kz : ∀ n : Int, 0 ≤ n → (0 : Int) ≤ (0 : Int32).toInt ∧ (0 : Int32).toInt ≤ n := fun n hn => ⟨by decide, by show (0 : Int) ≤ n; exact hn⟩
  have u5 : UPD mdR1 S3' (uI (uI (uI (uI (uI (uI S3' 148 11 0) 148 12 0) 148 13 0) 148 15 0) 148 19 ((1 : Int32) - S3'.1 148 18)) 148 20 0) := up_f (up_f (up_f (up_f (up_f (up_f (up_r p3) rfl rfl rfl rfl rfl (kz 400 (by decide))) rfl rfl rfl rfl rfl (kz 7 (by decide))) rfl rfl rfl rfl rfl (kz 2 (by decide))) rfl rfl rfl rfl rfl (kz 5 (by decide))) rfl rfl rfl rfl rfl ⟨by omega, by omega⟩) rfl rfl rfl rfl rfl (kz 16 (by decide))
  generalize hS5 : (uI (uI (uI (uI (uI (uI S3' 148 11 0) 148 12 0) 148 13 0) 148 15 0) 148 19 ((1 : Int32) - S3'.1 148 18)) 148 20 0) = S5 at u5
  have f11 : S5.1 148 11 = 0 := by rw [← hS5]; rfl
  have f12 : S5.1 148 12 = 0 := by rw [← hS5]; rfl
  have f13 : S5.1 148 13 = 0 := by rw [← hS5]; rfl
  have f15 : S5.1 148 15 = 0 := by rw [← hS5]; rfl
  have f19 : S5.1 148 19 = (1 : Int32) - S3'.1 148 18 := by rw [← hS5]; rfl
  have f20 : S5.1 148 20 = 0 := by rw [← hS5]; rfl
  have f18 : S5.1 148 18 = S3'.1 148 18 := by rw [← hS5]; rfl
  have f02 : S5.1 148 2 = 0 := by rw [← hS5]; exact e02
  have f2 : S5.2 = S3'.2 := by rw [← hS5]; rfl
  have fc : ∀ c j, c ≠ 148 → S5.1 c j = S3'.1 c j := fun c j q => by rw [← hS5, uI_ne _ _ _ _ q, uI_ne _ _ _ _ q, uI_ne _ _ _ _ q, uI_ne _ _ _ _ q, uI_ne _ _ _ _ q, uI_ne _ _ _ _ q]
  have U5 : UPD mdR1 S S5 := up_t uc u5
  have s5 : sdS S5 = ((1 - v : Nat) : Int) := by show (S5.1 148 19).toInt = _; rw [f19, hsd]
  obtain ⟨S6, c1, c2, c3, c4, c5, c6⟩ := plain_rx (d := d + 6) (x1 := (1 : Int32) - S3'.1 148 18) U5.1 hsd (by omega)
  obtain ⟨S6', x1, x2⟩ := plain_x (d := d + 6) (x1 := (1 : Int32) - S3'.1 148 18) U5.1 hsd (by omega)
  have e6 : S6' = S6 := by
    rw [c1] at x1
    cases x1
    rfl
  subst e6
  have F6 : FR v S5 S6' := by
    refine ⟨up_le rfl c2, (c4 v (by omega)).1, (c4 v (by omega)).2.2.2, fun j _ _ => up_er (t := 0) (n := 20) c2 rfl rfl rfl rfl (by omega), fun j _ _ => up_er (t := 0) (n := 80) c2 rfl rfl rfl rfl (by omega), fun j _ _ => c6 j (by omega), fun j _ _ => ⟨up_er (t := 2) (n := 260) c2 rfl rfl rfl rfl (by omega), up_er (t := 0) (n := 260) c2 rfl rfl rfl rfl (by omega), up_er (t := 0) (n := 260) c2 rfl rfl rfl rfl (by omega), up_er (t := 0) (n := 260) c2 rfl rfl rfl rfl (by omega), up_er (t := 0) (n := 260) c2 rfl rfl rfl rfl (by omega)⟩, fun j _ _ => ⟨?_, ?_⟩⟩
    · show (S6'.1 178 j).toInt = _
      rw [up_er (c := 178) (t := 0) (n := 840) c2 rfl rfl rfl rfl (by omega)]
    · show (S6'.1 179 j).toInt = _
      rw [up_er (c := 179) (t := 0) (n := 840) c2 rfl rfl rfl rfl (by omega)]
  have s6 : sdS S6' = ((1 - v : Nat) : Int) := by rw [sdq c2 rfl, s5]
  have e130 : (130 : Int32).toInt = 130 := rfl
  have e420 : (420 : Int32).toInt = 420 := rfl
  have m130 : ((130 : Int32) * S6'.1 148 19).toInt = 130 * sdS S6' := mu_i (by rw [e130]; show _ ≤ 130 * sdS S6'; omega) (by rw [e130]; show 130 * sdS S6' ≤ _; omega)
  have m420 : ((420 : Int32) * S6'.1 148 19).toInt = 420 * sdS S6' := mu_i (by rw [e420]; show _ ≤ 420 * sdS S6'; omega) (by rw [e420]; show 420 * sdS S6' ≤ _; omega)
  have hu7 : UPD [(47, 38), (47, 44)] S6' (uI (uI S6' 148 38 ((130 : Int32) * S6'.1 148 19)) 148 44 ((420 : Int32) * S6'.1 148 19)) := up_f (up_f (up_r c2.1) rfl rfl rfl rfl rfl ⟨by omega, by omega⟩) rfl rfl rfl rfl rfl ⟨by omega, by omega⟩
  generalize hS7 : (uI (uI S6' 148 38 ((130 : Int32) * S6'.1 148 19)) 148 44 ((420 : Int32) * S6'.1 148 19)) = S7 at hu7
  have g38 : brS S7 = 130 * sdS S6' := by show (S7.1 148 38).toInt = _; rw [← hS7, uI_j _ (by decide), uI_i]; exact m130
  have g44 : cdS S7 = 420 * sdS S6' := by show (S7.1 148 44).toInt = _; rw [← hS7, uI_i]; exact m420
  have gc : ∀ c j, c ≠ 148 → S7.1 c j = S6'.1 c j := fun c j q => by rw [← hS7, uI_ne _ _ _ _ q, uI_ne _ _ _ _ q]
  have g2 : S7.2 = S6'.2 := by rw [← hS7]; rfl
  have F7 : FR v S5 S7 := fr_t F6 (fr_up hv1 hu7 rfl rfl)
  have s7 : sdS S7 = ((1 - v : Nat) : Int) := by rw [sdq hu7 rfl, s6]
  have n7 : (sdS S7).toNat = 1 - v := by omega
  have U57 : UPD [(57, 1000), (62, 1000), (63, 1000), (67, 1000), (68, 1000), (69, 1000), (70, 1000), (71, 1000), (47, 38), (47, 44)] S5 S7 := up_t (up_le rfl c2) (up_le rfl hu7)
  have t3 : nmS S7 = 0 := by show (S7.1 148 20).toInt = _; rw [up_fl U57 rfl rfl rfl, f20]; rfl
  have t4 : opS' S7 = 0 := by show (S7.1 148 12).toInt = _; rw [up_fl U57 rfl rfl rfl, f12]; rfl
  have t5 : tkS S7 = 0 := by show (S7.1 148 11).toInt = _; rw [up_fl U57 rfl rfl rfl, f11]; rfl
  have t6 : ftS S7 = 0 := by show (S7.1 148 13).toInt = _; rw [up_fl U57 rfl rfl rfl, f13]; rfl
  have t7 : woS S7 = 0 := by show (S7.1 148 15).toInt = _; rw [up_fl U57 rfl rfl rfl, f15]; rfl
  have t8 : (S7.1 148 2).toInt = 0 := by rw [up_fl U57 rfl rfl rfl, f02]; rfl
  have P7 : PI S7 := by
    have g158 : S7.1 158 (1 - v) = S6'.1 158 (1 - v) := gc _ _ (by decide)
    have g164 : S7.1 164 (1 - v) = S6'.1 164 (1 - v) := gc _ _ (by decide)
    have g168 : S7.1 168 (1 - v) = S6'.1 168 (1 - v) := gc _ _ (by decide)
    have t1 : stS S7 = 0 := by show (S7.1 158 (sdS S7).toNat).toInt = _; rw [n7, g158]; exact c3.1
    have t2 : slS S7 = 0 := by show (S7.1 164 (sdS S7).toNat).toInt = _; rw [n7, g164]; exact c3.2.2.1
    refine ⟨⟨by omega, fun i hi => by omega⟩, fun s k hs => by omega, .inl ?_, by omega, by omega, by omega, by omega, by omega, fun a ha => .inl ?_⟩
    · rw [n7, g168]; exact c3.2.2.2
    · have g171 : S7.1 171 (6 * (1 - v) + a) = S6'.1 171 (6 * (1 - v) + a) := gc _ _ (by decide)
      have g172 : S7.1 172 (6 * (1 - v) + a) = S6'.1 172 (6 * (1 - v) + a) := gc _ _ (by decide)
      rw [n7, g171, g172]
      exact c5 _ (by omega) (by omega)
  refine ⟨uI S1 148 2 0, S3', S7, N, v, x, ?_, hB, hK3, m2, ⟨fun i hi => ?_, fun i hi => ?_, fun i hi => ?_⟩, hu7.1, P7, hv1, by rw [← e18]; exact hv, s7, ⟨t5, t6, t7, t3, t4, by rw [g38, s6]; omega, by rw [g44, s6]; omega⟩, ?_, fun a ha => ?_, ?_, t8⟩
  · rw [e_X12_read, q_X12_read_0, q1, p1]
    show limK (RX (d + 7)) (mdOf 211) 45 _ [] S3' = _
    rw [q_X12_read_45, hS5, c1]
    show limK (RX (d + 7)) (mdOf 211) 88 _ [] S6' = _
    rw [q_X12_read_88, hS7]
  · rw [gc 151 i (by decide), up_er (t := 0) (n := 403) c2 rfl rfl rfl rfl (by omega), fc 151 i (by decide)]
  · rw [gc 153 i (by decide), up_er (t := 0) (n := 403) c2 rfl rfl rfl rfl (by omega), fc 153 i (by decide)]
  · rw [g2, up_ll (t := 0) (n := 403) c2 rfl rfl rfl rfl (by omega), f2]
  · rw [gc 158 _ (by decide), gc 163 _ (by decide), gc 164 _ (by decide), gc 168 _ (by decide), gc 169 _ (by decide), gc 170 _ (by decide)]
    exact x2
  · rw [gc 171 _ (by decide), gc 172 _ (by decide)]
    have := c5 (6 * (1 - v) + a) (by omega) (by omega)
    exact Int32.toInt_inj.mp (this.1.trans this.2.symm)
  · exact up_t (up_le rfl U5) (up_le rfl U57)
end RPR
