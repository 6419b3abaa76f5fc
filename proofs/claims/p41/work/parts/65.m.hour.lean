/-! an hour -/
def mdG : MDs := [(47, 51), (47, 58), (47, 59), (81, 1000), (85, 1000), (80, 1000)]
/-- rows alone have changed, not the hour; the dream stands at a step if it did -/
def HR (S S' : WS) : Prop := UPD mdG S S' ∧ S'.1 186 2 = S.1 186 2 ∧ (RG S → RG S')
section HOU
variable {S S0 S1 : WS} {d : Nat} {x : Int32}
theorem g_vN (h : UPD mdG S0 S) : vN S = vN S0 := by unfold vN; rw [up_vN h rfl]
theorem g_st (hw : wok EC (WD S0)) (h : UPD mdG S0 S) : stN S = stN S0 := by
  unfold stN
  rw [g_vN h]
  exact congrArg Int32.toInt (up_er (c := 158) (t := 0) (n := 2) h rfl rfl rfl rfl (vN2 hw))
theorem g_sl (hw : wok EC (WD S0)) (h : UPD mdG S0 S) : S.1 164 (vN S) = S0.1 164 (vN S0) := by
  rw [g_vN h]
  exact up_er (c := 164) (t := 0) (n := 2) h rfl rfl rfl rfl (vN2 hw)
theorem hr_r (hw : wok EC (WD S)) : HR S S := ⟨up_r hw, rfl, fun h => h⟩
theorem hr_t (h : HR S0 S) (k : HR S S1) : HR S0 S1 := ⟨up_t h.1 k.1, k.2.1.trans h.2.1, fun g => k.2.2 (h.2.2 g)⟩
theorem hr_set {j : Nat} {z : Int32} (h : HR S0 S) (h0 : j ≠ 0) (h2 : j ≠ 2) (hz : (rowT j).1 ≤ z.toInt ∧ z.toInt ≤ (rowT j).2) : HR S0 (uI S 186 j z) := by
  refine ⟨up_a (t := 0) (n := 96) (el := .inr rowT) h.1 rfl rfl rfl (.inl rfl) hz, ?_, fun g => ?_⟩
  · rw [uI_j _ (fun e => h2 e.symm)]; exact h.2.1
  · have g := h.2.2 g
    unfold RG at g ⊢
    rw [uI_j _ (fun e => h0 e.symm)]
    exact g
theorem up_row85 {md md' : MDs} (hs : md.all (fun q => Nat.beq q.1 85 || mdF md' q.1 q.2) = true) (h1 : mdF md' 85 1000 = true) (h : UPD md S S1) : UPD md' S S1 := by
  have hk : ∀ c j, c ≠ 186 → mdF md' (EC.1 c) j = false → mdF md (EC.1 c) j = false := fun c j hc hf => by
    cases hq : mdF md (EC.1 c) j with
    | false => rfl
    | true =>
      exfalso
      unfold mdF at hq
      obtain ⟨q, q1, q2⟩ := List.any_eq_true.mp hq
      simp only [Bool.and_eq_true] at q2
      have e1 := Nat.eq_of_beq_eq_true q2.1
      have e2 := Nat.eq_of_beq_eq_true q2.2
      have h3 := List.all_eq_true.mp hs q q1
      rw [Bool.or_eq_true] at h3
      rcases h3 with h3 | h3
      · have e3 := Nat.eq_of_beq_eq_true h3
        exact hc (cty_one 85 186 (by decide +kernel) (by decide) c (by show EC.1 c = 85; rw [← e1, e3]))
      · rw [e1, e2, hf] at h3
        cases h3
  have hrow : ∀ (S : WS) (j : Nat), fa (WD S) 186 j = none := fun S j => by
    unfold fa
    rw [wd_get]
    show (match some (cellK S 186) with
      | some (.inr (.inr (.inr (_, fl)))) => fl[j]?
      | _ => none) = none
    rw [cell_i (show shC 186 = (1, 0, 96) from rfl)]
  refine ⟨h.1, h.2.1, fun c j hf => ?_, fun c q1 q2 => ?_, fun c j q1 q2 => ?_⟩
  · by_cases hc : c = 186
    · rw [hc, hrow, hrow]
    · exact h.2.2.1 c j (hk c j hc hf)
  · have hc : c ≠ 186 := fun e => by
      rw [e] at q1
      have q1 : mdF md' 85 1000 = false := q1
      rw [h1] at q1
      cases q1
    exact h.2.2.2.1 c (hk c _ hc q1) (hk c _ hc q2)
  · have hc : c ≠ 186 := fun e => by
      rw [e] at q1
      have q1 : mdF md' 85 1000 = false := q1
      rw [h1] at q1
      cases q1
    exact h.2.2.2.2 c j (hk c _ hc q1) (hk c _ hc q2)
theorem hr_dr (h : UPD mdR S S1) (hg : RG S → RG S1) : HR S S1 := ⟨up_row85 (by decide +kernel) rfl h, up_el (c := 186) (t := 0) (n := 96) h rfl rfl (by decide +kernel) (by decide +kernel) (by decide), hg⟩
theorem live_v (hw : wok EC (WD S)) : (S.1 148 18 = 0) ∨ (S.1 148 18 = 1) := by
  have := lv01 hw
  by_cases h : (S.1 148 18).toInt = 0
  · exact .inl (Int32.toInt_inj.mp h)
  · exact .inr (Int32.toInt_inj.mp (show (S.1 148 18).toInt = 1 by omega))
theorem gfs_live {v : Int32} (h : S.1 148 18 = v) : gfs EC 148 [] [(18, .inl (v.toInt, v.toInt))] (WD S) := fun q hq => by
  have hq := List.mem_singleton.mp hq
  subst hq
  exact ⟨.int (S.1 148 18), fa_wd (j := 18) rfl rfl, S.1 148 18, rfl, by rw [h]; exact Int.le_refl _, by rw [h]; exact Int.le_refl _⟩
theorem cp_n {c : Ctr} {w : List AE} {r : Option Value} {w' : List AE} (h : CPost EC JM 148 w c r w') {l : FX} (h2 : c.2.2.2.2 = [(none, l)]) : r = none := by
  obtain ⟨-, -, -, o, o1, o2, -⟩ := h
  rw [h2] at o1
  have o1 := List.mem_singleton.mp o1
  subst o1
  exact gvo_n o2
theorem toBed_rx (hw : wok EC (WD S)) (hJ : JM (WD S)) : ∃ S', RX (d + 4) 243 [.ref 148] S = some (none, S') ∧ HR S S' := by
  have hh : ∃ S', RX 4 243 [.ref 148] S = some (none, S') ∧ UPD c_X12_toBed_0.2.2.2.1 S S' := by
    rcases live_v hw with hv | hv
    · obtain ⟨r, S', q1, q2⟩ := rx_sat (av := [.ref 148]) rfl s_X12_toBed_0 rfl hw hJ ⟨rfl, trivial⟩ (gfs_live hv) noe
      rw [cp_n q2 rfl] at q1
      exact ⟨S', q1, q2.1, q2.2.2.1⟩
    · obtain ⟨r, S', q1, q2⟩ := rx_sat (av := [.ref 148]) rfl s_X12_toBed_1 rfl hw hJ ⟨rfl, trivial⟩ (gfs_live hv) noe
      rw [cp_n q2 rfl] at q1
      exact ⟨S', q1, q2.1, q2.2.2.1⟩
  obtain ⟨S', q1, q2⟩ := hh
  have hu : UPD mdG S S' := up_row85 (by decide +kernel) rfl q2
  refine ⟨S', RX_le (by omega) q1, hu, up_el (c := 186) (t := 0) (n := 96) q2 rfl rfl (by decide +kernel) (by decide +kernel) (by decide), fun g => ?_⟩
  unfold RG at g ⊢
  rw [g_st hw hu, up_el (c := 186) (j := 0) (t := 0) (n := 96) q2 rfl rfl (by decide +kernel) (by decide +kernel) (by decide)]
  exact g
theorem i4 (hx : 0 ≤ x.toInt ∧ x.toInt ≤ 6) : ((4 : Int32) + x).toInt = 4 + x.toInt := ad_i (by show _ ≤ 4 + _; omega) (by show 4 + _ ≤ _; omega)
theorem sleepsOne_rx (hw : wok EC (WD S)) (hx : 0 ≤ x.toInt ∧ x.toInt ≤ 6) : ∃ S', RX (d + 1) 242 [.ref 148, .int x] S = some (none, S') ∧ HR S S' := by
  have h4 := i4 hx
  have n4 : ((4 : Int32) + x).toNatClampNeg = 4 + x.toInt.toNat := tnc (by omega)
  rw [e_X12_sleepsOne, q_X12_sleepsOne_0, inR_of (n := 96) (by omega) (by omega), cond_true, cond_true, cond_true, cond_true]
  have hs : ∀ z : Int32, HR S (uI S 186 ((4 : Int32) + x).toNatClampNeg z) := fun z => hr_set (hr_r hw) (by omega) (by omega) (rowT_t (by omega) z)
  cases cmpB .ne (S.1 186 ((4 : Int32) + x).toNatClampNeg) 0 with
  | false => exact ⟨S, rfl, hr_r hw⟩
  | true =>
    rw [cond_true]
    rcases c_ne ((uI S 186 (((4 : Int32) + x).toNatClampNeg) ((S.1 186 ((4 : Int32) + x).toNatClampNeg) - (1 : Int32))).1 186 ((4 : Int32) + x).toNatClampNeg) 0 with ⟨a1, -⟩ | ⟨a1, -⟩
    · rw [a1, cond_true, q_X12_sleepsOne_53]
      exact ⟨_, rfl, hs _⟩
    · rw [a1, cond_false]
      rcases c_ne ((uI S 186 (((4 : Int32) + x).toNatClampNeg) ((S.1 186 ((4 : Int32) + x).toNatClampNeg) - (1 : Int32))).1 186 1) x with ⟨b1, -⟩ | ⟨b1, -⟩
      · rw [b1, cond_true, q_X12_sleepsOne_53]
        exact ⟨_, rfl, hs _⟩
      · rw [b1, cond_false, q_X12_sleepsOne_53]
        exact ⟨_, rfl, hr_set (hs _) (by decide) (by decide) ⟨by decide, by decide⟩⟩
theorem hourGoes_81 (hw0 : wok EC (WD S0)) : ∀ (m j : Nat) (x1 : Int32) (S : WS), HR S0 S → x1.toInt = (j : Int) → 7 - j ≤ m → j ≤ 6 → ∃ S', limK (RX (d + 1)) (mdOf 244) 81 [some (.ref 148), some (.int x1)] [] S = some (none, uI S' 186 2 (S'.1 186 2 + 1)) ∧ HR S0 S' := by
  have hsl := sl6 hw0
  intro m
  induction m with
  | zero => intro j x1 S hh h1 hm hj; omega
  | succ m ih =>
    intro j x1 S hh h1 hm hj
    have hw := hh.1.1
    rw [q_X12_hourGoes_81, inlv hw, cond_true, show (S.1 148 18).toNatClampNeg = vN S from rfl, g_sl hw0 hh.1]
    rcases c_ge x1 (S0.1 164 (vN S0)) with ⟨a1, a2⟩ | ⟨a1, a2⟩
    · rw [a1, cond_true]
      exact ⟨S, rfl, hh⟩
    · rw [a1, cond_false]
      obtain ⟨S', q1, q2⟩ := sleepsOne_rx (d := d) (x := x1) hw ⟨by omega, by omega⟩
      rw [q1]
      show ∃ S', limK (RX (d + 1)) (mdOf 244) 99 _ [] _ = _ ∧ _
      rw [q_X12_hourGoes_99]
      exact ih (j + 1) (x1 + 1) S' (hr_t hh q2) (inc_i h1 (by omega)) (by omega) (by omega)
theorem hourGoes_6 (hw0 : wok EC (WD S0)) : ∀ (m j : Nat) (x1 : Int32) (S : WS), HR S0 S → x1.toInt = (j : Int) → 7 - j ≤ m → j ≤ 6 → ∃ S' o1, limK (RX d) (mdOf 244) 6 [some (.ref 148), some (.int x1)] [] S = limK (RX d) (mdOf 244) 67 [some (.ref 148), o1] [] S' ∧ HR S0 S' := by
  have hsl := sl6 hw0
  intro m
  induction m with
  | zero => intro j x1 S hh h1 hm hj; omega
  | succ m ih =>
    intro j x1 S hh h1 hm hj
    have hw := hh.1.1
    rw [q_X12_hourGoes_6, inlv hw, cond_true, show (S.1 148 18).toNatClampNeg = vN S from rfl, g_sl hw0 hh.1]
    rcases c_ge x1 (S0.1 164 (vN S0)) with ⟨a1, a2⟩ | ⟨a1, a2⟩
    · rw [a1, cond_true]
      exact ⟨S, _, rfl, hh⟩
    · have h11 := inc_i h1 (by omega)
      have h4 := i4 (x := x1) ⟨by omega, by omega⟩
      rw [a1, cond_false]
      cases cmpB .ge (S.1 186 1) 0 with
      | true => rw [cond_true]; exact ⟨S, _, rfl, hh⟩
      | false =>
        rw [cond_false]
        cases cmpB .ne (((S.1 186 34) >>> (x1 &&& 31)) &&& (1 : Int32)) (1 : Int32) with
        | true => rw [cond_true, q_X12_hourGoes_61]; exact ih (j + 1) (x1 + 1) S hh h11 (by omega) (by omega)
        | false =>
          rw [cond_false, inR_of (n := 96) (by omega) (by omega), cond_true]
          cases cmpB .le (S.1 186 ((4 : Int32) + x1).toNatClampNeg) 0 with
          | true => rw [cond_true, q_X12_hourGoes_61]; exact ih (j + 1) (x1 + 1) S hh h11 (by omega) (by omega)
          | false =>
            rw [cond_false, q_X12_hourGoes_61]
            exact ih (j + 1) (x1 + 1) _ (hr_set hh (by decide) (by decide) ⟨by show -2 ≤ _; omega, by show _ ≤ 5; omega⟩) h11 (by omega) (by omega)
/-- an hour: the rows change; it is one hour later -/
theorem hourGoes_rx (hw : wok EC (WD S)) (hJ : JM (WD S)) (h2 : (S.1 186 2).toInt ≤ 599) : ∃ S', RX (d + 5) 244 [.ref 148] S = some (none, S') ∧ UPD mdG S S' ∧ (S'.1 186 2).toInt = (S.1 186 2).toInt + 1 ∧ (RG S → RG S') := by
  have hr2 := rw2 hw
  obtain ⟨S1, q1, q2⟩ := toBed_rx (d := d) hw hJ
  rw [e_X12_hourGoes, q_X12_hourGoes_0, q1]
  show ∃ S', limK (RX (d + 4)) (mdOf 244) 4 _ [] S1 = _ ∧ _
  rw [q_X12_hourGoes_4]
  obtain ⟨S2, o1, p1, p2⟩ := hourGoes_6 (d := d + 4) hw _ 0 0 S1 q2 rfl (Nat.le_refl _) (by omega)
  rw [p1, q_X12_hourGoes_67]
  have p3 : HR S (uI S2 186 34 0) := hr_set p2 (by decide) (by decide) (rowT_t (by decide) 0)
  obtain ⟨S3, t1, t2, t3⟩ := dreams_rx (d := d + 1) p3.1.1 (up_jm p3.1 rfl hJ)
  rw [t1]
  show ∃ S', limK (RX (d + 4)) (mdOf 244) 79 _ [] S3 = _ ∧ _
  rw [q_X12_hourGoes_79]
  have t4 : HR S S3 := hr_t p3 (hr_dr t2 t3)
  obtain ⟨S4, u1, u2⟩ := hourGoes_81 (d := d + 3) hw _ 0 0 S3 t4 rfl (Nat.le_refl _) (by omega)
  rw [u1]
  have e2 : (S4.1 186 2 + 1).toInt = (S.1 186 2).toInt + 1 := by
    rw [u2.2.1]
    exact ad_i (by show _ ≤ _ + (1 : Int); omega) (by show _ + (1 : Int) ≤ _; omega)
  refine ⟨_, rfl, up_a (t := 0) (n := 96) (el := .inr rowT) u2.1 rfl rfl rfl (.inl rfl) ⟨by show 0 ≤ _; omega, by show _ ≤ 600; omega⟩, by rw [uI_i]; exact e2, fun g => ?_⟩
  have g := u2.2.2 g
  unfold RG at g ⊢
  rw [uI_j _ (by decide)]
  exact g
end HOU
theorem el_p {sl j : Nat} {S : WS} {lo hi : Int} {t n c : Nat} (hc : arrC 148 sl = c) (h1 : Nat.blt c 200 = true) (hs : shC c = (1, t, n)) (hj : j < n) (h : lo ≤ (S.1 c j).toInt ∧ (S.1 c j).toInt ≤ hi) : ges EC 148 [] [(sl, .inl ((j : Int), (j : Int)), .inl (lo, hi))] (WD S) := fun q hq => by
  have hq := List.mem_singleton.mp hq
  subst hq
  exact ⟨j, S.1 c j, ⟨rfl, rfl⟩, by show ea (WD S) (arrC 148 sl) j = _; rw [hc]; exact ea_wd h1 hs hj, S.1 c j, rfl, h⟩
theorem s_hand_X12_hourGoes_0 : Sat EC JM 8 244 c_hand_X12_hourGoes_0 := sat_rx rfl rfl (fun av S hw hJ ha hf he => by
  match av, ha with
  | [v0], ⟨g0, _⟩ =>
    have g0 : v0 = .ref 148 := g0
    subst g0
    have h2 : 0 ≤ (S.1 186 2).toInt ∧ (S.1 186 2).toInt ≤ 599 := el_f (j := 2) (c := 186) he rfl rfl rfl (by decide)
    obtain ⟨S', q1, q2, q3, -⟩ := hourGoes_rx (d := 3) hw hJ h2.2
    exact ⟨_, S', q1, q2.1, up_jm q2 rfl hJ, q2.2, _, List.mem_cons_self, trivial, nof, el_p (j := 2) (c := 186) rfl rfl rfl (by decide) ⟨by omega, by omega⟩⟩)
theorem s_hand_X12_hourGoes_1 : Sat EC JM 8 244 c_hand_X12_hourGoes_1 := sat_rx rfl rfl (fun av S hw hJ ha hf he => by
  match av, ha with
  | [v0], ⟨g0, _⟩ =>
    have g0 : v0 = .ref 148 := g0
    subst g0
    have h2 : 0 ≤ (S.1 186 2).toInt ∧ (S.1 186 2).toInt ≤ 599 := el_f (j := 2) (c := 186) he rfl rfl rfl (by decide)
    obtain ⟨S', q1, q2, q3, -⟩ := hourGoes_rx (d := 3) hw hJ h2.2
    exact ⟨_, S', q1, q2.1, up_jm q2 rfl hJ, q2.2, _, List.mem_cons_self, trivial, nof, el_p (j := 2) (c := 186) rfl rfl rfl (by decide) ⟨by omega, by omega⟩⟩)
