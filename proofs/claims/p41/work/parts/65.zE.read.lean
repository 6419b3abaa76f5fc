/-! a text is read -/
def mdR0 : MDs := [(47, 4), (49, 1000)]
def mdR1 : MDs := [(47, 4), (49, 1000), (47, 2), (47, 10), (50, 1000), (53, 1000), (51, 1000), (52, 1000), (47, 11), (47, 12), (47, 13), (47, 15), (47, 19), (47, 20)]
/-- all that reading may change -/
def mdRa : MDs := [(47, 4), (49, 1000), (47, 2), (47, 10), (50, 1000), (53, 1000), (51, 1000), (52, 1000), (47, 19), (47, 11), (47, 12), (47, 13), (47, 14), (47, 15), (47, 16), (47, 20), (47, 38), (47, 44), (47, 48), (55, 1000), (56, 1000), (57, 1000), (58, 1000), (59, 1000), (60, 1000), (61, 1000), (62, 1000), (63, 1000), (64, 1000), (65, 1000), (66, 1000), (67, 1000), (68, 1000), (69, 1000), (70, 1000), (71, 1000), (72, 1000), (73, 1000), (74, 1000), (75, 1000), (76, 1000), (77, 1000), (78, 1000), (79, 1000), (47, 17), (47, 18), (82, 1000), (97, 1000), (47, 60), (47, 70), (47, 56), (47, 57), (47, 51), (47, 58), (47, 59), (81, 1000), (85, 1000), (80, 1000)]
section RDD
variable {S S0 S1 S2 S5 T : WS} {d v : Nat}
theorem read_10 : ∀ (m k : Nat) (x1 : Int32) (S : WS), UPD mdR0 S0 S → x1.toInt = (k : Int) → 2000 - k ≤ m → k ≤ 2000 → ∃ (S1 : WS) (x : Int32), limK (RX (d + 7)) (mdOf 211) 10 [some (.ref 148), some (.int x1)] [] S = kbd (limK (RX (d + 7)) (mdOf 211)) 45 [some (.ref 148), some (.int x)] [] (RX (d + 7) 203 [.ref 148] (uI S1 148 2 0)) ∧ UPD mdR0 S0 S1 := by
  intro m
  have hend : ∀ (k : Nat) (x1 : Int32) (S : WS), UPD mdR0 S0 S → x1.toInt = (k : Int) → (S.1 148 4).toInt ≤ (k : Int) → ∃ (S1 : WS) (x : Int32), limK (RX (d + 7)) (mdOf 211) 10 [some (.ref 148), some (.int x1)] [] S = kbd (limK (RX (d + 7)) (mdOf 211)) 45 [some (.ref 148), some (.int x)] [] (RX (d + 7) 203 [.ref 148] (uI S1 148 2 0)) ∧ UPD mdR0 S0 S1 := by
    intro k x1 S hu h1 hk
    rw [q_X12_read_10, ge_t (by omega), cond_true]
    exact ⟨S, x1, rfl, hu⟩
  induction m with
  | zero =>
    intro k x1 S hu h1 hm hk
    have h4 : 0 ≤ (S.1 148 4).toInt ∧ (S.1 148 4).toInt ≤ 2000 := wfd (a := .inl (0, 0)) hu.1 rfl rfl rfl rfl
    exact hend k x1 S hu h1 (by omega)
  | succ m ih =>
    intro k x1 S hu h1 hm hk
    have h4 : 0 ≤ (S.1 148 4).toInt ∧ (S.1 148 4).toInt ≤ 2000 := wfd (a := .inl (0, 0)) hu.1 rfl rfl rfl rfl
    by_cases he : (S.1 148 4).toInt ≤ (k : Int)
    · exact hend k x1 S hu h1 he
    · rw [q_X12_read_10, ge_f (by omega), cond_false, inR_of (n := 2000) (by omega) (by omega), cond_true, cond_true, tnc h1]
      exact ih (k + 1) (x1 + 1) _ (up_a (t := 1) (n := 2000) hu rfl rfl rfl (.inl rfl) (i8b _)) (inc_i h1 (by omega)) (by omega) (by omega)
theorem read_112 : ∀ (m : Nat) (o1 : Option Value) (S : WS), wok EC (WD S) → (v : Int) + sdS S = 1 → (ftS S = 0 → PI S) → 400 ≤ tkS S + m → ∃ S', limK (RX (d + 7)) (mdOf 211) 112 [some (.ref 148), o1] [] S = limK (RX (d + 7)) (mdOf 211) 134 [some (.ref 148), o1] [] S' ∧ FR v S S' ∧ (ftS S' = 0 → PI S') := by
  intro m
  induction m using Nat.strongRecOn with
  | ind m ih =>
    intro o1 S hw hv hP hm
    have hs := sd1 hw
    have F0 : FR v S S := fr_r (by omega) hw
    rw [q_X12_read_112]
    rcases c_ne (S.1 148 13) 0 with ⟨a1, a2⟩ | ⟨a1, a2⟩
    · rw [a1, cond_true]
      exact ⟨S, rfl, F0, hP⟩
    · have a2 : ftS S = 0 := a2
      obtain ⟨r, r1, -⟩ := is_rx (d := d + 6) (x := 0) hw
      rw [a1, cond_false, r1]
      show ∃ S', limK (RX (d + 7)) (mdOf 211) 124 _ [.int r] S = _ ∧ _
      rw [q_X12_read_124]
      cases cmpB .ne r 0 with
      | true => rw [cond_true]; exact ⟨S, rfl, F0, hP⟩
      | false =>
        obtain ⟨S1, q1, q2, q3, q4⟩ := tellOne_rx (d := d) hv (hP a2) hw a2
        have e19 : sdS S1 = sdS S := sdq q2.1 rfl
        rw [cond_false, q1]
        show ∃ S', limK (RX (d + 7)) (mdOf 211) 131 _ [] S1 = _ ∧ _
        rw [q_X12_read_131]
        by_cases hf : ftS S1 = 0
        · obtain ⟨g1, g2⟩ := q4 hf
          have h4 := tk400 q2.1.1
          obtain ⟨S', p1, p2, p3⟩ := ih (m - 1) (by omega) o1 S1 q2.1.1 (by omega) (fun _ => g1) (by omega)
          exact ⟨S', p1, fr_t q2 p2, p3⟩
        · rw [q_X12_read_112, ne_t (by show ftS S1 ≠ 0; exact hf), cond_true]
          exact ⟨S1, rfl, q2, fun z => absurd z hf⟩
theorem read_219 : ∀ (m k : Nat) (x1 : Int32) (S : WS), UPD [(97, 1000)] S0 S → x1.toInt = (k : Int) → 3 - k ≤ m → k ≤ 3 → (∀ s, s < k → (S.1 198 s).toInt = 0) → ∃ S', limK (RX (d + 7)) (mdOf 211) 219 [some (.ref 148), some (.int x1)] [] S = some (some (.int 0), S') ∧ UPD [(97, 1000)] S0 S' ∧ ∀ s, s < 3 → (S'.1 198 s).toInt = 0 := by
  intro m
  have hend : ∀ (k : Nat) (x1 : Int32) (S : WS), UPD [(97, 1000)] S0 S → x1.toInt = (k : Int) → k = 3 → (∀ s, s < k → (S.1 198 s).toInt = 0) → ∃ S', limK (RX (d + 7)) (mdOf 211) 219 [some (.ref 148), some (.int x1)] [] S = some (some (.int 0), S') ∧ UPD [(97, 1000)] S0 S' ∧ ∀ s, s < 3 → (S'.1 198 s).toInt = 0 := by
    intro k x1 S hu h1 hk hF
    subst hk
    rw [q_X12_read_219, ge_t (by show (3 : Int) ≤ _; omega), cond_true]
    exact ⟨S, rfl, hu, hF⟩
  induction m with
  | zero => intro k x1 S hu h1 hm hk hF; exact hend k x1 S hu h1 (by omega) hF
  | succ m ih =>
    intro k x1 S hu h1 hm hk hF
    by_cases he : k = 3
    · exact hend k x1 S hu h1 he hF
    · have k0 : (0 : Int) ≤ ((0 : Int32) &&& 1).toInt ∧ ((0 : Int32) &&& 1).toInt ≤ 1 := ⟨by decide, by decide⟩
      rw [q_X12_read_219, ge_f (by show _ < (3 : Int); omega), cond_false, inR_of (n := 3) (by omega) (by omega), cond_true, tnc h1]
      refine ih (k + 1) (x1 + 1) _ (up_a (t := 2) (n := 3) hu rfl rfl rfl (.inl rfl) k0) (inc_i h1 (by omega)) (by omega) (by omega) (fun s hs => ?_)
      by_cases es : s = k
      · rw [es, uI_i]; rfl
      · rw [uI_j _ es]; exact hF s (by omega)
/-- behind the loop -/
theorem read_134 {o1 : Option Value} (hv : v ≤ 1) (h18 : (S5.1 148 18).toInt = (v : Int)) (hJ : JM (WD S5)) (hF : FR v S5 S) (hP : ftS S = 0 → PI S) : ∃ r S', limK (RX (d + 7)) (mdOf 211) 134 [some (.ref 148), o1] [] S = some (some (.int r), S') ∧ UPD mdRa S5 S' ∧ JM (WD S') ∧ S'.1 148 2 = S5.1 148 2 := by
  have hJ1 := fr_jm hF hv h18 hJ
  have e2 : S.1 148 2 = S5.1 148 2 := up_fl hF.1 rfl rfl rfl
  have h164 : ∀ y : Int32, ∃ r S', limK (RX (d + 7)) (mdOf 211) 164 [some (.ref 148), o1] [.int y, .ref 148] S = some (some (.int r), S') ∧ UPD mdRa S5 S' ∧ JM (WD S') ∧ S'.1 148 2 = S5.1 148 2 := fun y => by
    have hu17 : UPD [(47, 17)] S (uI S 148 17 y) := up_f (up_r hF.1.1) rfl rfl rfl rfl rfl (r32 y)
    have hbad : UPD mdRa S5 (uI S 148 17 y) ∧ JM (WD (uI S 148 17 y)) ∧ (uI S 148 17 y).1 148 2 = S5.1 148 2 := ⟨up_t (up_le rfl hF.1) (up_le rfl hu17), up_jm hu17 rfl hJ1, by rw [uI_j _ (by decide)]; exact e2⟩
    rw [q_X12_read_164]
    rcases c_le (S.1 148 13) 0 with ⟨a1, a2⟩ | ⟨a1, a2⟩
    · have a2 : ftS S ≤ 0 := a2
      rw [a1, cond_true]
      rcases c_le (S.1 148 15) 0 with ⟨b1, b2⟩ | ⟨b1, b2⟩
      · have b2 : woS S ≤ 0 := b2
        have hf := ft2 hF.1.1
        have hwo := wo5 hF.1.1
        have hPS := hP (by omega)
        have hs := sd1 hF.1.1
        have hu18 : UPD mdNw S (uI (uI S 148 17 y) 148 18 (S.1 148 19)) := up_f (up_le rfl hu17) rfl rfl rfl rfl rfl hs
        obtain ⟨U2, q1, q2, q3⟩ := begins_rx (d := d + 5) hu18.1
        obtain ⟨U3, p1, p2, p3⟩ := keepsRow_rx (d := d + 6) q2.1
        have k60 : (0 : Int) ≤ (0 : Int32).toInt ∧ (0 : Int32).toInt ≤ 30 := ⟨by decide, by decide⟩
        have k70 : (0 : Int) ≤ (0 : Int32).toInt ∧ (0 : Int32).toInt ≤ 20 := ⟨by decide, by decide⟩
        have hu4 : UPD [(47, 60), (47, 70)] U3 (uI (uI U3 148 60 0) 148 70 0) := up_f (up_f (up_r p2.1) rfl rfl rfl rfl rfl k60) rfl rfl rfl rfl rfl k70
        obtain ⟨U5, t1, t2, t3⟩ := read_219 (d := d) (S0 := uI (uI U3 148 60 0) 148 70 0) 3 0 0 _ (up_r hu4.1) rfl (by omega) (by omega) (fun s hs => by omega)
        have hall : UPD mdNw (uI (uI S 148 17 y) 148 18 (S.1 148 19)) U5 := up_t (up_le rfl q2) (up_t (up_le rfl p2) (up_t (up_le rfl hu4) (up_le rfl t2)))
        have hno : UPD [(82, 1000), (97, 1000), (47, 60), (47, 70), (47, 56), (47, 57), (47, 51), (47, 58), (47, 59), (81, 1000), (85, 1000), (80, 1000)] (uI (uI S 148 17 y) 148 18 (S.1 148 19)) U5 := up_t (up_le rfl q2) (up_t (up_le rfl p2) (up_t (up_le rfl hu4) (up_le rfl t2)))
        have g18 : U5.1 148 18 = S.1 148 19 := by rw [up_fl hno rfl rfl rfl, uI_i]
        have g2 : U5.1 148 2 = S5.1 148 2 := by rw [up_fl hno rfl rfl rfl]; exact e2
        have g60 : (U5.1 148 60).toInt = 0 := by rw [up_fl t2 rfl rfl rfl]; rfl
        have g70 : (U5.1 148 70).toInt = 0 := by rw [up_fl t2 rfl rfl rfl, uI_i]; rfl
        have evN : vN (uI (uI S 148 17 y) 148 18 (S.1 148 19)) = (sdS S).toNat := by show ((uI (uI S 148 17 y) 148 18 (S.1 148 19)).1 148 18).toInt.toNat = _; rw [uI_i]
        have gn : stS S = 0 ∨ U5.1 183 0 = S.1 168 (sdS S).toNat := by
          rcases q3 with g | g
          · left
            unfold stN at g
            rw [evN, uI_ne _ _ _ _ (by decide), uI_ne _ _ _ _ (by decide)] at g
            exact g
          · right
            rw [evN, uI_ne _ _ _ _ (by decide), uI_ne _ _ _ _ (by decide)] at g
            have e183 : U5.1 183 0 = (uI (uI U3 148 60 0) 148 70 0).1 183 0 := up_er (c := 183) (t := 0) (n := 96) t2 rfl rfl rfl rfl (by decide)
            rw [e183, uI_ne _ _ _ _ (by decide), uI_ne _ _ _ _ (by decide), p3 0 (by decide), g]
        have hJ5 : JM (WD U5) := jm_new hF.1.1 hPS (by omega) (up_t hu18 hall) (by rw [g18]) g60 g70 t3 gn
        rw [b1, cond_true, q1]
        show ∃ r S', limK (RX (d + 7)) (mdOf 211) 203 _ [] U2 = _ ∧ _
        rw [q_X12_read_203, p1]
        show ∃ r S', limK (RX (d + 7)) (mdOf 211) 207 _ [] U3 = _ ∧ _
        rw [q_X12_read_207, t1]
        exact ⟨_, U5, rfl, up_t (up_le rfl hF.1) (up_t (up_le rfl hu18) (up_le rfl hall)), hJ5, g2⟩
      · rw [b1, cond_false]
        exact ⟨_, _, rfl, hbad⟩
    · rw [a1, cond_false]
      exact ⟨_, _, rfl, hbad⟩
  rw [q_X12_read_134]
  cases cmpB .le (S.1 148 13) 0 with
  | true =>
    rw [cond_true]
    cases cmpB .le (S.1 148 15) 0 with
    | true => rw [cond_true]; exact h164 _
    | false => rw [cond_false]; exact h164 _
  | false => rw [cond_false]; exact h164 _
theorem readM_rx (hw : wok EC (WD S)) (hJ : JM (WD S)) : ∃ r S', RX (d + 8) 211 [.ref 148] S = some (some (.int r), S') ∧ UPD mdRa S S' ∧ JM (WD S') ∧ (S'.1 148 2).toInt = 0 := by
  have h2 := tp2000 hw
  have hu4 : UPD mdR0 S (uI S 148 4 (S.1 148 2)) := up_f (up_r hw) rfl rfl rfl rfl rfl h2
  obtain ⟨S1, x, q1, q2⟩ := read_10 (d := d) 2000 0 0 _ hu4 rfl (by omega) (by omega)
  have k0 : (0 : Int) ≤ (0 : Int32).toInt ∧ (0 : Int32).toInt ≤ 2000 := ⟨by decide, by decide⟩
  have u2 : UPD mdR1 S (uI S1 148 2 0) := up_f (up_le rfl q2) rfl rfl rfl rfl rfl k0
  obtain ⟨r3, S3, p1, p2⟩ := rx_sat (av := [.ref 148]) rfl (sat_up (show 4 ≤ d + 7 by omega) s_X12_cut) rfl u2.1 (up_jm u2 rfl hJ) ⟨rfl, trivial⟩ (fun q hq => by cases hq) noe
  obtain ⟨p3, p4, p5, o, ho, po, -⟩ := p2
  have e3 : r3 = none := by
    simp only [c_X12_cut, List.mem_singleton] at ho
    rw [ho] at po
    match r3, po with
    | none, _ => rfl
  subst e3
  have uc : UPD mdR1 S S3 := up_t u2 (up_le rfl ⟨p3, p5⟩)
  have hlv := lv01 uc.1
  have e18 : S3.1 148 18 = S.1 148 18 := up_fl uc rfl rfl rfl
  have e02 : S3.1 148 2 = 0 := by
    have hc : UPD c_X12_cut.2.2.2.1 (uI S1 148 2 0) S3 := ⟨p3, p5⟩
    rw [up_fl hc rfl rfl rfl, uI_i]
  obtain ⟨v, hv⟩ : ∃ v : Nat, (S3.1 148 18).toInt = (v : Int) := ⟨(S3.1 148 18).toInt.toNat, by omega⟩
  have hv1 : v ≤ 1 := by omega
  have e1 : (1 : Int32).toInt = 1 := rfl
  have hsd : ((1 : Int32) - S3.1 148 18).toInt = ((1 - v : Nat) : Int) := by rw [sb_i (by rw [e1]; omega) (by rw [e1]; omega), e1]; omega
  have kz : ∀ n : Int, 0 ≤ n → (0 : Int) ≤ (0 : Int32).toInt ∧ (0 : Int32).toInt ≤ n := fun n hn => ⟨by decide, by show (0 : Int) ≤ n; exact hn⟩
  have u5 : UPD mdR1 S3 (uI (uI (uI (uI (uI (uI S3 148 11 0) 148 12 0) 148 13 0) 148 15 0) 148 19 ((1 : Int32) - S3.1 148 18)) 148 20 0) := up_f (up_f (up_f (up_f (up_f (up_f (up_r p3) rfl rfl rfl rfl rfl (kz 400 (by decide))) rfl rfl rfl rfl rfl (kz 7 (by decide))) rfl rfl rfl rfl rfl (kz 2 (by decide))) rfl rfl rfl rfl rfl (kz 5 (by decide))) rfl rfl rfl rfl rfl ⟨by omega, by omega⟩) rfl rfl rfl rfl rfl (kz 16 (by decide))
  generalize hS5 : (uI (uI (uI (uI (uI (uI S3 148 11 0) 148 12 0) 148 13 0) 148 15 0) 148 19 ((1 : Int32) - S3.1 148 18)) 148 20 0) = S5 at u5
  have f11 : S5.1 148 11 = 0 := by rw [← hS5]; rfl
  have f12 : S5.1 148 12 = 0 := by rw [← hS5]; rfl
  have f13 : S5.1 148 13 = 0 := by rw [← hS5]; rfl
  have f19 : S5.1 148 19 = (1 : Int32) - S3.1 148 18 := by rw [← hS5]; rfl
  have f20 : S5.1 148 20 = 0 := by rw [← hS5]; rfl
  have f18 : S5.1 148 18 = S3.1 148 18 := by rw [← hS5]; rfl
  have f02 : S5.1 148 2 = 0 := by rw [← hS5]; exact e02
  have U5 : UPD mdR1 S S5 := up_t uc u5
  have J5 : JM (WD S5) := up_jm U5 rfl hJ
  have s5 : sdS S5 = ((1 - v : Nat) : Int) := by show (S5.1 148 19).toInt = _; rw [f19, hsd]
  obtain ⟨S6, c1, c2, c3, c4, c5, c6⟩ := plain_rx (d := d + 6) (x1 := (1 : Int32) - S3.1 148 18) U5.1 hsd (by omega)
  have F6 : FR v S5 S6 := by
    refine ⟨up_le rfl c2, (c4 v (by omega)).1, (c4 v (by omega)).2.2.2, fun j _ _ => up_er (t := 0) (n := 20) c2 rfl rfl rfl rfl (by omega), fun j _ _ => up_er (t := 0) (n := 80) c2 rfl rfl rfl rfl (by omega), fun j _ _ => c6 j (by omega), fun j _ _ => ⟨up_er (t := 2) (n := 260) c2 rfl rfl rfl rfl (by omega), up_er (t := 0) (n := 260) c2 rfl rfl rfl rfl (by omega), up_er (t := 0) (n := 260) c2 rfl rfl rfl rfl (by omega), up_er (t := 0) (n := 260) c2 rfl rfl rfl rfl (by omega), up_er (t := 0) (n := 260) c2 rfl rfl rfl rfl (by omega)⟩, fun j _ _ => ⟨?_, ?_⟩⟩
    · show (S6.1 178 j).toInt = _
      rw [up_er (c := 178) (t := 0) (n := 840) c2 rfl rfl rfl rfl (by omega)]
    · show (S6.1 179 j).toInt = _
      rw [up_er (c := 179) (t := 0) (n := 840) c2 rfl rfl rfl rfl (by omega)]
  have s6 : sdS S6 = ((1 - v : Nat) : Int) := by rw [sdq c2 rfl, s5]
  have e130 : (130 : Int32).toInt = 130 := rfl
  have e420 : (420 : Int32).toInt = 420 := rfl
  have m130 : ((130 : Int32) * S6.1 148 19).toInt = 130 * sdS S6 := mu_i (by rw [e130]; show _ ≤ 130 * sdS S6; omega) (by rw [e130]; show 130 * sdS S6 ≤ _; omega)
  have m420 : ((420 : Int32) * S6.1 148 19).toInt = 420 * sdS S6 := mu_i (by rw [e420]; show _ ≤ 420 * sdS S6; omega) (by rw [e420]; show 420 * sdS S6 ≤ _; omega)
  have hu7 : UPD [(47, 38), (47, 44)] S6 (uI (uI S6 148 38 ((130 : Int32) * S6.1 148 19)) 148 44 ((420 : Int32) * S6.1 148 19)) := up_f (up_f (up_r c2.1) rfl rfl rfl rfl rfl ⟨by omega, by omega⟩) rfl rfl rfl rfl rfl ⟨by omega, by omega⟩
  generalize hS7 : (uI (uI S6 148 38 ((130 : Int32) * S6.1 148 19)) 148 44 ((420 : Int32) * S6.1 148 19)) = S7 at hu7
  have g38 : brS S7 = 130 * sdS S6 := by show (S7.1 148 38).toInt = _; rw [← hS7, uI_j _ (by decide), uI_i]; exact m130
  have g44 : cdS S7 = 420 * sdS S6 := by show (S7.1 148 44).toInt = _; rw [← hS7, uI_i]; exact m420
  have F7 : FR v S5 S7 := fr_t F6 (fr_up hv1 hu7 rfl rfl)
  have s7 : sdS S7 = ((1 - v : Nat) : Int) := by rw [sdq hu7 rfl, s6]
  have n7 : (sdS S7).toNat = 1 - v := by omega
  have U57 : UPD [(57, 1000), (62, 1000), (63, 1000), (67, 1000), (68, 1000), (69, 1000), (70, 1000), (71, 1000), (47, 38), (47, 44)] S5 S7 := up_t (up_le rfl c2) (up_le rfl hu7)
  have P7 : PI S7 := by
    have g158 : S7.1 158 (1 - v) = S6.1 158 (1 - v) := up_er (t := 0) (n := 2) hu7 rfl rfl rfl rfl (by omega)
    have g164 : S7.1 164 (1 - v) = S6.1 164 (1 - v) := up_er (t := 0) (n := 2) hu7 rfl rfl rfl rfl (by omega)
    have g168 : S7.1 168 (1 - v) = S6.1 168 (1 - v) := up_er (t := 0) (n := 2) hu7 rfl rfl rfl rfl (by omega)
    have t1 : stS S7 = 0 := by show (S7.1 158 (sdS S7).toNat).toInt = _; rw [n7, g158]; exact c3.1
    have t2 : slS S7 = 0 := by show (S7.1 164 (sdS S7).toNat).toInt = _; rw [n7, g164]; exact c3.2.2.1
    have t3 : nmS S7 = 0 := by show (S7.1 148 20).toInt = _; rw [up_fl U57 rfl rfl rfl, f20]; rfl
    have t4 : opS' S7 = 0 := by show (S7.1 148 12).toInt = _; rw [up_fl U57 rfl rfl rfl, f12]; rfl
    have t5 : tkS S7 = 0 := by show (S7.1 148 11).toInt = _; rw [up_fl U57 rfl rfl rfl, f11]; rfl
    refine ⟨⟨by omega, fun i hi => by omega⟩, fun s k hs => by omega, .inl ?_, by omega, by omega, by omega, by omega, by omega, fun a ha => .inl ?_⟩
    · rw [n7, g168]; exact c3.2.2.2
    · have g171 : S7.1 171 (6 * (1 - v) + a) = S6.1 171 (6 * (1 - v) + a) := up_er (t := 0) (n := 12) hu7 rfl rfl rfl rfl (by omega)
      have g172 : S7.1 172 (6 * (1 - v) + a) = S6.1 172 (6 * (1 - v) + a) := up_er (t := 0) (n := 12) hu7 rfl rfl rfl rfl (by omega)
      rw [n7, g171, g172]
      exact c5 _ (by omega) (by omega)
  obtain ⟨S8, d1, d2, d3⟩ := read_112 (d := d) (v := v) 400 (some (.int x)) S7 hu7.1 (by omega) (fun _ => P7) (by have := tk400 hu7.1; omega)
  have F8 := fr_t F7 d2
  obtain ⟨r, S9, y1, y2, y3, y4⟩ := read_134 (d := d) (o1 := some (.int x)) hv1 (by rw [f18]; exact hv) J5 F8 d3
  rw [e_X12_read, q_X12_read_0, q1, p1]
  show ∃ r S', limK (RX (d + 7)) (mdOf 211) 45 _ [] S3 = _ ∧ _
  rw [q_X12_read_45, hS5, c1]
  show ∃ r S', limK (RX (d + 7)) (mdOf 211) 88 _ [] S6 = _ ∧ _
  rw [q_X12_read_88, hS7, d1, y1]
  exact ⟨r, S9, rfl, up_t (up_le rfl U5) y2, y3, by rw [y4, f02]; rfl⟩
end RDD
