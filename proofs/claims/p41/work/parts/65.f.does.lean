/-! doesNow -/
abbrev LawS (S : WS) (v : Int) (a : Nat) : Prop := LawOK v (ei (WD S) 171) (ei (WD S) 172) (ei (WD S) 173) (ei (WD S) 174) (ei (WD S) 175) (ei (WD S) 176) (ei (WD S) 177) (ei (WD S) 178) (ei (WD S) 179) a
theorem law_up {md : MDs} {S S' : WS} {v : Int} {a : Nat} (h : UPD md S S') (hm : fpM.all (fun q => !(mdF md q.1 q.2)) = true) (hL : LawS S v a) : LawS S' v a := by
  have hq : ∀ q ∈ fpM, mdF md q.1 q.2 = false := fun q hq => by simpa using List.all_eq_true.mp hm q hq
  unfold LawS
  rw [ei_up (c := 171) h (hq (70, 1000) (by decide)) (hq (70, 1001) (by decide)), ei_up (c := 172) h (hq (71, 1000) (by decide)) (hq (71, 1001) (by decide)), ei_up (c := 173) h (hq (72, 1000) (by decide)) (hq (72, 1001) (by decide)), ei_up (c := 174) h (hq (73, 1000) (by decide)) (hq (73, 1001) (by decide)), ei_up (c := 175) h (hq (74, 1000) (by decide)) (hq (74, 1001) (by decide)), ei_up (c := 176) h (hq (75, 1000) (by decide)) (hq (75, 1001) (by decide)), ei_up (c := 177) h (hq (76, 1000) (by decide)) (hq (76, 1001) (by decide)), ei_up (c := 178) h (hq (77, 1000) (by decide)) (hq (77, 1001) (by decide)), ei_up (c := 179) h (hq (78, 1000) (by decide)) (hq (78, 1001) (by decide))]
  exact hL
theorem up_er {md : MDs} {S0 S : WS} {c j t n : Nat} (h : UPD md S0 S) (hc : Nat.blt c 200 = true) (hs : shC c = (1, t, n)) (h1 : mdF md (ctyC c) 1000 = false) (h2 : mdF md (ctyC c) 1001 = false) (hj : j < n) : S.1 c j = S0.1 c j := by
  have := ea_of (j := j) (h.2.2.2.1 c h1 h2)
  rw [ea_wd hc hs hj, ea_wd hc hs hj] at this
  exact Option.some.inj this
theorem doesNow_247 {d b : Nat} {S : WS} {x4 : Int32} {l : Int} (o1 o2 o3 o5 o6 : Option Value) (hl : 0 ≤ l ∧ l ≤ 420) (hw : wok EC (WD S)) (h4 : x4.toInt = (b : Int)) (hb : b < 260) (hs : Seg (ei (WD S) 178) (ei (WD S) 179) l (ei (WD S) 176 b) (ei (WD S) 177 b)) :
    ∃ r S', limK (RX (d + 1)) (mdOf 238) 247 [some (.ref 148), o1, o2, o3, some (.int x4), o5, o6] [] S = some (some (.int r), S') ∧ UPD mdT S S' := by
  rw [ei_wd (t := 0) (n := 260) rfl rfl hb, ei_wd (t := 0) (n := 260) rfl rfl hb] at hs
  obtain ⟨r, S1, h1, h2⟩ := termOf_rx (d := d) hw hl hs
  have i1 : inR x4 260 = true := inR_of (by omega) (by omega)
  rw [q_X12_doesNow_247, i1, cond_true, cond_true, tnc h4, h1]
  show ∃ r' S', limK (RX (d + 1)) (mdOf 238) 265 _ [.int r] S1 = _ ∧ _
  rw [q_X12_doesNow_265]
  cases cmpB .eq (S1.1 148 51) 0 with
  | true => rw [cond_true, q_X12_doesNow_280]; exact ⟨r, S1, rfl, h2⟩
  | false => rw [cond_false, q_X12_doesNow_280]; exact ⟨0, S1, rfl, h2⟩
theorem doesNow_167 {d a : Nat} {v : Int} (hv : 0 ≤ v ∧ v ≤ 1) : ∀ (n b : Nat) (S : WS) (x2 x4 : Int32) (o1 o3 o5 o6 : Option Value), wok EC (WD S) → x2.toInt = (a : Int) → a < 12 → x4.toInt = (b : Int) → ei (WD S) 171 a ≤ (b : Int) → (ei (WD S) 172 a - b).toNat ≤ n → LawS S v a →
    ∃ r S', limK (RX (d + 1)) (mdOf 238) 167 [some (.ref 148), o1, some (.int x2), o3, some (.int x4), o5, o6] [] S = some (some (.int r), S') ∧ UPD mdT S S' := by
  have hl : 0 ≤ 420 * v ∧ 420 * v ≤ 420 := by omega
  intro n
  induction n with
  | zero =>
    intro b S x2 x4 o1 o3 o5 o6 hw h2 ha h4 hf hn hL
    rw [ei_wd (t := 0) (n := 12) rfl rfl ha] at hn
    rw [q_X12_doesNow_167, inR_of (n := 12) (by omega) (by omega), cond_true, tnc h2, ge_t (by omega)]
    exact ⟨0, S, rfl, up_r hw⟩
  | succ n ih =>
    intro b S x2 x4 o1 o3 o5 o6 hw h2 ha h4 hf hn hL
    have e72 : ei (WD S) 172 a = (S.1 172 a).toInt := ei_wd (t := 0) (n := 12) rfl rfl ha
    have ty : 0 ≤ (S.1 172 a).toInt ∧ (S.1 172 a).toInt ≤ 259 := wel (c := 172) (j := a) hw rfl rfl rfl (by decide) (show a < 12 from ha)
    rw [q_X12_doesNow_167, inR_of (n := 12) (by omega) (by omega), cond_true, tnc h2]
    rcases c_ge x4 (S.1 172 a) with ⟨k1, k2⟩ | ⟨k1, k2⟩
    · rw [k1]
      exact ⟨0, S, rfl, up_r hw⟩
    · have hb : b < 260 := by omega
      have i1 : inR x4 260 = true := inR_of (by omega) (by omega)
      obtain ⟨-, L1, L2⟩ := hL b hf (by omega)
      rw [k1, cond_false, i1, cond_true, tnc h4]
      rcases c_eq (S.1 173 b) 0 with ⟨a1, a2⟩ | ⟨a1, a2⟩
      · rw [a1, cond_true]
        exact doesNow_247 _ _ _ _ _ hl hw h4 hb L2
      · have e73 : ei (WD S) 173 b = (S.1 173 b).toInt := ei_wd (t := 2) (n := 260) rfl rfl hb
        obtain ⟨g1, g2⟩ := L1 (by rw [e73]; exact a2)
        rw [ei_wd (c := 174) (t := 0) (n := 260) rfl rfl hb, ei_wd (c := 175) (t := 0) (n := 260) rfl rfl hb] at g1
        rw [ei_wd (c := 175) (t := 0) (n := 260) rfl rfl hb, ei_wd (c := 176) (t := 0) (n := 260) rfl rfl hb] at g2
        obtain ⟨r1, S1, t1, u1⟩ := termOf_rx (d := d) hw hl g1
        rw [a1, cond_false, cond_true, cond_true, t1]
        show ∃ r' S', limK (RX (d + 1)) (mdOf 238) 206 _ [.int r1] S1 = _ ∧ _
        have e75 : S1.1 175 b = S.1 175 b := up_er u1 (t := 0) (n := 260) rfl rfl rfl rfl hb
        have e76 : S1.1 176 b = S.1 176 b := up_er u1 (t := 0) (n := 260) rfl rfl rfl rfl hb
        obtain ⟨r2, S2, t2, u2⟩ := termOf_rx (d := d) (x := S1.1 175 b) (y := S1.1 176 b) u1.1 hl (by rw [e75, e76, ei_up u1 rfl rfl, ei_up u1 rfl rfl]; exact g2)
        rw [q_X12_doesNow_206, i1, cond_true, cond_true, tnc h4, t2]
        show ∃ r' S', limK (RX (d + 1)) (mdOf 238) 226 _ [.int r2] S2 = _ ∧ _
        have u12 := up_t u1 u2
        have hL2 := law_up u12 rfl hL
        rw [q_X12_doesNow_226]
        cases cmpB .eq (S2.1 148 51) 0 with
        | false => exact ⟨0, S2, rfl, u12⟩
        | true =>
          rw [cond_true]
          cases cmpB .lt r1 r2 with
          | true =>
            rw [cond_true]
            obtain ⟨r, S', q1, q2⟩ := doesNow_247 (d := d) o1 (some (.int x2)) o3 (some (.int r1)) (some (.int r2)) hl u12.1 h4 hb (by rw [ei_up u12 rfl rfl, ei_up u12 rfl rfl, ei_up u12 rfl rfl, ei_up u12 rfl rfl]; exact L2)
            exact ⟨r, S', q1, up_t u12 q2⟩
          | false =>
            rw [cond_false]
            have h41 : (x4 + 1).toInt = ((b + 1 : Nat) : Int) := by
              rw [ad_i (by show _ ≤ x4.toInt + 1; omega) (by show x4.toInt + 1 ≤ _; omega)]
              show x4.toInt + 1 = _
              omega
            obtain ⟨r, S', q1, q2⟩ := ih (b + 1) S2 x2 (x4 + 1) o1 (dr2 o3) (some (.int r1)) (some (.int r2)) u12.1 h2 ha h41 (by rw [ei_up u12 rfl rfl]; omega) (by rw [ei_up u12 rfl rfl]; omega) hL2
            exact ⟨r, S', q1, up_t u12 q2⟩
theorem doesNow_rx {d : Nat} {S : WS} {x : Int32} (hw : wok EC (WD S)) (hJ : JM (WD S)) (hx : 0 ≤ x.toInt ∧ x.toInt ≤ 5) (hr : 0 ≤ (S.1 186 0).toInt ∧ (S.1 186 0).toInt ≤ 9) : ∃ r S', RX (d + 2) 238 [.ref 148, .int x] S = some (some (.int r), S') ∧ UPD mdD S S' := by
  have hv : 0 ≤ (S.1 148 18).toInt ∧ (S.1 148 18).toInt ≤ 1 := wfd (a := .inl (0, 0)) hw rfl rfl rfl rfl
  have hL := hJ.2.2.2.2.2 x.toInt.toNat (by omega)
  rw [fi_wd (by decide) (by decide)] at hL
  have hi : ((6 : Int32) * (S.1 148 18) + x).toInt = ((6 * (S.1 148 18).toInt.toNat + x.toInt.toNat : Nat) : Int) := by
    have h6 : ((6 : Int32) * (S.1 148 18)).toInt = 6 * (S.1 148 18).toInt := mu_i (by show _ ≤ 6 * _; omega) (by show 6 * _ ≤ _; omega)
    rw [ad_i (by omega) (by omega), h6]
    omega
  have hs : ((10 : Int32) * (S.1 148 18) + S.1 186 0).toInt = 10 * (S.1 148 18).toInt + (S.1 186 0).toInt := by
    have h6 : ((10 : Int32) * (S.1 148 18)).toInt = 10 * (S.1 148 18).toInt := mu_i (by show _ ≤ 10 * _; omega) (by show 10 * _ ≤ _; omega)
    rw [ad_i (by omega) (by omega), h6]
  have h35 : ((35 : Int32) + (10 : Int32) * x + S.1 186 0).toInt = 35 + 10 * x.toInt + (S.1 186 0).toInt := by
    have h6 : ((10 : Int32) * x).toInt = 10 * x.toInt := mu_i (by show _ ≤ 10 * _; omega) (by show 10 * _ ≤ _; omega)
    have h7 : ((35 : Int32) + (10 : Int32) * x).toInt = 35 + 10 * x.toInt := by
      rw [ad_i (by rw [h6]; show _ ≤ 35 + _; omega) (by rw [h6]; show 35 + _ ≤ _; omega), h6]
      rfl
    rw [ad_i (by omega) (by omega), h7]
  have h4 : ((4 : Int32) + x).toInt = 4 + x.toInt := ad_i (by show _ ≤ 4 + _; omega) (by show 4 + _ ≤ _; omega)
  have h10 : ((10 : Int32) + x).toInt = 10 + x.toInt := ad_i (by show _ ≤ 10 + _; omega) (by show 10 + _ ≤ _; omega)
  rw [e_X12_doesNow, q_X12_doesNow_0]
  generalize hat : (6 : Int32) * (S.1 148 18) + x = at_ at hi ⊢
  rw [inR_of (x := at_) (n := 12) (by omega) (by omega), cond_true, cond_true]
  cases cmpB .eq (S.1 171 at_.toNatClampNeg) (S.1 172 at_.toNatClampNeg) with
  | true =>
    rw [cond_true, q_X12_doesNow_33]
    exact ⟨0, S, rfl, up_r hw⟩
  | false =>
    rw [cond_false]
    cases cmpB .ne x (S.1 148 57) with
    | false =>
      rw [cond_false, q_X12_doesNow_33]
      exact ⟨0, S, rfl, up_r hw⟩
    | true =>
      rw [cond_true, inR_of (n := 20) (by omega) (by omega), cond_true, inR_of (n := 96) (by omega) (by omega), cond_true, cond_true, inR_of (n := 96) (by omega) (by omega), cond_true, inR_of (n := 96) (by omega) (by omega), cond_true, cond_true]
      have hu : ∀ (z0 z1 z2 z3 z4 z5 z6 : Int32), UPD mdD S (uI (uI (uI (uI (uI (uI (uI (uI S 181 0 z0) 181 1 z1) 181 2 z2) 181 3 z3) 181 4 z4) 181 5 z5) 181 6 z6) 148 51 0) := fun z0 z1 z2 z3 z4 z5 z6 => by
        refine up_f ?_ rfl rfl rfl rfl rfl ⟨by decide, by decide⟩
        have st : ∀ {S1 : WS} (j : Nat) (z : Int32), UPD mdD S S1 → UPD mdD S (uI S1 181 j z) := fun j z h => up_a (t := 0) (n := 7) h rfl rfl rfl (.inl rfl) (r32 z)
        exact st 6 z6 (st 5 z5 (st 4 z4 (st 3 z3 (st 2 z2 (st 1 z1 (st 0 z0 (up_r hw)))))))
      have hu := hu (S.1 186 0) (S.1 159 ((10 : Int32) * (S.1 148 18) + S.1 186 0).toNatClampNeg) (S.1 186 2 / 24) (S.1 186 ((35 : Int32) + (10 : Int32) * x + S.1 186 0).toNatClampNeg) (S.1 161 ((10 : Int32) * (S.1 148 18) + S.1 186 0).toNatClampNeg) (S.1 186 ((4 : Int32) + x).toNatClampNeg) (S.1 186 ((10 : Int32) + x).toNatClampNeg)
      have hlf : 0 ≤ (S.1 171 at_.toNatClampNeg).toInt ∧ (S.1 171 at_.toNatClampNeg).toInt ≤ 259 := wel (c := 171) hw rfl rfl rfl (by decide) (show at_.toNatClampNeg < 12 by rw [tnn]; omega)
      obtain ⟨r, S', q1, q2⟩ := doesNow_167 (d := d) (a := at_.toNatClampNeg) hv _ (S.1 171 at_.toNatClampNeg).toInt.toNat _ at_ (S.1 171 at_.toNatClampNeg) (some (.int x)) (some (.int (S.1 186 0))) none none hu.1 (by rw [tnn]; omega) (by rw [tnn]; omega) (by omega) (by rw [ei_up hu rfl rfl, ei_wd (t := 0) (n := 12) rfl rfl (by rw [tnn]; omega)]; omega) (Nat.le_refl _) (law_up hu rfl (by rw [tnn, hi]; exact hL))
      exact ⟨r, S', q1, up_t hu (up_le rfl q2)⟩
theorem el_f {sl j : Nat} {S : WS} {lo hi : Int} {t n c : Nat} (h : ges EC 148 [] [(sl, .inl ((j : Int), (j : Int)), .inl (lo, hi))] (WD S)) (hc : arrC 148 sl = c) (h1 : Nat.blt c 200 = true) (hs : shC c = (1, t, n)) (hj : j < n) : lo ≤ (S.1 c j).toInt ∧ (S.1 c j).toInt ≤ hi := by
  obtain ⟨i, x, g1, g2, g3⟩ := h _ List.mem_cons_self
  have e : i = j := by
    have g1 : (j : Int) = (i : Int) ∧ (j : Int) = (i : Int) := g1
    omega
  subst e
  have g2 : ea (WD S) (arrC 148 sl) i = some x := g2
  rw [hc, ea_wd h1 hs hj] at g2
  cases g2
  obtain ⟨y, y1, y2⟩ := g3
  cases y1
  exact y2
theorem cp_i {c : Ctr} {S S' : WS} {md : MDs} {r : Int32} {lo hi : Int} (hJ : JM (WD S)) (hu : UPD md S S') (hm : fpM.all (fun q => !(mdF md q.1 q.2)) = true) (h1 : c.2.2.2.1 = md) (h2 : c.2.2.2.2 = [(some (.inl (lo, hi)), ([], []))]) (hr : lo ≤ r.toInt ∧ r.toInt ≤ hi) : CPost EC JM 148 (WD S) c (some (.int r)) (WD S') := by
  refine ⟨hu.1, up_jm hu hm hJ, by rw [h1]; exact hu.2, (some (.inl (lo, hi)), ([], [])), by rw [h2]; exact List.mem_cons_self, ⟨r, rfl, hr⟩, nof, noe⟩
theorem cp_v {c : Ctr} {S S' : WS} {md : MDs} (hJ : JM (WD S)) (hu : UPD md S S') (hm : fpM.all (fun q => !(mdF md q.1 q.2)) = true) (h1 : c.2.2.2.1 = md) (h2 : c.2.2.2.2 = [(none, ([], []))]) : CPost EC JM 148 (WD S) c none (WD S') := by
  refine ⟨hu.1, up_jm hu hm hJ, by rw [h1]; exact hu.2, (none, ([], [])), by rw [h2]; exact List.mem_cons_self, trivial, nof, noe⟩
theorem s_hand_X12_doesNow_0 : Sat EC JM 4 238 c_hand_X12_doesNow_0 := sat_rx rfl rfl (fun av S hw hJ ha hf he => by
  match av, ha with
  | [v0, v1], ⟨g0, ⟨x, g1, g2⟩, _⟩ =>
    have g0 : v0 = .ref 148 := g0
    subst g0
    subst g1
    obtain ⟨r, S', q1, q2⟩ := doesNow_rx (d := 2) hw hJ g2 (el_f (j := 0) he rfl rfl rfl (by decide))
    exact ⟨_, S', q1, cp_i hJ q2 rfl rfl rfl (r32 r)⟩)
theorem s_hand_X12_doesNow_1 : Sat EC JM 4 238 c_hand_X12_doesNow_1 := sat_rx rfl rfl (fun av S hw hJ ha hf he => by
  match av, ha with
  | [v0, v1], ⟨g0, ⟨x, g1, g2⟩, _⟩ =>
    have g0 : v0 = .ref 148 := g0
    subst g0
    subst g1
    obtain ⟨r, S', q1, q2⟩ := doesNow_rx (d := 2) hw hJ g2 (el_f (j := 0) he rfl rfl rfl (by decide))
    exact ⟨_, S', q1, cp_i hJ q2 rfl rfl rfl (r32 r)⟩)
