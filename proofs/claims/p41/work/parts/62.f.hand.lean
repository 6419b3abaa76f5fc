/-! take, cut and start keep JC -/
section HF
variable {d pc o ci sl k idx ps : Nat} {M : MD} {lv : List (Nat × Value)} {w : List AE} {P P' : Option Value → List AE → Prop} {fl r rest : List Value} {v u : Value}
theorem ex_c0 {b0 s0 p0 : Nat} (hi : md_i M pc = some (.invokevirtual idx, 3, k, b0, s0, p0)) (hn : (md_p (mdOf b0)).getD 5 0 = 0) (hs : Nat.beq ((md_p (mdOf b0)).getD 4 0) 1 = false) (hin : decide ((md_y (mdOf b0)).name = "<init>") = false) (h1 : w[o]? = some (OB ci fl)) (hci : (Nat.beq ci (md_k (mdOf b0)) && Nat.blt ci 13) = true) (hr : Nat.ble (rest.map fun v => v.category).sum 8 = true) (hc : MEx d b0 [.ref o] w P') (hk : ∀ r w', P' r w' → w'.length = w.length ∧ Ex d M (pc + 3) lv (r.toList ++ rest) w' P) : Ex d M pc lv (.ref o :: rest) w P := by
  refine ex_call (q := (b0, [.ref o], rest)) hi rfl retS_v ?_ hc hk
  have hrc : rcB (mdOf b0) w o = true := by
    unfold rcB
    rw [h1]
    exact hci
  unfold callP
  simp only [hn, List.drop_zero, List.take_zero, List.reverse_nil, hs, hin, hrc, hr, Bool.not_false, Bool.and_self, cond_true]
theorem ex_is {i x : Int32} {l : List Int32} {t : Nat × Nat × Nat × Nat} (hi : md_i M pc = some (.iastore, 1, t)) (h1 : w[o]? = some (.inl (0, l))) (hr : inR i l.length = true) (h : Ex d M (pc + 1) lv r (w.set o (.inl (0, l.set i.toNatClampNeg x))) P) : Ex d M pc lv (.int x :: .int i :: .ref o :: r) w P := by
  refine ex_step hi (st' := r) (lv' := lv) ?_ h
  show asS 0 0 pc lv (.int x :: .int i :: .ref o :: r) w = _
  unfold asS
  simp only [h1, hr, Nat.beq_refl, Bool.or_self, Bool.and_self, cond_true]
  rfl
theorem ex_ls {i : Int32} {x : Int64} {l : List Int64} {t : Nat × Nat × Nat × Nat} (hi : md_i M pc = some (.lastore, 1, t)) (h1 : w[o]? = some (.inr (.inl l))) (hr : inR i l.length = true) (h : Ex d M (pc + 1) lv r (w.set o (.inr (.inl (l.set i.toNatClampNeg x)))) P) : Ex d M pc lv (.long x :: .int i :: .ref o :: r) w P := by
  refine ex_step hi (st' := r) (lv' := lv) ?_ h
  show lsS pc lv (.long x :: .int i :: .ref o :: r) w = _
  unfold lsS
  simp only [h1, hr, cond_true]
end HF
theorem gvo_n {E : WE} {th : Nat} {ρ : List Int} {r : Option Value} (h : gvo E th ρ none r) : r = none := by
  match r, h with
  | none, _ => rfl
theorem nof {E : WE} {th : Nat} {w : List AE} : gfs E th [] [] w := fun q hq => by cases hq
theorem noe {E : WE} {th : Nat} {w : List AE} : ges E th [] [] w := fun q hq => by cases hq
def K1 (w : List AE) : Prop := ∀ (j : Nat) (y : Int64), ea w 5 j = some 3 → la w 7 j = some y → (-60000) ≤ y.toInt ∧ y.toInt ≤ 240000
theorem k1_o : JSo K1 := fun m0 h w w' ha hJ => by
  have hm : ∀ q ∈ fpC, mdF m0 q.1 q.2 = false := fun q hq => by simpa using List.all_eq_true.mp h q hq
  have hK : ra w' 5 = ra w 5 := ha.2.2.1 5 (hm (6, 1000) (by decide)) (hm (6, 1001) (by decide))
  have hV : ra w' 7 = ra w 7 := ha.2.2.1 7 (hm (8, 1000) (by decide)) (hm (8, 1001) (by decide))
  exact fun j y h1 h2 => hJ j y (by rw [← ea_of hK]; exact h1) (by rw [← la_of hV]; exact h2)
theorem k1_set {w : List AE} {o : Nat} {e : AE} (h5 : o ≠ 5) (h7 : o ≠ 7) (h : K1 w) : K1 (w.set o e) := fun j y a b => by
  unfold ea at a
  unfold la at b
  rw [st_ne h5] at a
  rw [st_ne h7] at b
  exact h j y a b
theorem s_hand_X5_take_1 : Sat EC JC 3 67 c_hand_X5_take_1 := fun th av w a1 a2 a3 a4 a5 a6 a7 => by
  have e : th = 1 := cty_one 2 1 (by decide +kernel) (by decide) th a1
  subst e
  have hT := t_X5_take 1 av w a1 a2 a3 trivial a5 a6 a7
  match av, a5, hT with
  | [v0, v1], ⟨g0, g1, _⟩, hT =>
    have g0 : v0 = .ref 1 := g0
    obtain ⟨k, rfl, -⟩ := g1
    subst g0
    exact mex_up (by decide) (mex_post (mex_and hT (take_run a3 a4 k)) (fun r w' q => ⟨q.1.1, q.2.1, q.1.2.2.1, q.1.2.2.2⟩))
theorem s_hand_X5_take_0 : Sat EC JC 3 67 c_hand_X5_take_0 := fun th av w a1 a2 a3 a4 a5 a6 a7 => by
  have e : th = 1 := cty_one 2 1 (by decide +kernel) (by decide) th a1
  subst e
  match av, a5 with
  | [v0, v1], ⟨g0, g1, _⟩ =>
    have g0 : v0 = .ref 1 := g0
    obtain ⟨k, rfl, k1, k2⟩ := g1
    subst g0
    have hk : k = 3 := Int32.toInt_inj.mp (by show k.toInt = 3; omega)
    have hT := t_X5_take 1 [.ref 1, .int k] w a1 a2 a3 trivial ⟨rfl, ⟨k, rfl, (r32 k).1, (r32 k).2⟩, trivial⟩ nof noe
    refine mex_up (by decide) (mex_post (mex_and hT (take_run a3 a4 k)) (fun r w' q => ⟨q.1.1, q.2.1, q.1.2.2.1, ?_⟩))
    obtain ⟨o, o1, o2, -⟩ := q.1.2.2.2
    have o1 : o = (some (vI 0 1), ([], [])) := List.mem_singleton.mp o1
    subst o1
    match r, o2 with
    | some v, o2 =>
      obtain ⟨x, rfl, x1, x2⟩ := o2
      by_cases hx : x.toInt = 0
      · exact ⟨_, List.mem_cons_self, ⟨x, rfl, by omega, by omega⟩, nof, noe⟩
      · have hx1 : x = 1 := Int32.toInt_inj.mp (by show x.toInt = 1; omega)
        subst hx1
        obtain ⟨y, y1, y2, y3⟩ := q.2.2 rfl hk
        refine ⟨_, List.mem_cons_of_mem _ List.mem_cons_self, ⟨1, rfl, by decide, by decide⟩, fun z hz => ?_, noe⟩
        have hz := List.mem_singleton.mp hz
        subst hz
        exact ⟨.long y, y1, y, rfl, y2, y3⟩
set_option maxRecDepth 100000 in
theorem cut_loop : ∀ (n : Nat) (i : Int32) (w : List AE), wok EC w → K1 w → 0 ≤ i.toInt → (402 - i.toInt).toNat < n → Ex 8 (mdOf 100) 12 [(1, .int i), (0, .ref 2)] [] w (fun _ w' => K1 w') := by
  intro n
  induction n with
  | zero => intro i w _ _ _ h; omega
  | succ n ih =>
    intro i w hw hK hi hn
    obtain ⟨t1, t6, t7, t8, hT, -⟩ := sh_tp hw
    refine ex_u rfl rfl ?_
    refine ex_u rfl rfl ?_
    refine ex_ic rfl (by decide) (fun _ => ex_ret (r := none) rfl rfl rfl hK) (fun hlt => ?_)
    have hlt : i.toInt < 401 := by
      have h9 : decide ((401 : Int32) ≤ i) = false := hlt
      have h8 : ¬ (401 : Int32) ≤ i := of_decide_eq_false h9
      have h7 := Int32.lt_iff_toInt_lt.mp (Int32.not_le.mp h8)
      exact h7
    refine ex_u rfl rfl ?_
    refine ex_gf rfl rfl hT rfl ?_
    refine ex_if rfl (by decide) (fun _ => ex_ret (r := none) rfl rfl rfl hK) (fun _ => ?_)
    refine ex_u rfl rfl ?_
    refine ex_gf rfl rfl hT rfl ?_
    refine ex_u rfl rfl ?_
    refine ex_ic rfl (by decide) (fun _ => ex_ret (r := none) rfl rfl rfl hK) (fun _ => ?_)
    refine ex_u rfl rfl ?_
    refine ex_c0 (P' := CPost EC K1 2 w c_X7_skipBlanks) rfl rfl rfl (by decide +kernel) hT rfl rfl (sat_up (d' := 8) (by decide) (s_X7_skipBlanks k1_o) 2 [.ref 2] w rfl (by decide) hw hK ⟨rfl, trivial⟩ nof noe) (fun r w1 q => ⟨q.2.2.1.1, ?_⟩)
    obtain ⟨q1, q2, q3, o, o1, o2, -⟩ := q
    have o1 := List.mem_singleton.mp o1
    subst o1
    have o2 := gvo_n o2
    subst o2
    obtain ⟨s1, s6, s7, s8, hT1, -⟩ := sh_tp q1
    obtain ⟨lP, hP, nP, -⟩ := row_at (k := 6) q1 (t := ctyC 6) rfl (by decide) rfl
    have rP : inR i lP.length = true := inR_of hi (by rw [nP]; omega)
    refine ex_u rfl rfl ?_
    refine ex_gf rfl rfl hT1 rfl ?_
    refine ex_u rfl rfl ?_
    refine ex_u rfl rfl ?_
    refine ex_gf rfl rfl hT1 rfl ?_
    refine ex_is rfl hP rP ?_
    have hw2 : wok EC (w1.set 6 (.inl (0, lP.set i.toNatClampNeg s6))) := wok_set q1 (List.getElem?_eq_some_iff.mp hP).1 (fun _ => ⟨_, rfl, by rw [List.length_set]; exact nP, fun j x _ => r32 x⟩)
    have hK2 : K1 (w1.set 6 (.inl (0, lP.set i.toNatClampNeg s6))) := k1_set (by decide) (by decide) q2
    generalize (w1.set 6 (.inl (0, lP.set i.toNatClampNeg s6)) : List AE) = w2 at hw2 hK2
    obtain ⟨s1, s6, s7, s8, hT2, -⟩ := sh_tp hw2
    refine ex_u rfl rfl ?_
    refine ex_c0 (P' := CPost EC K1 2 w2 c_X7_cutOne) rfl rfl rfl (by decide +kernel) hT2 rfl rfl (s_X7_cutOne k1_o 2 [.ref 2] w2 rfl (by decide) hw2 hK2 ⟨rfl, trivial⟩ nof noe) (fun r w3 q => ⟨q.2.2.1.1, ?_⟩)
    obtain ⟨q1, q2, q3, o, o1, o2, o3, -⟩ := q
    have hrn : r = none := by
      rcases List.mem_cons.mp o1 with e | o1
      · subst e; exact gvo_n o2
      · rcases List.mem_cons.mp o1 with e | o1
        · subst e; exact gvo_n o2
        · have e := List.mem_singleton.mp o1
          subst e; exact gvo_n o2
    subst hrn
    obtain ⟨u1, u6, u7, u8, hT3, -⟩ := sh_tp q1
    obtain ⟨lK, hKr, nK, -⟩ := row_at (k := 5) q1 (t := ctyC 5) rfl (by decide) rfl
    obtain ⟨lV, hV, nV⟩ := lrow_at (k := 7) q1 (t := ctyC 7) rfl (by decide) rfl
    have hf7 : fa w3 2 7 = some (.int u7) := by unfold fa; rw [hT3]; rfl
    have hf8 : fa w3 2 8 = some (.long u8) := by unfold fa; rw [hT3]; rfl
    have hpost : u7 = 3 → (-60000) ≤ u8.toInt ∧ u8.toInt ≤ 240000 := by
      intro e3
      rcases List.mem_cons.mp o1 with e | o1
      · subst e
        obtain ⟨v, v1, v2⟩ := o3 _ List.mem_cons_self
        rw [hf7] at v1
        cases v1
        obtain ⟨x, x0, x1, x2⟩ := v2
        cases x0
        rw [e3] at x2
        exact absurd x2 (by decide)
      · rcases List.mem_cons.mp o1 with e | o1
        · subst e
          obtain ⟨v, v1, v2⟩ := o3 _ List.mem_cons_self
          rw [hf8] at v1
          cases v1
          obtain ⟨x, x0, x1, x2⟩ := v2
          cases x0
          exact ⟨x1, x2⟩
        · have e := List.mem_singleton.mp o1
          subst e
          obtain ⟨v, v1, v2⟩ := o3 _ List.mem_cons_self
          rw [hf7] at v1
          cases v1
          obtain ⟨x, x0, x1, x2⟩ := v2
          cases x0
          rw [e3] at x1
          exact absurd x1 (by decide)
    have rK : inR i lK.length = true := inR_of hi (by rw [nK]; omega)
    have rV : inR i lV.length = true := inR_of hi (by rw [nV]; omega)
    refine ex_u rfl rfl ?_
    refine ex_gf rfl rfl hT3 rfl ?_
    refine ex_u rfl rfl ?_
    refine ex_u rfl rfl ?_
    refine ex_gf rfl rfl hT3 rfl ?_
    refine ex_is rfl hKr rK ?_
    refine ex_u rfl rfl ?_
    refine ex_gf rfl rfl ((st_ne (by decide)).trans hT3) rfl ?_
    refine ex_u rfl rfl ?_
    refine ex_u rfl rfl ?_
    refine ex_gf rfl rfl ((st_ne (by decide)).trans hT3) rfl ?_
    refine ex_ls rfl ((st_ne (by decide)).trans hV) rV ?_
    refine ex_u rfl rfl ?_
    refine ex_u rfl rfl ?_
    have hi1 : (i + Int32.ofInt 1).toInt = i.toInt + 1 := by
      rw [Int32.toInt_add]
      exact bm32 (by show _ ≤ i.toInt + 1; omega) (by show i.toInt + 1 ≤ _; omega)
    refine ih (i + Int32.ofInt 1) _ ?_ ?_ (by omega) (by omega)
    · refine wok_set (wok_set q1 (List.getElem?_eq_some_iff.mp hKr).1 (fun _ => ⟨_, rfl, by rw [List.length_set]; exact nK, fun j x _ => r32 x⟩)) (by rw [List.length_set]; exact (List.getElem?_eq_some_iff.mp hV).1) (fun _ => ⟨_, rfl, by rw [List.length_set]; exact nV⟩)
    · intro j y a b
      have hk5 : 5 < w3.length := (List.getElem?_eq_some_iff.mp hKr).1
      have hk7 : 7 < w3.length := (List.getElem?_eq_some_iff.mp hV).1
      unfold ea at a
      unfold la at b
      rw [st_ne (by decide), st_self hk5] at a
      rw [st_self (by rw [List.length_set]; exact hk7)] at b
      have a : (lK.set i.toNatClampNeg u7)[j]? = some 3 := a
      have b : (lV.set i.toNatClampNeg u8)[j]? = some y := b
      by_cases hj : i.toNatClampNeg = j
      · subst hj
        rw [List.getElem?_set_self (inR_lt rK)] at a
        rw [List.getElem?_set_self (inR_lt rV)] at b
        cases b
        exact hpost (Option.some.inj a)
      · rw [List.getElem?_set_ne hj] at a b
        exact q2 j y (by unfold ea; rw [hKr]; exact a) (by unfold la; rw [hV]; exact b)
