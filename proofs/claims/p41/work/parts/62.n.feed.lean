/-! feed and back of the class, exactly -/
def retsB (o : Option (List RET)) (f : RET → Bool) : Bool := match o with
  | some l => l.all f
  | none => false
theorem retsB_ok {o : Option (List RET)} {f : RET → Bool} (h : retsB o f = true) : ∃ l, o = some l ∧ ∀ p ∈ l, f p = true := by
  match o, h with
  | some l, h => exact ⟨l, rfl, fun p hp => List.all_eq_true.mp h p hp⟩
theorem noX {J : List AE → Prop} : ∀ b, ∀ c ∈ (mkX [] []).1 b, Sat EC J 0 b c := fun b c hc => by cases hc
def add4B (p : RET) : Bool := p.1.isNone && (match alg p.2.2.2.2.2.1 1 with
  | some (.inr (.inl s)) => Nat.beq s.1 0 && decide (s.2 = 4)
  | _ => false)
theorem gcs1 {L : Int32} {lo hi : Int} (h0 : lo ≤ L.toInt) (h1 : L.toInt ≤ hi) : gcs [L.toInt] [(0, (lo, hi, false, none))] 1 := by
  refine ⟨rfl, fun k e hk => ?_⟩
  have hm := csg_mem hk
  have hm := List.mem_singleton.mp hm
  cases hm
  exact ⟨L.toInt, rfl, h0, h1, fun q => (by cases q), fun b q => (by cases q)⟩
theorem len_fact {w : List AE} {L : Int32} (hL : fa w 2 1 = some (.int L)) : gfs EC 2 [L.toInt] [(1, vS 0 0)] w := fun q hq => by
  have hq := List.mem_singleton.mp hq
  subst hq
  exact ⟨.int L, hL, L, L.toInt, rfl, rfl, by show L.toInt = L.toInt + 0; omega⟩
theorem add_run {w : List AE} {L a : Int32} (hw : wok EC w) (hJ : JC w) (hL : fa w 2 1 = some (.int L)) (h0 : 0 ≤ L.toInt) (h1 : L.toInt ≤ 1996) : MEx 2 98 [.ref 2, .int a] w (fun r w' => r = none ∧ wok EC w' ∧ JC w' ∧ agr EC (mdF [(3, 1), (4, 1000)]) w w' ∧ ∃ L' : Int32, fa w' 2 1 = some (.int L') ∧ L'.toInt = L.toInt + 4) := by
  obtain ⟨rets, e1, e2⟩ := retsB_ok (o := exM EC (mkX [] []) 400 2 98 3 [(3, 1), (4, 1000)] [(3, 1), (4, 1000)] [(0, (0, 1996, false, none))] 1 [vX 0, top32] ([(1, vS 0 0)], [])) (f := add4B) (by decide +kernel)
  refine mex_post (exM_ok (J := JC) noX 400 2 98 3 _ _ _ 1 _ _ rets e1 (js_of rfl) (fun _ _ h => h) 2 [L.toInt] [.ref 2, .int a] w rfl (by decide) hw hJ (gcs1 h0 h1) ⟨rfl, gv_top a, trivial⟩ (len_fact hL) (fun q hq => by cases hq)) (fun r w' q => ?_)
  obtain ⟨q1, q2, q3, p, p1, t, p2, p3, p4, p5⟩ := q
  have hp := e2 p p1
  unfold add4B at hp
  simp only [Bool.and_eq_true] at hp
  obtain ⟨hp1, hp2⟩ := hp
  have hn : p.1 = none := by simpa using hp1
  rw [hn] at p2
  refine ⟨gvo_n p2, q1, q2, q3, ?_⟩
  split at hp2
  · rename_i s hs
    simp only [Bool.and_eq_true, decide_eq_true_eq] at hp2
    obtain ⟨v, v1, v2⟩ := p4 _ (alg_mem hs)
    obtain ⟨x, zz, x1, x2, x3⟩ := v2
    subst x1
    rw [Nat.eq_of_beq_eq_true hp2.1] at x2
    have x2 : some L.toInt = some zz := x2
    cases x2
    exact ⟨x, v1, by rw [x3, hp2.2]⟩
  · cases hp2
def resIB (c : Int) (p : RET) : Bool := match p.1 with
  | some (.inl q) => decide (q.1 = c) && decide (q.2 = c)
  | _ => false
theorem resIB_ok {c : Int} {p : RET} {th : Nat} {ρ : List Int} {r : Option Value} (h : resIB c p = true) (hg : gvo EC th ρ p.1 r) : ∃ x : Int32, r = some (.int x) ∧ x.toInt = c := by
  unfold resIB at h
  split at h
  · rename_i q hq
    simp only [Bool.and_eq_true, decide_eq_true_eq] at h
    rw [hq] at hg
    match r, hg with
    | some v, hg =>
      obtain ⟨x, e, x1, x2⟩ := hg
      subst e
      exact ⟨x, rfl, by omega⟩
  · cases h
theorem room_run {w : List AE} {L : Int32} {lo hi c : Int} (hw : wok EC w) (hJ : JC w) (hL : fa w 2 1 = some (.int L)) (h0 : lo ≤ L.toInt) (h1 : L.toInt ≤ hi) (hc : retsB (exM EC (mkX [] []) 400 1 97 3 [] [] [(0, (lo, hi, false, none))] 1 [vX 0, vI 20 20] ([(1, vS 0 0)], [])) (resIB c) = true) : MEx 1 97 [.ref 2, .int 20] w (fun r w' => (∃ x : Int32, r = some (.int x) ∧ x.toInt = c) ∧ wok EC w' ∧ JC w' ∧ agr EC (mdF []) w w') := by
  obtain ⟨rets, e1, e2⟩ := retsB_ok hc
  refine mex_post (exM_ok (J := JC) noX 400 1 97 3 _ _ _ 1 _ _ rets e1 (js_of rfl) (fun _ _ h => h) 2 [L.toInt] [.ref 2, .int 20] w rfl (by decide) hw hJ (gcs1 h0 h1) ⟨rfl, ⟨20, rfl, by decide, by decide⟩, trivial⟩ (len_fact hL) (fun q hq => by cases hq)) (fun r w' q => ?_)
  obtain ⟨q1, q2, q3, p, p1, t, p2, -⟩ := q
  exact ⟨resIB_ok (e2 p p1) p2, q1, q2, q3⟩
theorem room_yes : retsB (exM EC (mkX [] []) 400 1 97 3 [] [] [(0, (0, 1980, false, none))] 1 [vX 0, vI 20 20] ([(1, vS 0 0)], [])) (resIB 1) = true := by decide +kernel
theorem room_no : retsB (exM EC (mkX [] []) 400 1 97 3 [] [] [(0, (1981, 2000, false, none))] 1 [vX 0, vI 20 20] ([(1, vS 0 0)], [])) (resIB 0) = true := by decide +kernel
section HN
variable {d pc o ci sl k idx ps : Nat} {M : MD} {lv : List (Nat × Value)} {w : List AE} {P P' : Option Value → List AE → Prop} {fl r rest : List Value} {v u : Value}
theorem ex_c1 {b0 s0 p0 : Nat} (hi : md_i M pc = some (.invokevirtual idx, 3, k, b0, s0, p0)) (hn : (md_p (mdOf b0)).getD 5 0 = 1) (hs : Nat.beq ((md_p (mdOf b0)).getD 4 0) 1 = false) (hin : decide ((md_y (mdOf b0)).name = "<init>") = false) (h1 : w[o]? = some (OB ci fl)) (hci : (Nat.beq ci (md_k (mdOf b0)) && Nat.blt ci 13) = true) (hr : Nat.ble (rest.map fun v => v.category).sum 8 = true) (hc : MEx d b0 [.ref o, v] w P') (hk : ∀ r w', P' r w' → w'.length = w.length ∧ Ex d M (pc + 3) lv (r.toList ++ rest) w' P) : Ex d M pc lv (v :: .ref o :: rest) w P := by
  refine ex_call (q := (b0, [.ref o, v], rest)) hi rfl retS_v ?_ hc hk
  have hrc : rcB (mdOf b0) w o = true := by
    unfold rcB
    rw [h1]
    exact hci
  unfold callP
  simp only [hn, List.drop_succ_cons, List.drop_zero, List.take_succ_cons, List.take_zero, List.reverse_cons, List.reverse_nil, List.nil_append, hs, hin, hrc, hr, Bool.not_false, Bool.and_self, cond_true]
end HN
theorem ret_i {M : MD} {t : Nat × Nat × Nat × Nat} {v : Int32} (h : md_r M = some .int) : retS M (.ireturn, 1, t) [.int v] = some (some (.int v)) := by
  show (match md_r M with
    | some ty => if narrow ty (Value.int v) = Value.int v then some (some (Value.int v)) else none
    | none => none) = _
  rw [h]
  exact if_pos rfl
theorem len_at {w : List AE} (hw : wok EC w) : ∃ L : Int32, fa w 2 1 = some (.int L) ∧ 0 ≤ L.toInt ∧ L.toInt ≤ 2000 := by
  obtain ⟨t1, t6, t7, t8, hT, b1, -⟩ := sh_tp hw
  exact ⟨t1, by unfold fa; rw [hT]; rfl, b1.1, b1.2⟩
set_option maxRecDepth 100000 in
theorem feed_run {w : List AE} {L : Int32} (hw : wok EC w) (hJ : JC w) (hL : fa w 2 1 = some (.int L)) (a b c d e : Int32) : MEx 3 145 [.ref 0, .int a, .int b, .int c, .int d, .int e] w (fun r w' => wok EC w' ∧ JC w' ∧ agr EC (mdF [(3, 1), (4, 1000)]) w w' ∧ ∃ x L' : Int32, r = some (.int x) ∧ fa w' 2 1 = some (.int L') ∧ (L.toInt ≤ 1980 → x.toInt = L.toInt + 20 ∧ L'.toInt = L.toInt + 20) ∧ (1980 < L.toInt → x.toInt = -1 ∧ L'.toInt = L.toInt)) := by
  obtain ⟨L0, hL0, l0, l1⟩ := len_at hw
  rw [hL] at hL0
  cases hL0
  obtain ⟨k1, k2, k3, hX, -⟩ := sh_x hw
  obtain ⟨x3, k4, x5, x6, x7, x8, x9, y10, x11, hR, -⟩ := sh_rd hw
  obtain ⟨t1, t6, t7, t8, hT, -⟩ := sh_tp hw
  refine mex_of (Nat.le_of_ble_eq_true rfl) ?_
  refine ex_u rfl rfl ?_
  refine ex_gf rfl rfl hX rfl ?_
  refine ex_gf rfl rfl hR rfl ?_
  refine ex_u rfl rfl ?_
  refine ex_u rfl rfl ?_
  refine ex_u (st' := [.int 20, .ref 2]) rfl rfl ?_
  by_cases h : L.toInt ≤ 1980
  · refine ex_c1 rfl rfl rfl (by decide +kernel) hT rfl rfl (mex_up (d' := 2) (by decide) (room_run hw hJ hL l0 h room_yes)) (fun r w1 q => ⟨q.2.2.2.1, ?_⟩)
    obtain ⟨⟨x, rfl, hx⟩, q11, q12, q13⟩ := q
    have hx1 : x = 1 := Int32.toInt_inj.mp hx
    subst hx1
    have hL1 : fa w1 2 1 = some (.int L) := by rw [q13.2.1 2 1 rfl]; exact hL
    refine ex_if rfl (by decide) (fun _ => ?_) (fun hf => absurd hf (by decide))
    refine ex_u rfl rfl ?_
    refine ex_u rfl rfl ?_
    obtain ⟨aa1, aa6, aa7, aa8, hT2, -⟩ := sh_tp q11
    refine ex_c1 rfl rfl rfl (by decide +kernel) hT2 rfl rfl (add_run q11 q12 hL1 (by omega) (by omega)) (fun r w2 q => ⟨q.2.2.2.1.1, ?_⟩)
    obtain ⟨rfl, q21, q22, q23, L2, hL2, e2⟩ := q
    refine ex_u rfl rfl ?_
    refine ex_u rfl rfl ?_
    obtain ⟨bb1, bb6, bb7, bb8, hT3, -⟩ := sh_tp q21
    refine ex_c1 rfl rfl rfl (by decide +kernel) hT3 rfl rfl (add_run q21 q22 hL2 (by omega) (by omega)) (fun r w3 q => ⟨q.2.2.2.1.1, ?_⟩)
    obtain ⟨rfl, q31, q32, q33, L3, hL3, e3⟩ := q
    refine ex_u rfl rfl ?_
    refine ex_u rfl rfl ?_
    obtain ⟨cc1, cc6, cc7, cc8, hT4, -⟩ := sh_tp q31
    refine ex_c1 rfl rfl rfl (by decide +kernel) hT4 rfl rfl (add_run q31 q32 hL3 (by omega) (by omega)) (fun r w4 q => ⟨q.2.2.2.1.1, ?_⟩)
    obtain ⟨rfl, q41, q42, q43, L4, hL4, e4⟩ := q
    refine ex_u rfl rfl ?_
    refine ex_u rfl rfl ?_
    obtain ⟨dd1, dd6, dd7, dd8, hT5, -⟩ := sh_tp q41
    refine ex_c1 rfl rfl rfl (by decide +kernel) hT5 rfl rfl (add_run q41 q42 hL4 (by omega) (by omega)) (fun r w5 q => ⟨q.2.2.2.1.1, ?_⟩)
    obtain ⟨rfl, q51, q52, q53, L5, hL5, e5⟩ := q
    refine ex_u rfl rfl ?_
    refine ex_u rfl rfl ?_
    obtain ⟨ee1, ee6, ee7, ee8, hT6, -⟩ := sh_tp q51
    refine ex_c1 rfl rfl rfl (by decide +kernel) hT6 rfl rfl (add_run q51 q52 hL5 (by omega) (by omega)) (fun r w6 q => ⟨q.2.2.2.1.1, ?_⟩)
    obtain ⟨rfl, q61, q62, q63, L6, hL6, e6⟩ := q
    refine ex_u rfl rfl ?_
    obtain ⟨z1, z6, z7, z8, hT7, -⟩ := sh_tp q61
    have hz : fa w6 2 1 = some (.int z1) := by unfold fa; rw [hT7]; rfl
    rw [hL6] at hz
    cases hz
    refine ex_gf rfl rfl hT7 rfl ?_
    have hag := (agr.le (md' := mdF [(3, 1), (4, 1000)]) (fun t j z => by cases z) q13).tr (q23.tr (q33.tr (q43.tr (q53.tr q63))))
    exact ex_ret (r := some (.int L6)) rfl rfl (ret_i (v := L6) rfl) ⟨q61, q62, hag, L6, L6, rfl, hL6, fun _ => ⟨by omega, by omega⟩, fun h9 => by omega⟩
  · refine ex_c1 rfl rfl rfl (by decide +kernel) hT rfl rfl (mex_up (d' := 2) (by decide) (room_run hw hJ hL (lo := 1981) (by omega) l1 room_no)) (fun r w1 q => ⟨q.2.2.2.1, ?_⟩)
    obtain ⟨⟨x, rfl, hx⟩, q11, q12, q13⟩ := q
    have hx1 : x = 0 := Int32.toInt_inj.mp hx
    subst hx1
    have hL1 : fa w1 2 1 = some (.int L) := by rw [q13.2.1 2 1 rfl]; exact hL
    refine ex_if rfl (by decide) (fun hf => absurd hf (by decide)) (fun _ => ?_)
    refine ex_u (st' := [.int (-1)]) rfl rfl ?_
    exact ex_ret (r := some (.int (-1))) rfl rfl rfl ⟨q11, q12, agr.le (fun t j z => by cases z) q13, -1, L, rfl, hL1, fun h9 => absurd h9 h, fun _ => ⟨rfl, rfl⟩⟩
theorem jc_set2 {w : List AE} {e : AE} (h : JC w) : JC (w.set 2 e) := by
  refine ⟨fun j y a b => ?_, fun i y a b c => ?_⟩
  · unfold ea at a
    unfold la at b
    rw [st_ne (by decide)] at a b
    exact h.1 j y a b
  · unfold fa at a b
    unfold la at c
    rw [st_ne (by decide)] at a b c
    exact h.2 i y a b c
set_option maxRecDepth 100000 in
theorem back_run {w : List AE} {L : Int32} (hw : wok EC w) (hJ : JC w) (hL : fa w 2 1 = some (.int L)) (n : Int32) : MEx 1 146 [.ref 0, .int n] w (fun r w' => wok EC w' ∧ JC w' ∧ agr EC (mdF [(3, 1)]) w w' ∧ ∃ x L' : Int32, r = some (.int x) ∧ fa w' 2 1 = some (.int L') ∧ (0 ≤ n.toInt → n.toInt ≤ L.toInt → x.toInt = L.toInt - n.toInt ∧ L'.toInt = L.toInt - n.toInt) ∧ (n.toInt < 0 ∨ L.toInt < n.toInt → x.toInt = -1 ∧ L'.toInt = L.toInt)) := by
  obtain ⟨L0, hL0, l0, l1⟩ := len_at hw
  rw [hL] at hL0
  cases hL0
  obtain ⟨k1, k2, k3, hX, -⟩ := sh_x hw
  obtain ⟨x3, k4, x5, x6, x7, x8, x9, y10, x11, hR, -⟩ := sh_rd hw
  obtain ⟨t1, t6, t7, t8, hT, -⟩ := sh_tp hw
  have ht : fa w 2 1 = some (.int t1) := by unfold fa; rw [hT]; rfl
  rw [hL] at ht
  cases ht
  have hl : 2 < w.length := (List.getElem?_eq_some_iff.mp hT).1
  have hz : (0 : Int32).toInt = 0 := rfl
  refine mex_of (Nat.le_of_ble_eq_true rfl) ?_
  refine ex_u rfl rfl ?_
  refine ex_gf rfl rfl hX rfl ?_
  refine ex_gf rfl rfl hR rfl ?_
  refine ex_u rfl rfl ?_
  refine ex_u rfl rfl ?_
  have hno : n.toInt < 0 ∨ L.toInt < n.toInt → Ex 0 (mdOf 146) 20 [(2, .ref 2), (0, .ref 0), (1, .int n)] [] w (fun r w' => wok EC w' ∧ JC w' ∧ agr EC (mdF [(3, 1)]) w w' ∧ ∃ x L' : Int32, r = some (.int x) ∧ fa w' 2 1 = some (.int L') ∧ (0 ≤ n.toInt → n.toInt ≤ L.toInt → x.toInt = L.toInt - n.toInt ∧ L'.toInt = L.toInt - n.toInt) ∧ (n.toInt < 0 ∨ L.toInt < n.toInt → x.toInt = -1 ∧ L'.toInt = L.toInt)) := fun hb => by
    refine ex_u (st' := [.int (-1)]) rfl rfl ?_
    exact ex_ret (r := some (.int (-1))) rfl rfl rfl ⟨hw, hJ, agr.rf w, -1, L, rfl, hL, fun h8 h9 => by omega, fun _ => ⟨rfl, rfl⟩⟩
  refine ex_if rfl (by decide) (fun h1 => hno (Or.inl (by have := lt_of h1; omega))) (fun h1 => ?_)
  have h1 : 0 ≤ n.toInt := by
    have h9 : decide (n < 0) = false := h1
    have h8 := Int32.le_iff_toInt_le.mp (Int32.not_lt.mp (of_decide_eq_false h9))
    omega
  refine ex_u rfl rfl ?_
  refine ex_u rfl rfl ?_
  refine ex_gf rfl rfl hT rfl ?_
  refine ex_ic rfl (by decide) (fun h2 => ?_) (fun h2 => hno (Or.inr (by
    have h9 : decide (n ≤ L) = false := h2
    exact Int32.lt_iff_toInt_lt.mp (Int32.not_le.mp (of_decide_eq_false h9)))))
  have h2 : n.toInt ≤ L.toInt := Int32.le_iff_toInt_le.mp (of_decide_eq_true h2)
  have hs : (L - n).toInt = L.toInt - n.toInt := by
    rw [Int32.toInt_sub]
    exact bm32 (by omega) (by omega)
  refine ex_u rfl rfl ?_
  refine ex_u rfl rfl ?_
  refine ex_gf rfl rfl hT rfl ?_
  refine ex_u rfl rfl ?_
  refine ex_u rfl rfl ?_
  have hag : agr EC (mdF [(3, 1)]) w (w.set 2 (OB 7 ([.ref 3, .int L, .ref 4, .ref 5, .ref 6, .ref 7, .int t6, .int t7, .long t8].set 1 (.int (L - n))))) := ⟨List.length_set, fun c j hm => put_fa hT c j (fun e => by
    rw [e.1, e.2] at hm
    exact absurd hm (by decide)), fun c _ _ => put_ra hT c, fun c j _ _ => put_ea hT c j⟩
  have hw2 : wok EC (w.set 2 (OB 7 ([.ref 3, .int L, .ref 4, .ref 5, .ref 6, .ref 7, .int t6, .int t7, .long t8].set 1 (.int (L - n))))) := wok_put (t := 3) hw rfl (by decide) rfl hT ⟨L - n, rfl, by omega, by omega⟩
  rw [← st_same hT]
  refine ex_ps rfl hl rfl (pf_int (by decide +kernel)) ?_
  refine ex_u rfl rfl ?_
  refine ex_gs rfl rfl hl rfl ?_
  rw [st_same hT]
  exact ex_ret (r := some (.int (L - n))) rfl rfl (ret_i (v := L - n) rfl) ⟨hw2, jc_set2 hJ, hag, L - n, L - n, rfl, (by unfold fa; rw [st_self hl]; rfl), fun _ _ => ⟨hs, hs⟩, fun hb => by omega⟩
