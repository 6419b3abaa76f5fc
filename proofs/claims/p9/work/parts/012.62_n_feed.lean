section
/-! feed and back of the class, exactly -/
def retsB (o : Option (List RET)) (f : RET → Bool) : Bool := match o with
  | some l => l.all f
  | none => false
theorem retsB_ok {o : Option (List RET)} {f : RET → Bool} (h : retsB o f = true) : ∃ l, o = some l ∧ ∀ p ∈ l, f p = true := by
  match o, h with
  | some l, h => exact ⟨l, rfl, fun p hp => List.all_eq_true.mp h p hp⟩
theorem noX {J : List AE → Prop} : ∀ b, ∀ c ∈ (mkX [] []).1 b, Sat EC J 0 b c := fun b c hc => by cases hc
def add4B (p : RET) : Bool := p.1.isNone && (match alg p.2.2.2.2.2.1 1 with
  | some (.inr (.inl s)) => Nat.beq s.1 0 && decide (s.2 = 4)
  | _ => false)
theorem gcs1 {L : Int32} {lo hi : Int} (h0 : lo ≤ L.toInt) (h1 : L.toInt ≤ hi) : gcs [L.toInt] [(0, (lo, hi, false, none))] 1 := by
  refine ⟨rfl, fun k e hk => ?_⟩
  have hm := csg_mem hk
  have hm := List.mem_singleton.mp hm
  cases hm
  exact ⟨L.toInt, rfl, h0, h1, fun q => (by cases q), fun b q => (by cases q)⟩
theorem len_fact {w : List AE} {L : Int32} (hL : fa w 2 1 = some (.int L)) : gfs EC 2 [L.toInt] [(1, vS 0 0)] w := fun q hq => by
  have hq := List.mem_singleton.mp hq
  subst hq
  exact ⟨.int L, hL, L, L.toInt, rfl, rfl, by show L.toInt = L.toInt + 0; omega⟩
theorem add_run {w : List AE} {L a : Int32} (hw : wok EC w) (hJ : JC w) (hL : fa w 2 1 = some (.int L)) (h0 : 0 ≤ L.toInt) (h1 : L.toInt ≤ 1996) : MEx 2 98 [.ref 2, .int a] w (fun r w' => r = none ∧ wok EC w' ∧ JC w' ∧ agr EC (mdF [(3, 1), (4, 1000)]) w w' ∧ ∃ L' : Int32, fa w' 2 1 = some (.int L') ∧ L'.toInt = L.toInt + 4) := by
  obtain ⟨rets, e1, e2⟩ := retsB_ok (o := exM EC (mkX [] []) 400 2 98 3 [(3, 1), (4, 1000)] [(3, 1), (4, 1000)] [(0, (0, 1996, false, none))] 1 [vX 0, top32] ([(1, vS 0 0)], [])) (f := add4B) (by decide +kernel)
  refine mex_post (exM_ok (J := JC) noX 400 2 98 3 _ _ _ 1 _ _ rets e1 (js_of rfl) (fun _ _ h => h) 2 [L.toInt] [.ref 2, .int a] w rfl (by decide) hw hJ (gcs1 h0 h1) ⟨rfl, gv_top a, trivial⟩ (len_fact hL) (fun q hq => by cases hq)) (fun r w' q => ?_)
  obtain ⟨q1, q2, q3, p, p1, t, p2, p3, p4, p5⟩ := q
  have hp := e2 p p1
  unfold add4B at hp
  simp only [Bool.and_eq_true] at hp
  obtain ⟨hp1, hp2⟩ := hp
  have hn : p.1 = none := by simpa using hp1
  rw [hn] at p2
  refine ⟨gvo_n p2, q1, q2, q3, ?_⟩
  split at hp2
  · rename_i s hs
    simp only [Bool.and_eq_true, decide_eq_true_eq] at hp2
    obtain ⟨v, v1, v2⟩ := p4 _ (alg_mem hs)
    obtain ⟨x, zz, x1, x2, x3⟩ := v2
    subst x1
    rw [Nat.eq_of_beq_eq_true hp2.1] at x2
    have x2 : some L.toInt = some zz := x2
    cases x2
    exact ⟨x, v1, by rw [x3, hp2.2]⟩
  · cases hp2
def resIB (c : Int) (p : RET) : Bool := match p.1 with
  | some (.inl q) => decide (q.1 = c) && decide (q.2 = c)
  | _ => false
theorem resIB_ok {c : Int} {p : RET} {th : Nat} {ρ : List Int} {r : Option Value} (h : resIB c p = true) (hg : gvo EC th ρ p.1 r) : ∃ x : Int32, r = some (.int x) ∧ x.toInt = c := by
  unfold resIB at h
  split at h
  · rename_i q hq
    simp only [Bool.and_eq_true, decide_eq_true_eq] at h
    rw [hq] at hg
    match r, hg with
    | some v, hg =>
      obtain ⟨x, e, x1, x2⟩ := hg
      subst e
      exact ⟨x, rfl, by omega⟩
  · cases h
theorem room_run {w : List AE} {L : Int32} {lo hi c : Int} (hw : wok EC w) (hJ : JC w) (hL : fa w 2 1 = some (.int L)) (h0 : lo ≤ L.toInt) (h1 : L.toInt ≤ hi) (hc : retsB (exM EC (mkX [] []) 400 1 97 3 [] [] [(0, (lo, hi, false, none))] 1 [vX 0, vI 20 20] ([(1, vS 0 0)], [])) (resIB c) = true) : MEx 1 97 [.ref 2, .int 20] w (fun r w' => (∃ x : Int32, r = some (.int x) ∧ x.toInt = c) ∧ wok EC w' ∧ JC w' ∧ agr EC (mdF []) w w') := by
  obtain ⟨rets, e1, e2⟩ := retsB_ok hc
  refine mex_post (exM_ok (J := JC) noX 400 1 97 3 _ _ _ 1 _ _ rets e1 (js_of rfl) (fun _ _ h => h) 2 [L.toInt] [.ref 2, .int 20] w rfl (by decide) hw hJ (gcs1 h0 h1) ⟨rfl, ⟨20, rfl, by decide, by decide⟩, trivial⟩ (len_fact hL) (fun q hq => by cases hq)) (fun r w' q => ?_)
  obtain ⟨q1, q2, q3, p, p1, t, p2, -⟩ := q
  exact ⟨resIB_ok (e2 p p1) p2, q1, q2, q3⟩
theorem room_yes : retsB (exM EC (mkX [] []) 400 1 97 3 [] [] [(0, (0, 1980, false, none))] 1 [vX 0, vI 20 20] ([(1, vS 0 0)], [])) (resIB 1) = true := by decide +kernel
theorem room_no : retsB (exM EC (mkX [] []) 400 1 97 3 [] [] [(0, (1981, 2000, false, none))] 1 [vX 0, vI 20 20] ([(1, vS 0 0)], [])) (resIB 0) = true := by decide +kernel
section HN
variable {d pc o ci sl k idx ps : Nat} {M : MD} {lv : List (Nat × Value)} {w : List AE} {P P' : Option Value → List AE → Prop} {fl r rest : List Value} {v u : Value}
theorem ex_c1 {b0 s0 p0 : Nat} (hi : md_i M pc = some (.invokevirtual idx, 3, k, b0, s0, p0)) (hn : (md_p (mdOf b0)).getD 5 0 = 1) (hs : Nat.beq ((md_p (mdOf b0)).getD 4 0) 1 = false) (hin : decide ((md_y (mdOf b0)).name = "<init>") = false) (h1 : w[o]? = some (OB ci fl)) (hci : (Nat.beq ci (md_k (mdOf b0)) && Nat.blt ci 13) = true) (hr : Nat.ble (rest.map fun v => v.category).sum 8 = true) (hc : MEx d b0 [.ref o, v] w P') (hk : ∀ r w', P' r w' → w'.length = w.length ∧ Ex d M (pc + 3) lv (r.toList ++ rest) w' P) : Ex d M pc lv (v :: .ref o :: rest) w P := by
  refine ex_call (q := (b0, [.ref o, v], rest)) hi rfl retS_v ?_ hc hk
  have hrc : rcB (mdOf b0) w o = true := by
    unfold rcB
    rw [h1]
    exact hci
  unfold callP
  simp only [hn, List.drop_succ_cons, List.drop_zero, List.take_succ_cons, List.take_zero, List.reverse_cons, List.reverse_nil, List.nil_append, hs, hin, hrc, hr, Bool.not_false, Bool.and_self, cond_true]
end HN
theorem ret_i {M : MD} {t : Nat × Nat × Nat × Nat} {v : Int32} (h : md_r M = some .int) : retS M (.ireturn, 1, t) [.int v] = some (some (.int v)) := by
  show (match md_r M with
    | some ty => if narrow ty (Value.int v) = Value.int v then some (some (Value.int v)) else none
    | none => none) = _
  rw [h]
  exact if_pos rfl
theorem len_at {w : List AE} (hw : wok EC w) : ∃ L : Int32, fa w 2 1 = some (.int L) ∧ 0 ≤ L.toInt ∧ L.toInt ≤ 2000 := by
  obtain ⟨t1, t6, t7, t8, hT, b1, -⟩ := sh_tp hw
  exact ⟨t1, by unfold fa; rw [hT]; rfl, b1.1, b1.2⟩
set_option maxRecDepth 100000 in
theorem feed_run {w : List AE} {L : Int32} (hw : wok EC w) (hJ : JC w) (hL : fa w 2 1 = some (.int L)) (a b c d e : Int32) : MEx 3 145 [.ref 0, .int a, .int b, .int c, .int d, .int e] w (fun r w' => wok EC w' ∧ JC w' ∧ agr EC (mdF [(3, 1), (4, 1000)]) w w' ∧ ∃ x L' : Int32, r = some (.int x) ∧ fa w' 2 1 = some (.int L') ∧ (L.toInt ≤ 1980 → x.toInt = L.toInt + 20 ∧ L'.toInt = L.toInt + 20) ∧ (1980 < L.toInt → x.toInt = -1 ∧ L'.toInt = L.toInt)) := by
  obtain ⟨L0, hL0, l0, l1⟩ := len_at hw
  rw [hL] at hL0
  cases hL0
  obtain ⟨k1, k2, k3, hX, -⟩ := sh_x hw
  obtain ⟨x3, k4, x5, x6, x7, x8, x9, y10, x11, hR, -⟩ := sh_rd hw
  obtain ⟨t1, t6, t7, t8, hT, -⟩ := sh_tp hw
  refine mex_of (Nat.le_of_ble_eq_true rfl) ?_
  refine ex_u rfl rfl ?_
  refine ex_gf rfl rfl hX rfl ?_
  refine ex_gf rfl rfl hR rfl ?_
  refine ex_u rfl rfl ?_
  refine ex_u rfl rfl ?_
  refine ex_u (st' := [.int 20, .ref 2]) rfl rfl ?_
  by_cases h : L.toInt ≤ 1980
  · refine ex_c1 rfl rfl rfl (by decide +kernel) hT rfl rfl (mex_up (d' := 2) (by decide) (room_run hw hJ hL l0 h room_yes)) (fun r w1 q => ⟨q.2.2.2.1, ?_⟩)
    obtain ⟨⟨x, rfl, hx⟩, q11, q12, q13⟩ := q
    have hx1 : x = 1 := Int32.toInt_inj.mp hx
    subst hx1
    have hL1 : fa w1 2 1 = some (.int L) := by rw [q13.2.1 2 1 rfl]; exact hL
    refine ex_if rfl (by decide) (fun _ => ?_) (fun hf => absurd hf (by decide))
    refine ex_u rfl rfl ?_
    refine ex_u rfl rfl ?_
    obtain ⟨aa1, aa6, aa7, aa8, hT2, -⟩ := sh_tp q11
    refine ex_c1 rfl rfl rfl (by decide +kernel) hT2 rfl rfl (add_run q11 q12 hL1 (by omega) (by omega)) (fun r w2 q => ⟨q.2.2.2.1.1, ?_⟩)
    obtain ⟨rfl, q21, q22, q23, L2, hL2, e2⟩ := q
    refine ex_u rfl rfl ?_
    refine ex_u rfl rfl ?_
    obtain ⟨bb1, bb6, bb7, bb8, hT3, -⟩ := sh_tp q21
    refine ex_c1 rfl rfl rfl (by decide +kernel) hT3 rfl rfl (add_run q21 q22 hL2 (by omega) (by omega)) (fun r w3 q => ⟨q.2.2.2.1.1, ?_⟩)
    obtain ⟨rfl, q31, q32, q33, L3, hL3, e3⟩ := q
    refine ex_u rfl rfl ?_
    refine ex_u rfl rfl ?_
    obtain ⟨cc1, cc6, cc7, cc8, hT4, -⟩ := sh_tp q31
    refine ex_c1 rfl rfl rfl (by decide +kernel) hT4 rfl rfl (add_run q31 q32 hL3 (by omega) (by omega)) (fun r w4 q => ⟨q.2.2.2.1.1, ?_⟩)
    obtain ⟨rfl, q41, q42, q43, L4, hL4, e4⟩ := q
    refine ex_u rfl rfl ?_
    refine ex_u rfl rfl ?_
    obtain ⟨dd1, dd6, dd7, dd8, hT5, -⟩ := sh_tp q41
    refine ex_c1 rfl rfl rfl (by decide +kernel) hT5 rfl rfl (add_run q41 q42 hL4 (by omega) (by omega)) (fun r w5 q => ⟨q.2.2.2.1.1, ?_⟩)
    obtain ⟨rfl, q51, q52, q53, L5, hL5, e5⟩ := q
    refine ex_u rfl rfl ?_
    refine ex_u rfl rfl ?_
    obtain ⟨ee1, ee6, ee7, ee8, hT6, -⟩ := sh_tp q51
    refine ex_c1 rfl rfl rfl (by decide +kernel) hT6 rfl rfl (add_run q51 q52 hL5 (by omega) (by omega)) (fun r w6 q => ⟨q.2.2.2.1.1, ?_⟩)
    obtain ⟨rfl, q61, q62, q63, L6, hL6, e6⟩ := q
    refine ex_u rfl rfl ?_
    obtain ⟨z1, z6, z7, z8, hT7, -⟩ := sh_tp q61
    have hz : fa w6 2 1 = some (.int z1) := by unfold fa; rw [hT7]; rfl
    rw [hL6] at hz
    cases hz
    refine ex_gf rfl rfl hT7 rfl ?_
    have hag := (agr.le (md' := mdF [(3, 1), (4, 1000)]) (fun t j z => by cases z) q13).tr (q23.tr (q33.tr (q43.tr (q53.tr q63))))
    exact ex_ret (r := some (.int L6)) rfl rfl (ret_i (v := L6) rfl) ⟨q61, q62, hag, L6, L6, rfl, hL6, fun _ => ⟨by omega, by omega⟩, fun h9 => by omega⟩
  · refine ex_c1 rfl rfl rfl (by decide +kernel) hT rfl rfl (mex_up (d' := 2) (by decide) (room_run hw hJ hL (lo := 1981) (by omega) l1 room_no)) (fun r w1 q => ⟨q.2.2.2.1, ?_⟩)
    obtain ⟨⟨x, rfl, hx⟩, q11, q12, q13⟩ := q
    have hx1 : x = 0 := Int32.toInt_inj.mp hx
    subst hx1
    have hL1 : fa w1 2 1 = some (.int L) := by rw [q13.2.1 2 1 rfl]; exact hL
    refine ex_if rfl (by decide) (fun hf => absurd hf (by decide)) (fun _ => ?_)
    refine ex_u (st' := [.int (-1)]) rfl rfl ?_
    exact ex_ret (r := some (.int (-1))) rfl rfl rfl ⟨q11, q12, agr.le (fun t j z => by cases z) q13, -1, L, rfl, hL1, fun h9 => absurd h9 h, fun _ => ⟨rfl, rfl⟩⟩
theorem jc_set2 {w : List AE} {e : AE} (h : JC w) : JC (w.set 2 e) := by
  refine ⟨fun j y a b => ?_, fun i y a b c => ?_⟩
  · unfold ea at a
    unfold la at b
    rw [st_ne (by decide)] at a b
    exact h.1 j y a b
  · unfold fa at a b
    unfold la at c
    rw [st_ne (by decide)] at a b c
    exact h.2 i y a b c
set_option maxRecDepth 100000 in
theorem back_run {w : List AE} {L : Int32} (hw : wok EC w) (hJ : JC w) (hL : fa w 2 1 = some (.int L)) (n : Int32) : MEx 1 146 [.ref 0, .int n] w (fun r w' => wok EC w' ∧ JC w' ∧ agr EC (mdF [(3, 1)]) w w' ∧ ∃ x L' : Int32, r = some (.int x) ∧ fa w' 2 1 = some (.int L') ∧ (0 ≤ n.toInt → n.toInt ≤ L.toInt → x.toInt = L.toInt - n.toInt ∧ L'.toInt = L.toInt - n.toInt) ∧ (n.toInt < 0 ∨ L.toInt < n.toInt → x.toInt = -1 ∧ L'.toInt = L.toInt)) := by
  obtain ⟨L0, hL0, l0, l1⟩ := len_at hw
  rw [hL] at hL0
  cases hL0
  obtain ⟨k1, k2, k3, hX, -⟩ := sh_x hw
  obtain ⟨x3, k4, x5, x6, x7, x8, x9, y10, x11, hR, -⟩ := sh_rd hw
  obtain ⟨t1, t6, t7, t8, hT, -⟩ := sh_tp hw
  have ht : fa w 2 1 = some (.int t1) := by unfold fa; rw [hT]; rfl
  rw [hL] at ht
  cases ht
  have hl : 2 < w.length := (List.getElem?_eq_some_iff.mp hT).1
  have hz : (0 : Int32).toInt = 0 := rfl
  refine mex_of (Nat.le_of_ble_eq_true rfl) ?_
  refine ex_u rfl rfl ?_
  refine ex_gf rfl rfl hX rfl ?_
  refine ex_gf rfl rfl hR rfl ?_
  refine ex_u rfl rfl ?_
  refine ex_u rfl rfl ?_
  have hno : n.toInt < 0 ∨ L.toInt < n.toInt → Ex 0 (mdOf 146) 20 [(2, .ref 2), (0, .ref 0), (1, .int n)] [] w (fun r w' => wok EC w' ∧ JC w' ∧ agr EC (mdF [(3, 1)]) w w' ∧ ∃ x L' : Int32, r = some (.int x) ∧ fa w' 2 1 = some (.int L') ∧ (0 ≤ n.toInt → n.toInt ≤ L.toInt → x.toInt = L.toInt - n.toInt ∧ L'.toInt = L.toInt - n.toInt) ∧ (n.toInt < 0 ∨ L.toInt < n.toInt → x.toInt = -1 ∧ L'.toInt = L.toInt)) := fun hb => by
    refine ex_u (st' := [.int (-1)]) rfl rfl ?_
    exact ex_ret (r := some (.int (-1))) rfl rfl rfl ⟨hw, hJ, agr.rf w, -1, L, rfl, hL, fun h8 h9 => by omega, fun _ => ⟨rfl, rfl⟩⟩
  refine ex_if rfl (by decide) (fun h1 => hno (Or.inl (by have := lt_of h1; omega))) (fun h1 => ?_)
  have h1 : 0 ≤ n.toInt := by
    have h9 : decide (n < 0) = false := h1
    have h8 := Int32.le_iff_toInt_le.mp (Int32.not_lt.mp (of_decide_eq_false h9))
    omega
  refine ex_u rfl rfl ?_
  refine ex_u rfl rfl ?_
  refine ex_gf rfl rfl hT rfl ?_
  refine ex_ic rfl (by decide) (fun h2 => ?_) (fun h2 => hno (Or.inr (by
    have h9 : decide (n ≤ L) = false := h2
    exact Int32.lt_iff_toInt_lt.mp (Int32.not_le.mp (of_decide_eq_false h9)))))
  have h2 : n.toInt ≤ L.toInt := Int32.le_iff_toInt_le.mp (of_decide_eq_true h2)
  have hs : (L - n).toInt = L.toInt - n.toInt := by
    rw [Int32.toInt_sub]
    exact bm32 (by omega) (by omega)
  refine ex_u rfl rfl ?_
  refine ex_u rfl rfl ?_
  refine ex_gf rfl rfl hT rfl ?_
  refine ex_u rfl rfl ?_
  refine ex_u rfl rfl ?_
  have hag : agr EC (mdF [(3, 1)]) w (w.set 2 (OB 7 ([.ref 3, .int L, .ref 4, .ref 5, .ref 6, .ref 7, .int t6, .int t7, .long t8].set 1 (.int (L - n))))) := ⟨List.length_set, fun c j hm => put_fa hT c j (fun e => by
    rw [e.1, e.2] at hm
    exact absurd hm (by decide)), fun c _ _ => put_ra hT c, fun c j _ _ => put_ea hT c j⟩
  have hw2 : wok EC (w.set 2 (OB 7 ([.ref 3, .int L, .ref 4, .ref 5, .ref 6, .ref 7, .int t6, .int t7, .long t8].set 1 (.int (L - n))))) := wok_put (t := 3) hw rfl (by decide) rfl hT ⟨L - n, rfl, by omega, by omega⟩
  rw [← st_same hT]
  refine ex_ps rfl hl rfl (pf_int (by decide +kernel)) ?_
  refine ex_u rfl rfl ?_
  refine ex_gs rfl rfl hl rfl ?_
  rw [st_same hT]
  exact ex_ret (r := some (.int (L - n))) rfl rfl (ret_i (v := L - n) rfl) ⟨hw2, jc_set2 hJ, hag, L - n, L - n, rfl, (by unfold fa; rw [st_self hl]; rfl), fun _ _ => ⟨hs, hs⟩, fun hb => by omega⟩
end
section
/-! what a contract doesn't write stays, in any words -/
theorem sat_fr {E : WE} {J F : List AE → Prop} {d b : Nat} {c : Ctr} (h : Sat E J d b c) (hF : ∀ w w', agr E (mdF c.2.2.2.1) w w' → F w → F w') : Sat E (fun w => J w ∧ F w) d b c := fun th av w a1 a2 a3 a4 a5 a6 a7 =>
  mex_post (h th av w a1 a2 a3 a4.1 a5 a6 a7) (fun r w' q => ⟨q.1, ⟨q.2.1, hF w w' q.2.2.1 a4.2⟩, q.2.2.1, q.2.2.2⟩)
/-- the tape's length -/
def LenC (L : Int32) (w : List AE) : Prop := fa w 2 1 = some (.int L)
theorem len_fr {L : Int32} {m : MDs} (hm : mdF m 3 1 = false) (w w' : List AE) (h : agr EC (mdF m) w w') (hL : LenC L w) : LenC L w' := by
  show fa w' 2 1 = _
  rw [h.2.1 2 1 hm]
  exact hL
set_option maxRecDepth 100000 in
/- start leaves the tape empty -/
theorem start_len {w : List AE} (hw : wok EC w) (hJ : JC w) : MEx 10 53 [.ref 1] w (fun _ w' => LenC 0 w') := by
  obtain ⟨x3, k4, x5, x6, x7, x8, x9, y10, x11, hR, -, hk4, -⟩ := sh_rd hw
  refine mex_of (Nat.le_of_ble_eq_true rfl) ?_
  refine ex_u rfl rfl ?_
  refine ex_gf rfl rfl hR rfl ?_
  obtain ⟨eH, hH, oH⟩ := hw.2 k4 (by show ctyC k4 ≠ 0; rw [hk4]; decide)
  have oH : okE EC k4 (dclC (ctyC k4)) eH := oH
  rw [hk4] at oH
  obtain ⟨hfl, rfl, -, -⟩ := oH
  refine ex_c0 (P' := CPost EC K1 k4 w c_X0_clear) rfl rfl rfl (by decide +kernel) hH rfl rfl (sat_up (d' := 9) (by decide) (s_X0_clear k1_o) k4 [.ref k4] w hk4 (by decide) hw (jc_k1 hJ) ⟨rfl, trivial⟩ nof noe) (fun r w1 q => ⟨q.2.2.1.1, ?_⟩)
  obtain ⟨q1, q2, q3, o, o1, o2, -⟩ := q
  have o1 := List.mem_singleton.mp o1
  subst o1
  have o2 := gvo_n o2
  subst o2
  obtain ⟨x3, k4, x5, x6, x7, x8, x9, y10, x11, hR1, b1, b2, -⟩ := sh_rd q1
  have hl : 1 < w1.length := (List.getElem?_eq_some_iff.mp hR1).1
  rw [← st_same hR1] at q1 ⊢
  refine ex_u rfl rfl ?_
  refine ex_u rfl rfl ?_
  refine ex_ps rfl hl rfl (pf_int (by decide +kernel)) ?_
  have v1 := wok_ps (u := .null) (sl := 3) (v := .int 0) hl q1 (t := 2) rfl (by decide) rfl ⟨0, rfl, by decide, by decide⟩
  refine ex_u rfl rfl ?_
  refine ex_u rfl rfl ?_
  refine ex_ps rfl hl rfl (pf_int (by decide +kernel)) ?_
  have v2 := wok_ps (u := .null) (sl := 5) (v := .int 0) hl v1 (t := 2) rfl (by decide) rfl dt_int
  refine ex_u rfl rfl ?_
  refine ex_u rfl rfl ?_
  refine ex_ps rfl hl rfl (pf_int (by decide +kernel)) ?_
  have v3 := wok_ps (u := .null) (sl := 6) (v := .int (-1)) hl v2 (t := 2) rfl (by decide) rfl dt_int
  have hK3 := k1_set (o := 1) (e := OB 5 [.ref 2, .ref 8, .ref 9, .int 0, .ref k4, .int 0, .int (-1), .int x7, .int x8, .int x9, .long y10, .int x11]) (by decide) (by decide) q2
  have v3 : wok EC (w1.set 1 (OB 5 [.ref 2, .ref 8, .ref 9, .int 0, .ref k4, .int 0, .int (-1), .int x7, .int x8, .int x9, .long y10, .int x11])) := v3
  refine ex_u rfl rfl ?_
  refine ex_gs rfl rfl hl rfl ?_
  show Ex 9 (mdOf 53) 26 _ [.ref 2] (w1.set 1 (OB 5 [.ref 2, .ref 8, .ref 9, .int 0, .ref k4, .int 0, .int (-1), .int x7, .int x8, .int x9, .long y10, .int x11])) _
  generalize (w1.set 1 (OB 5 [.ref 2, .ref 8, .ref 9, .int 0, .ref k4, .int 0, .int (-1), .int x7, .int x8, .int x9, .long y10, .int x11]) : List AE) = w2 at v3 hK3
  obtain ⟨s1, s6, s7, s8, hT2, -⟩ := sh_tp v3
  refine ex_c0 (P' := CPost EC K1 2 w2 c_X7_cut) rfl rfl rfl (by decide +kernel) hT2 rfl rfl (s_cut_K1 2 [.ref 2] w2 rfl (by decide) v3 hK3 ⟨rfl, trivial⟩ nof noe) (fun r w3 q => ⟨q.2.2.1.1, ?_⟩)
  obtain ⟨q1, q2, q3, o, o1, o2, -⟩ := q
  have o1 := List.mem_singleton.mp o1
  subst o1
  have o2 := gvo_n o2
  subst o2
  obtain ⟨x3, k4, x5, x6, x7, x8, x9, y10, x11, hR3, -⟩ := sh_rd q1
  obtain ⟨s1, s6, s7, s8, hT3, -⟩ := sh_tp q1
  obtain ⟨lK, hKr, nK, -⟩ := row_at (k := 5) q1 (t := ctyC 5) rfl (by decide) rfl
  obtain ⟨lP, hP, nP, -⟩ := row_at (k := 6) q1 (t := ctyC 6) rfl (by decide) rfl
  have hl2 : 2 < w3.length := (List.getElem?_eq_some_iff.mp hT3).1
  refine ex_u rfl rfl ?_
  refine ex_gf rfl rfl hR3 rfl ?_
  refine ex_u rfl rfl ?_
  rw [← st_same hT3]
  refine ex_ps rfl hl2 rfl (pf_int (by decide +kernel)) ?_
  have hR4 : (w3.set 2 (OB 7 [.ref 3, .int 0, .ref 4, .ref 5, .ref 6, .ref 7, .int s6, .int s7, .long s8]))[1]? = some (OB 5 [.ref 2, .ref 8, .ref 9, .int x3, .ref k4, .int x5, .int x6, .int x7, .int x8, .int x9, .long y10, .int x11]) := (st_ne (by decide)).trans hR3
  have hT4 : (w3.set 2 (OB 7 [.ref 3, .int 0, .ref 4, .ref 5, .ref 6, .ref 7, .int s6, .int s7, .long s8]))[2]? = some (OB 7 [.ref 3, .int 0, .ref 4, .ref 5, .ref 6, .ref 7, .int s6, .int s7, .long s8]) := st_self hl2
  have hK4 : (w3.set 2 (OB 7 [.ref 3, .int 0, .ref 4, .ref 5, .ref 6, .ref 7, .int s6, .int s7, .long s8]))[5]? = some (.inl (0, lK)) := (st_ne (by decide)).trans hKr
  have hP4 : (w3.set 2 (OB 7 [.ref 3, .int 0, .ref 4, .ref 5, .ref 6, .ref 7, .int s6, .int s7, .long s8]))[6]? = some (.inl (0, lP)) := (st_ne (by decide)).trans hP
  show Ex 9 (mdOf 53) 37 _ [] (w3.set 2 (OB 7 [.ref 3, .int 0, .ref 4, .ref 5, .ref 6, .ref 7, .int s6, .int s7, .long s8])) _
  generalize (w3.set 2 (OB 7 [.ref 3, .int 0, .ref 4, .ref 5, .ref 6, .ref 7, .int s6, .int s7, .long s8]) : List AE) = w4 at hR4 hT4 hK4 hP4
  have hl4 : 1 < w4.length := (List.getElem?_eq_some_iff.mp hR4).1
  have hT4' : ∀ fl, (w4.set 1 (OB 5 fl))[2]? = w4[2]? := fun fl => st_ne (by decide)
  have hK4' : ∀ fl, (w4.set 1 (OB 5 fl))[5]? = w4[5]? := fun fl => st_ne (by decide)
  have hP4' : ∀ fl, (w4.set 1 (OB 5 fl))[6]? = w4[6]? := fun fl => st_ne (by decide)
  rw [← st_same hR4]
  refine ex_u rfl rfl ?_
  refine ex_u rfl rfl ?_
  refine ex_ps rfl hl4 rfl (pf_int (by decide +kernel)) ?_
  refine ex_u rfl rfl ?_
  refine ex_u rfl rfl ?_
  refine ex_gs rfl rfl hl4 rfl ?_
  refine ex_gf rfl rfl ((hT4' _).trans hT4) rfl ?_
  refine ex_u rfl rfl ?_
  refine ex_il rfl ((hK4' _).trans hK4) (inR_of (by decide) (by rw [nK]; decide)) ?_
  refine ex_ps rfl hl4 rfl (pf_int (by decide +kernel)) ?_
  refine ex_u rfl rfl ?_
  refine ex_u rfl rfl ?_
  refine ex_gs rfl rfl hl4 rfl ?_
  refine ex_gf rfl rfl ((hT4' _).trans hT4) rfl ?_
  refine ex_u rfl rfl ?_
  refine ex_il rfl ((hP4' _).trans hP4) (inR_of (by decide) (by rw [nP]; decide)) ?_
  refine ex_ps rfl hl4 rfl (pf_int (by decide +kernel)) ?_
  refine ex_ret (r := none) rfl rfl rfl ?_
  show fa _ 2 1 = _
  unfold fa
  rw [hT4', hT4]
  rfl
end
section
/-! read leaves the tape empty -/
def J0 (w : List AE) : Prop := JC w ∧ LenC 0 w
theorem j0_s : JS EC J0 [(1, 1), (2, 4)] := fun w w' ha h => ⟨js_of rfl w w' ha h.1, len_fr rfl w w' ha h.2⟩
def lRd : List (Nat × List Ctr) := [(54, [c_X5_readTells]), (189, [c_X11_beginAnew])]
theorem as_rd : ASat EC J0 52 lRd := ⟨sat1 (sat_fr s_X5_readTells (len_fr (by decide +kernel))), sat1 (sat_fr (sat_up (by decide) s_X11_beginAnew) (len_fr (by decide +kernel))), trivial⟩
set_option maxRecDepth 100000 in
theorem read_len {w : List AE} (hw : wok EC w) (hJ : JC w) : MEx 54 147 [.ref 0] w (fun _ w' => LenC 0 w') := by
  obtain ⟨k1, k2, k3, hX, -⟩ := sh_x hw
  obtain ⟨x3, k4, x5, x6, x7, x8, x9, y10, x11, hR, -⟩ := sh_rd hw
  refine mex_of (Nat.le_of_ble_eq_true rfl) ?_
  refine ex_u rfl rfl ?_
  refine ex_gf rfl rfl hX rfl ?_
  refine ex_c0 (P' := fun r w' => CPost EC JC 1 w c_hand_X5_start_0 r w' ∧ LenC 0 w') rfl rfl rfl (by decide +kernel) hR rfl rfl (mex_up (d' := 53) (by decide) (mex_and (s_hand_X5_start_0 1 [.ref 1] w rfl (by decide) hw hJ ⟨rfl, trivial⟩ nof noe) (mex_up (by decide) (start_len hw hJ)))) (fun r w1 q => ⟨q.1.2.2.1.1, ?_⟩)
  obtain ⟨⟨q1, q2, q3, o, o1, o2, -⟩, q4⟩ := q
  have o1 := List.mem_singleton.mp o1
  subst o1
  have o2 := gvo_n o2
  subst o2
  obtain ⟨ex, e1⟩ : ∃ ex, exB EC (mkX lRd [(55, [(2, 4)])]) (exM EC (mkX lRd [(55, [(2, 4)])]) 300 1) 1 [(1, 1), (2, 4)] c_X11_read.2.2.2.1 (mdOf 147) (fun _ _ => false) 300 true 7 ([], 0, [(0, vX 0)], [], [], []) = some ex := Option.isSome_iff_exists.mp (by decide +kernel)
  refine exB_sound (J := J0) (th := 0) (d := 53) (exM_ok (d := 52) (mkX_ok as_rd) 300 1) (fun b c hc => sat_up (by decide) (mkX_ok as_rd b c hc)) j0_s (subM_ok (by decide +kernel)) rfl (by decide) 300 true 7 _ [] [(0, .ref 0)] [] w1 ex e1 ⟨⟨rfl, fun k e hk => by cases hk⟩, fun i a hi => ?_, trivial, fun q hq => (by cases hq), fun q hq => (by cases hq)⟩ q1 ⟨q2, q4⟩ (fun p hp t r w' a1 a2 a3 a4 a5 a6 a7 => a6.2) (fun p hp hs => by cases hs)
  have hm := List.mem_singleton.mp (alg_mem hi)
  cases hm
  exact ⟨.ref 0, rfl, rfl⟩
end
section
/-! a given world keeps its types: by computing -/
def gdB (E : WE) (c j : Nat) : AV → Value → Bool
  | .inl p, .int x => decide (p.1 ≤ x.toInt) && decide (x.toInt ≤ p.2)
  | .inr (.inr (.inr (.inl p))), .long x => decide (p.1 ≤ x.toInt) && decide (x.toInt ≤ p.2)
  | .inr (.inr (.inr (.inr (.inl t)))), .ref k => Nat.beq (E.1 k) t && !(Nat.beq t 0)
  | .inr (.inr (.inr (.inr (.inr (.inl t))))), .ref k => Nat.beq k (E.2.2 c j) && (Nat.beq (E.1 k) t && !(Nat.beq t 0))
  | _, _ => false
theorem gdB_ok {E : WE} {c j : Nat} : ∀ {a : AV} {v : Value}, gdB E c j a v = true → gd E c j a v := by
  intro a v h
  unfold gdB at h
  split at h
  · simp only [Bool.and_eq_true, decide_eq_true_eq] at h
    exact ⟨_, rfl, h⟩
  · simp only [Bool.and_eq_true, decide_eq_true_eq] at h
    exact ⟨_, rfl, h⟩
  · simp only [Bool.and_eq_true] at h
    exact ⟨_, rfl, Nat.eq_of_beq_eq_true h.1, nb h.2⟩
  · simp only [Bool.and_eq_true] at h
    have e := Nat.eq_of_beq_eq_true h.1
    subst e
    exact ⟨rfl, Nat.eq_of_beq_eq_true h.2.1, nb h.2.2⟩
  · cases h
def gdsB (E : WE) (c : Nat) : Nat → List AV → List Value → Bool
  | _, [], [] => true
  | j, a :: as, v :: vs => gdB E c j a v && gdsB E c (j + 1) as vs
  | _, _, _ => false
theorem gdsB_ok {E : WE} {c : Nat} : ∀ {as : List AV} {vs : List Value} {j : Nat}, gdsB E c j as vs = true → vs.length = as.length ∧ ∀ (i : Nat) (a : AV), as[i]? = some a → ∃ v, vs[i]? = some v ∧ gd E c (j + i) a v
  | [], [], _, _ => ⟨rfl, fun i a h => by cases h⟩
  | a :: as, v :: vs, j, h => by
    have h : (gdB E c j a v && gdsB E c (j + 1) as vs) = true := h
    simp only [Bool.and_eq_true] at h
    obtain ⟨k1, k2⟩ := gdsB_ok h.2
    refine ⟨congrArg (· + 1) k1, fun i b hb => ?_⟩
    match i, hb with
    | 0, hb =>
      cases hb
      exact ⟨v, rfl, gdB_ok h.1⟩
    | i + 1, hb =>
      obtain ⟨v', q1, q2⟩ := k2 i b hb
      exact ⟨v', q1, by rw [show j + (i + 1) = j + 1 + i by omega]; exact q2⟩
  | [], _ :: _, _, h => by cases h
  | _ :: _, [], _, h => by cases h
def elsB (el : (Int × Int) ⊕ (Nat → Int × Int)) : Nat → List Int32 → Bool
  | _, [] => true
  | j, x :: l => decide ((elI el j).1 ≤ x.toInt) && decide (x.toInt ≤ (elI el j).2) && elsB el (j + 1) l
theorem elsB_ok {el : (Int × Int) ⊕ (Nat → Int × Int)} : ∀ {l : List Int32} {j : Nat}, elsB el j l = true → ∀ (i : Nat) (x : Int32), l[i]? = some x → (elI el (j + i)).1 ≤ x.toInt ∧ x.toInt ≤ (elI el (j + i)).2
  | [], _, _, i, x, h => by cases h
  | y :: l, j, h, i, x, hx => by
    have h : (decide ((elI el j).1 ≤ y.toInt) && decide (y.toInt ≤ (elI el j).2) && elsB el (j + 1) l) = true := h
    simp only [Bool.and_eq_true, decide_eq_true_eq] at h
    match i, hx with
    | 0, hx =>
      cases hx
      exact h.1
    | i + 1, hx =>
      have := elsB_ok h.2 i x hx
      rw [show j + (i + 1) = j + 1 + i by omega]
      exact this
def okEB (E : WE) (c : Nat) : TD → AE → Bool
  | .inl (ci, avs), .inr (.inr (.inr (cj, fl))) => Nat.beq cj ci && gdsB E c 0 avs fl
  | .inr (.inl (t, len, el)), .inl (t', l) => Nat.beq t' t && Nat.beq l.length len && elsB el 0 l
  | .inr (.inr (.inl len)), .inr (.inl l) => Nat.beq l.length len
  | .inr (.inr (.inr (c0, len, t))), .inr (.inr (.inl (c1, l))) => Nat.beq c1 c0 && Nat.beq l.length len && !(Nat.beq t 0) && l.all (fun o => match o with
    | some k => Nat.beq (E.1 k) t
    | none => false)
  | _, _ => false
theorem okEB_ok {E : WE} {c : Nat} {td : TD} {e : AE} (h : okEB E c td e = true) : okE E c td e := by
  unfold okEB at h
  split at h
  · simp only [Bool.and_eq_true] at h
    rw [Nat.eq_of_beq_eq_true h.1]
    obtain ⟨k1, k2⟩ := gdsB_ok h.2
    refine ⟨_, rfl, k1, fun j a hj => ?_⟩
    obtain ⟨v, q1, q2⟩ := k2 j a hj
    rw [Nat.zero_add] at q2
    exact ⟨v, q1, q2⟩
  · simp only [Bool.and_eq_true] at h
    rw [Nat.eq_of_beq_eq_true h.1.1]
    refine ⟨_, rfl, Nat.eq_of_beq_eq_true h.1.2, fun j x hj => ?_⟩
    have := elsB_ok h.2 j x hj
    rw [Nat.zero_add] at this
    exact this
  · exact ⟨_, rfl, Nat.eq_of_beq_eq_true h⟩
  · simp only [Bool.and_eq_true] at h
    rw [Nat.eq_of_beq_eq_true h.1.1.1]
    refine ⟨_, rfl, Nat.eq_of_beq_eq_true h.1.1.2, nb h.1.2, fun j o hj => ?_⟩
    have h9 := List.all_eq_true.mp h.2 o (List.mem_of_getElem? hj)
    split at h9
    · rename_i k
      exact ⟨k, rfl, Nat.eq_of_beq_eq_true h9⟩
    · cases h9
  · cases h
def cellsB : Nat → List AE → Bool
  | _, [] => true
  | c, e :: w => (Nat.beq (ctyC c) 0 || okEB EC c (dclC (ctyC c)) e) && cellsB (c + 1) w
theorem cellsB_ok : ∀ {w : List AE} {c : Nat}, cellsB c w = true → ∀ (i : Nat) (e : AE), w[i]? = some e → ctyC (c + i) ≠ 0 → okE EC (c + i) (dclC (ctyC (c + i))) e
  | [], _, _, i, e, h, _ => by cases h
  | e0 :: w, c, h, i, e, he, hc => by
    have h : ((Nat.beq (ctyC c) 0 || okEB EC c (dclC (ctyC c)) e0) && cellsB (c + 1) w) = true := h
    simp only [Bool.and_eq_true, Bool.or_eq_true] at h
    match i, he, hc with
    | 0, he, hc =>
      cases he
      rcases h.1 with q | q
      · exact absurd (Nat.eq_of_beq_eq_true q) hc
      · exact okEB_ok q
    | i + 1, he, hc =>
      have e1 : c + (i + 1) = c + 1 + i := by omega
      rw [e1] at hc ⊢
      exact cellsB_ok h.2 i e he hc
/-- 200 cells, each as its type says -/
theorem wok_of {w : List AE} (hn : w.length = 200) (h : cellsB 0 w = true) : wok EC w := by
  refine ⟨by omega, fun c hc => ?_⟩
  have hc : ctyC c ≠ 0 := hc
  have hl : c < w.length := by
    rw [hn]
    by_cases hq : c < 200
    · exact hq
    · exfalso
      apply hc
      show ctyL.getD c 0 = 0
      rw [List.getD_eq_getElem?_getD, List.getElem?_eq_none (by have h9 : ctyL.length = 200 := rfl; omega)]
      rfl
  refine ⟨_, List.getElem?_eq_getElem hl, ?_⟩
  have h9 := cellsB_ok h c _ (List.getElem?_eq_getElem hl)
  rw [Nat.zero_add] at h9
  exact h9 hc
end
section
/-! the world as numbers: ints, longs and references, by cell and place -/
abbrev WS : Type := (Nat → Nat → Int32) × (Nat → Nat → Int64) × (Nat → Nat → Nat)
/-- fields of a class: 0 an int, 1 a long, 2 an object, 3 a row -/
def flK : Nat → List Nat := fun c => (cond (Nat.blt c 6) (cond (Nat.blt c 3) (cond (Nat.blt c 1) (cond (Nat.beq c 0) [0, 0, 0, 0, 0, 0, 3, 3, 3, 3, 3, 3, 3, 3, 2] []) (cond (Nat.blt c 2) (cond (Nat.beq c 1) [3, 0, 3, 3] []) (cond (Nat.beq c 2) [3, 3, 3, 0, 0, 0] []))) (cond (Nat.blt c 4) (cond (Nat.beq c 3) [3] []) (cond (Nat.blt c 5) (cond (Nat.beq c 4) [3, 0, 0, 3, 3, 3] []) (cond (Nat.beq c 5) [2, 3, 3, 0, 2, 0, 0, 0, 0, 0, 1, 0] [])))) (cond (Nat.blt c 9) (cond (Nat.blt c 7) (cond (Nat.beq c 6) [0, 0, 0, 0, 0, 0, 0, 0, 0, 3] []) (cond (Nat.blt c 8) (cond (Nat.beq c 7) [3, 0, 3, 3, 3, 3, 0, 0, 1] []) (cond (Nat.beq c 8) [3, 3, 3, 0] []))) (cond (Nat.blt c 11) (cond (Nat.blt c 10) (cond (Nat.beq c 9) [2, 3, 3] []) (cond (Nat.beq c 10) [3, 3, 3] [])) (cond (Nat.blt c 12) (cond (Nat.beq c 11) [2, 2, 2, 2, 2, 2, 2, 2, 2] []) (cond (Nat.beq c 12) [0, 3, 0, 3, 0, 3, 3, 3, 3, 3, 0, 0, 0, 0, 0, 0, 0, 0, 0, 0, 0, 3, 3, 3, 3, 3, 3, 3, 3, 3, 3, 3, 3, 3, 3, 3, 3, 3, 0, 3, 3, 3, 3, 3, 0, 3, 3, 3, 0, 3, 3, 0, 3, 3, 3, 3, 0, 0, 0, 0, 0, 3, 3, 0, 3, 3, 3, 3, 3, 3, 0, 3, 3, 3, 3, 3] [])))))
/-- a cell: 0 an object of a class; 1 ints: type, length; 2 longs; 3 references -/
def shC : Nat → Nat × Nat × Nat := fun c => (cond (Nat.blt c 100) (cond (Nat.blt c 50) (cond (Nat.blt c 25) (cond (Nat.blt c 12) (cond (Nat.blt c 6) (cond (Nat.blt c 3) (cond (Nat.blt c 1) (cond (Nat.beq c 0) (0, 11, 0) (3, 9, 0)) (cond (Nat.blt c 2) (cond (Nat.beq c 1) (0, 5, 0) (3, 9, 0)) (cond (Nat.beq c 2) (0, 7, 0) (3, 9, 0)))) (cond (Nat.blt c 4) (cond (Nat.beq c 3) (1, 1, 2000) (3, 9, 0)) (cond (Nat.blt c 5) (cond (Nat.beq c 4) (2, 0, 18) (3, 9, 0)) (cond (Nat.beq c 5) (1, 0, 401) (3, 9, 0))))) (cond (Nat.blt c 9) (cond (Nat.blt c 7) (cond (Nat.beq c 6) (1, 0, 401) (3, 9, 0)) (cond (Nat.blt c 8) (cond (Nat.beq c 7) (2, 0, 401) (3, 9, 0)) (cond (Nat.beq c 8) (2, 0, 16) (3, 9, 0)))) (cond (Nat.blt c 10) (cond (Nat.beq c 9) (1, 0, 16) (3, 9, 0)) (cond (Nat.blt c 11) (cond (Nat.beq c 10) (0, 0, 0) (3, 9, 0)) (cond (Nat.beq c 11) (1, 0, 10) (3, 9, 0)))))) (cond (Nat.blt c 18) (cond (Nat.blt c 15) (cond (Nat.blt c 13) (cond (Nat.beq c 12) (1, 2, 10) (3, 9, 0)) (cond (Nat.blt c 14) (cond (Nat.beq c 13) (1, 0, 10) (3, 9, 0)) (cond (Nat.beq c 14) (1, 0, 40) (3, 9, 0)))) (cond (Nat.blt c 16) (cond (Nat.beq c 15) (1, 0, 6) (3, 9, 0)) (cond (Nat.blt c 17) (cond (Nat.beq c 16) (1, 0, 6) (3, 9, 0)) (cond (Nat.beq c 17) (1, 0, 6) (3, 9, 0))))) (cond (Nat.blt c 21) (cond (Nat.blt c 19) (cond (Nat.beq c 18) (1, 0, 6) (3, 9, 0)) (cond (Nat.blt c 20) (cond (Nat.beq c 19) (0, 1, 0) (3, 9, 0)) (cond (Nat.beq c 20) (1, 0, 400) (3, 9, 0)))) (cond (Nat.blt c 23) (cond (Nat.blt c 22) (cond (Nat.beq c 21) (1, 0, 18) (3, 9, 0)) (cond (Nat.beq c 22) (1, 0, 7) (3, 9, 0))) (cond (Nat.blt c 24) (cond (Nat.beq c 23) (0, 0, 0) (3, 9, 0)) (cond (Nat.beq c 24) (1, 0, 10) (3, 9, 0))))))) (cond (Nat.blt c 37) (cond (Nat.blt c 31) (cond (Nat.blt c 28) (cond (Nat.blt c 26) (cond (Nat.beq c 25) (1, 2, 10) (3, 9, 0)) (cond (Nat.blt c 27) (cond (Nat.beq c 26) (1, 0, 10) (3, 9, 0)) (cond (Nat.beq c 27) (1, 0, 40) (3, 9, 0)))) (cond (Nat.blt c 29) (cond (Nat.beq c 28) (1, 0, 6) (3, 9, 0)) (cond (Nat.blt c 30) (cond (Nat.beq c 29) (1, 0, 6) (3, 9, 0)) (cond (Nat.beq c 30) (1, 0, 6) (3, 9, 0))))) (cond (Nat.blt c 34) (cond (Nat.blt c 32) (cond (Nat.beq c 31) (1, 0, 6) (3, 9, 0)) (cond (Nat.blt c 33) (cond (Nat.beq c 32) (0, 1, 0) (3, 9, 0)) (cond (Nat.beq c 33) (1, 0, 400) (3, 9, 0)))) (cond (Nat.blt c 35) (cond (Nat.beq c 34) (1, 0, 18) (3, 9, 0)) (cond (Nat.blt c 36) (cond (Nat.beq c 35) (1, 0, 7) (3, 9, 0)) (cond (Nat.beq c 36) (0, 6, 0) (3, 9, 0)))))) (cond (Nat.blt c 43) (cond (Nat.blt c 40) (cond (Nat.blt c 38) (cond (Nat.beq c 37) (1, 0, 102) (3, 9, 0)) (cond (Nat.blt c 39) (cond (Nat.beq c 38) (0, 3, 0) (3, 9, 0)) (cond (Nat.beq c 39) (1, 1, 600) (3, 9, 0)))) (cond (Nat.blt c 41) (cond (Nat.beq c 40) (0, 4, 0) (3, 9, 0)) (cond (Nat.blt c 42) (cond (Nat.beq c 41) (3, 0, 30) (3, 9, 0)) (cond (Nat.beq c 42) (3, 0, 3) (3, 9, 0))))) (cond (Nat.blt c 46) (cond (Nat.blt c 44) (cond (Nat.beq c 43) (3, 1, 3) (3, 9, 0)) (cond (Nat.blt c 45) (cond (Nat.beq c 44) (1, 2, 3) (3, 9, 0)) (cond (Nat.beq c 45) (0, 6, 0) (3, 9, 0)))) (cond (Nat.blt c 48) (cond (Nat.blt c 47) (cond (Nat.beq c 46) (1, 0, 102) (3, 9, 0)) (cond (Nat.beq c 47) (0, 6, 0) (3, 9, 0))) (cond (Nat.blt c 49) (cond (Nat.beq c 48) (1, 0, 102) (3, 9, 0)) (cond (Nat.beq c 49) (0, 6, 0) (3, 9, 0)))))))) (cond (Nat.blt c 75) (cond (Nat.blt c 62) (cond (Nat.blt c 56) (cond (Nat.blt c 53) (cond (Nat.blt c 51) (cond (Nat.beq c 50) (1, 0, 102) (3, 9, 0)) (cond (Nat.blt c 52) (cond (Nat.beq c 51) (0, 6, 0) (3, 9, 0)) (cond (Nat.beq c 52) (1, 0, 102) (3, 9, 0)))) (cond (Nat.blt c 54) (cond (Nat.beq c 53) (0, 6, 0) (3, 9, 0)) (cond (Nat.blt c 55) (cond (Nat.beq c 54) (1, 0, 102) (3, 9, 0)) (cond (Nat.beq c 55) (0, 6, 0) (3, 9, 0))))) (cond (Nat.blt c 59) (cond (Nat.blt c 57) (cond (Nat.beq c 56) (1, 0, 102) (3, 9, 0)) (cond (Nat.blt c 58) (cond (Nat.beq c 57) (0, 6, 0) (3, 9, 0)) (cond (Nat.beq c 58) (1, 0, 102) (3, 9, 0)))) (cond (Nat.blt c 60) (cond (Nat.beq c 59) (0, 6, 0) (3, 9, 0)) (cond (Nat.blt c 61) (cond (Nat.beq c 60) (1, 0, 102) (3, 9, 0)) (cond (Nat.beq c 61) (0, 6, 0) (3, 9, 0)))))) (cond (Nat.blt c 68) (cond (Nat.blt c 65) (cond (Nat.blt c 63) (cond (Nat.beq c 62) (1, 0, 102) (3, 9, 0)) (cond (Nat.blt c 64) (cond (Nat.beq c 63) (0, 6, 0) (3, 9, 0)) (cond (Nat.beq c 64) (1, 0, 102) (3, 9, 0)))) (cond (Nat.blt c 66) (cond (Nat.beq c 65) (0, 6, 0) (3, 9, 0)) (cond (Nat.blt c 67) (cond (Nat.beq c 66) (1, 0, 102) (3, 9, 0)) (cond (Nat.beq c 67) (0, 6, 0) (3, 9, 0))))) (cond (Nat.blt c 71) (cond (Nat.blt c 69) (cond (Nat.beq c 68) (1, 0, 102) (3, 9, 0)) (cond (Nat.blt c 70) (cond (Nat.beq c 69) (0, 6, 0) (3, 9, 0)) (cond (Nat.beq c 70) (1, 0, 102) (3, 9, 0)))) (cond (Nat.blt c 73) (cond (Nat.blt c 72) (cond (Nat.beq c 71) (0, 6, 0) (3, 9, 0)) (cond (Nat.beq c 72) (1, 0, 102) (3, 9, 0))) (cond (Nat.blt c 74) (cond (Nat.beq c 73) (0, 6, 0) (3, 9, 0)) (cond (Nat.beq c 74) (1, 0, 102) (3, 9, 0))))))) (cond (Nat.blt c 87) (cond (Nat.blt c 81) (cond (Nat.blt c 78) (cond (Nat.blt c 76) (cond (Nat.beq c 75) (0, 6, 0) (3, 9, 0)) (cond (Nat.blt c 77) (cond (Nat.beq c 76) (1, 0, 102) (3, 9, 0)) (cond (Nat.beq c 77) (0, 6, 0) (3, 9, 0)))) (cond (Nat.blt c 79) (cond (Nat.beq c 78) (1, 0, 102) (3, 9, 0)) (cond (Nat.blt c 80) (cond (Nat.beq c 79) (0, 6, 0) (3, 9, 0)) (cond (Nat.beq c 80) (1, 0, 102) (3, 9, 0))))) (cond (Nat.blt c 84) (cond (Nat.blt c 82) (cond (Nat.beq c 81) (0, 6, 0) (3, 9, 0)) (cond (Nat.blt c 83) (cond (Nat.beq c 82) (1, 0, 102) (3, 9, 0)) (cond (Nat.beq c 83) (0, 6, 0) (3, 9, 0)))) (cond (Nat.blt c 85) (cond (Nat.beq c 84) (1, 0, 102) (3, 9, 0)) (cond (Nat.blt c 86) (cond (Nat.beq c 85) (0, 6, 0) (3, 9, 0)) (cond (Nat.beq c 86) (1, 0, 102) (3, 9, 0)))))) (cond (Nat.blt c 93) (cond (Nat.blt c 90) (cond (Nat.blt c 88) (cond (Nat.beq c 87) (0, 6, 0) (3, 9, 0)) (cond (Nat.blt c 89) (cond (Nat.beq c 88) (1, 0, 102) (3, 9, 0)) (cond (Nat.beq c 89) (0, 6, 0) (3, 9, 0)))) (cond (Nat.blt c 91) (cond (Nat.beq c 90) (1, 0, 102) (3, 9, 0)) (cond (Nat.blt c 92) (cond (Nat.beq c 91) (0, 6, 0) (3, 9, 0)) (cond (Nat.beq c 92) (1, 0, 102) (3, 9, 0))))) (cond (Nat.blt c 96) (cond (Nat.blt c 94) (cond (Nat.beq c 93) (0, 6, 0) (3, 9, 0)) (cond (Nat.blt c 95) (cond (Nat.beq c 94) (1, 0, 102) (3, 9, 0)) (cond (Nat.beq c 95) (0, 6, 0) (3, 9, 0)))) (cond (Nat.blt c 98) (cond (Nat.blt c 97) (cond (Nat.beq c 96) (1, 0, 102) (3, 9, 0)) (cond (Nat.beq c 97) (0, 6, 0) (3, 9, 0))) (cond (Nat.blt c 99) (cond (Nat.beq c 98) (1, 0, 102) (3, 9, 0)) (cond (Nat.beq c 99) (0, 6, 0) (3, 9, 0))))))))) (cond (Nat.blt c 150) (cond (Nat.blt c 125) (cond (Nat.blt c 112) (cond (Nat.blt c 106) (cond (Nat.blt c 103) (cond (Nat.blt c 101) (cond (Nat.beq c 100) (1, 0, 102) (3, 9, 0)) (cond (Nat.blt c 102) (cond (Nat.beq c 101) (0, 6, 0) (3, 9, 0)) (cond (Nat.beq c 102) (1, 0, 102) (3, 9, 0)))) (cond (Nat.blt c 104) (cond (Nat.beq c 103) (0, 6, 0) (3, 9, 0)) (cond (Nat.blt c 105) (cond (Nat.beq c 104) (1, 0, 102) (3, 9, 0)) (cond (Nat.beq c 105) (0, 6, 0) (3, 9, 0))))) (cond (Nat.blt c 109) (cond (Nat.blt c 107) (cond (Nat.beq c 106) (1, 0, 102) (3, 9, 0)) (cond (Nat.blt c 108) (cond (Nat.beq c 107) (0, 3, 0) (3, 9, 0)) (cond (Nat.beq c 108) (1, 1, 600) (3, 9, 0)))) (cond (Nat.blt c 110) (cond (Nat.beq c 109) (0, 6, 0) (3, 9, 0)) (cond (Nat.blt c 111) (cond (Nat.beq c 110) (1, 0, 102) (3, 9, 0)) (cond (Nat.beq c 111) (0, 3, 0) (3, 9, 0)))))) (cond (Nat.blt c 118) (cond (Nat.blt c 115) (cond (Nat.blt c 113) (cond (Nat.beq c 112) (1, 1, 600) (3, 9, 0)) (cond (Nat.blt c 114) (cond (Nat.beq c 113) (0, 6, 0) (3, 9, 0)) (cond (Nat.beq c 114) (1, 0, 102) (3, 9, 0)))) (cond (Nat.blt c 116) (cond (Nat.beq c 115) (0, 3, 0) (3, 9, 0)) (cond (Nat.blt c 117) (cond (Nat.beq c 116) (1, 1, 600) (3, 9, 0)) (cond (Nat.beq c 117) (0, 8, 0) (3, 9, 0))))) (cond (Nat.blt c 121) (cond (Nat.blt c 119) (cond (Nat.beq c 118) (1, 0, 20) (3, 9, 0)) (cond (Nat.blt c 120) (cond (Nat.beq c 119) (1, 0, 20) (3, 9, 0)) (cond (Nat.beq c 120) (1, 0, 20) (3, 9, 0)))) (cond (Nat.blt c 123) (cond (Nat.blt c 122) (cond (Nat.beq c 121) (0, 9, 0) (3, 9, 0)) (cond (Nat.beq c 122) (0, 6, 0) (3, 9, 0))) (cond (Nat.blt c 124) (cond (Nat.beq c 123) (1, 0, 102) (3, 9, 0)) (cond (Nat.beq c 124) (1, 0, 384) (3, 9, 0))))))) (cond (Nat.blt c 137) (cond (Nat.blt c 131) (cond (Nat.blt c 128) (cond (Nat.blt c 126) (cond (Nat.beq c 125) (2, 0, 301) (3, 9, 0)) (cond (Nat.blt c 127) (cond (Nat.beq c 126) (0, 2, 0) (3, 9, 0)) (cond (Nat.beq c 127) (3, 0, 7) (3, 9, 0)))) (cond (Nat.blt c 129) (cond (Nat.beq c 128) (1, 0, 6) (3, 9, 0)) (cond (Nat.blt c 130) (cond (Nat.beq c 129) (1, 0, 6) (3, 9, 0)) (cond (Nat.beq c 130) (0, 6, 0) (3, 9, 0))))) (cond (Nat.blt c 134) (cond (Nat.blt c 132) (cond (Nat.beq c 131) (1, 0, 102) (3, 9, 0)) (cond (Nat.blt c 133) (cond (Nat.beq c 132) (0, 6, 0) (3, 9, 0)) (cond (Nat.beq c 133) (1, 0, 102) (3, 9, 0)))) (cond (Nat.blt c 135) (cond (Nat.beq c 134) (0, 6, 0) (3, 9, 0)) (cond (Nat.blt c 136) (cond (Nat.beq c 135) (1, 0, 102) (3, 9, 0)) (cond (Nat.beq c 136) (0, 6, 0) (3, 9, 0)))))) (cond (Nat.blt c 143) (cond (Nat.blt c 140) (cond (Nat.blt c 138) (cond (Nat.beq c 137) (1, 0, 102) (3, 9, 0)) (cond (Nat.blt c 139) (cond (Nat.beq c 138) (0, 6, 0) (3, 9, 0)) (cond (Nat.beq c 139) (1, 0, 102) (3, 9, 0)))) (cond (Nat.blt c 141) (cond (Nat.beq c 140) (0, 6, 0) (3, 9, 0)) (cond (Nat.blt c 142) (cond (Nat.beq c 141) (1, 0, 102) (3, 9, 0)) (cond (Nat.beq c 142) (0, 6, 0) (3, 9, 0))))) (cond (Nat.blt c 146) (cond (Nat.blt c 144) (cond (Nat.beq c 143) (1, 0, 102) (3, 9, 0)) (cond (Nat.blt c 145) (cond (Nat.beq c 144) (0, 10, 0) (3, 9, 0)) (cond (Nat.beq c 145) (1, 0, 10) (3, 9, 0)))) (cond (Nat.blt c 148) (cond (Nat.blt c 147) (cond (Nat.beq c 146) (1, 0, 10) (3, 9, 0)) (cond (Nat.beq c 147) (1, 0, 10) (3, 9, 0))) (cond (Nat.blt c 149) (cond (Nat.beq c 148) (0, 12, 0) (3, 9, 0)) (cond (Nat.beq c 149) (1, 1, 2000) (3, 9, 0)))))))) (cond (Nat.blt c 175) (cond (Nat.blt c 162) (cond (Nat.blt c 156) (cond (Nat.blt c 153) (cond (Nat.blt c 151) (cond (Nat.beq c 150) (1, 1, 2000) (3, 9, 0)) (cond (Nat.blt c 152) (cond (Nat.beq c 151) (1, 0, 403) (3, 9, 0)) (cond (Nat.beq c 152) (1, 0, 403) (3, 9, 0)))) (cond (Nat.blt c 154) (cond (Nat.beq c 153) (1, 0, 403) (3, 9, 0)) (cond (Nat.blt c 155) (cond (Nat.beq c 154) (2, 0, 403) (3, 9, 0)) (cond (Nat.beq c 155) (2, 0, 18) (3, 9, 0))))) (cond (Nat.blt c 159) (cond (Nat.blt c 157) (cond (Nat.beq c 156) (2, 0, 16) (3, 9, 0)) (cond (Nat.blt c 158) (cond (Nat.beq c 157) (1, 0, 16) (3, 9, 0)) (cond (Nat.beq c 158) (1, 0, 2) (3, 9, 0)))) (cond (Nat.blt c 160) (cond (Nat.beq c 159) (1, 0, 20) (3, 9, 0)) (cond (Nat.blt c 161) (cond (Nat.beq c 160) (1, 2, 20) (3, 9, 0)) (cond (Nat.beq c 161) (1, 0, 20) (3, 9, 0)))))) (cond (Nat.blt c 168) (cond (Nat.blt c 165) (cond (Nat.blt c 163) (cond (Nat.beq c 162) (1, 0, 80) (3, 9, 0)) (cond (Nat.blt c 164) (cond (Nat.beq c 163) (1, 0, 2) (3, 9, 0)) (cond (Nat.beq c 164) (1, 0, 2) (3, 9, 0)))) (cond (Nat.blt c 166) (cond (Nat.beq c 165) (1, 0, 12) (3, 9, 0)) (cond (Nat.blt c 167) (cond (Nat.beq c 166) (1, 0, 12) (3, 9, 0)) (cond (Nat.beq c 167) (1, 0, 12) (3, 9, 0))))) (cond (Nat.blt c 171) (cond (Nat.blt c 169) (cond (Nat.beq c 168) (1, 0, 2) (3, 9, 0)) (cond (Nat.blt c 170) (cond (Nat.beq c 169) (1, 0, 2) (3, 9, 0)) (cond (Nat.beq c 170) (1, 0, 2) (3, 9, 0)))) (cond (Nat.blt c 173) (cond (Nat.blt c 172) (cond (Nat.beq c 171) (1, 0, 12) (3, 9, 0)) (cond (Nat.beq c 172) (1, 0, 12) (3, 9, 0))) (cond (Nat.blt c 174) (cond (Nat.beq c 173) (1, 2, 260) (3, 9, 0)) (cond (Nat.beq c 174) (1, 0, 260) (3, 9, 0))))))) (cond (Nat.blt c 187) (cond (Nat.blt c 181) (cond (Nat.blt c 178) (cond (Nat.blt c 176) (cond (Nat.beq c 175) (1, 0, 260) (3, 9, 0)) (cond (Nat.blt c 177) (cond (Nat.beq c 176) (1, 0, 260) (3, 9, 0)) (cond (Nat.beq c 177) (1, 0, 260) (3, 9, 0)))) (cond (Nat.blt c 179) (cond (Nat.beq c 178) (1, 0, 840) (3, 9, 0)) (cond (Nat.blt c 180) (cond (Nat.beq c 179) (1, 0, 840) (3, 9, 0)) (cond (Nat.beq c 180) (1, 0, 64) (3, 9, 0))))) (cond (Nat.blt c 184) (cond (Nat.blt c 182) (cond (Nat.beq c 181) (1, 0, 7) (3, 9, 0)) (cond (Nat.blt c 183) (cond (Nat.beq c 182) (1, 0, 400) (3, 9, 0)) (cond (Nat.beq c 183) (1, 0, 96) (3, 9, 0)))) (cond (Nat.blt c 185) (cond (Nat.beq c 184) (1, 0, 600) (3, 9, 0)) (cond (Nat.blt c 186) (cond (Nat.beq c 185) (1, 0, 600) (3, 9, 0)) (cond (Nat.beq c 186) (1, 0, 96) (3, 9, 0)))))) (cond (Nat.blt c 193) (cond (Nat.blt c 190) (cond (Nat.blt c 188) (cond (Nat.beq c 187) (1, 0, 2880) (3, 9, 0)) (cond (Nat.blt c 189) (cond (Nat.beq c 188) (1, 0, 6) (3, 9, 0)) (cond (Nat.beq c 189) (1, 0, 6) (3, 9, 0)))) (cond (Nat.blt c 191) (cond (Nat.beq c 190) (1, 0, 384) (3, 9, 0)) (cond (Nat.blt c 192) (cond (Nat.beq c 191) (1, 0, 2709) (3, 9, 0)) (cond (Nat.beq c 192) (1, 0, 10) (3, 9, 0))))) (cond (Nat.blt c 196) (cond (Nat.blt c 194) (cond (Nat.beq c 193) (1, 0, 10) (3, 9, 0)) (cond (Nat.blt c 195) (cond (Nat.beq c 194) (1, 0, 10) (3, 9, 0)) (cond (Nat.beq c 195) (1, 0, 20) (3, 9, 0)))) (cond (Nat.blt c 198) (cond (Nat.blt c 197) (cond (Nat.beq c 196) (1, 0, 20) (3, 9, 0)) (cond (Nat.beq c 197) (1, 0, 20) (3, 9, 0))) (cond (Nat.blt c 199) (cond (Nat.beq c 198) (1, 2, 3) (3, 9, 0)) (cond (Nat.beq c 199) (1, 0, 3888) (3, 9, 0))))))))))
def iniL : List Nat := [0, 17, 25, 33, 44, 52, 76, 96, 110, 116, 132, 144, 193]
def strL : List Nat := [313, 314, 315, 316, 317, 318, 319, 320]
def iniB (b : Nat) : Bool := bif Nat.blt b 336 then iniL.any (fun q => Nat.beq q b) else decide ((md_y (mdOf b)).name = "<init>")
def strB (b : Nat) : Bool := bif Nat.blt b 336 then strL.any (fun q => Nat.beq q b) else decide ((md_y (mdOf b)).cls = "java/lang/String")
theorem iniB_ok (b : Nat) : decide ((md_y (mdOf b)).name = "<init>") = iniB b := by
  unfold iniB
  cases h : Nat.blt b 336 with
  | false => rfl
  | true =>
    have h1 : (List.range 336).all (fun b => (decide ((md_y (mdOf b)).name = "<init>")) == iniL.any (fun q => Nat.beq q b)) = true := by decide +kernel
    have h2 := List.all_eq_true.mp h1 b (List.mem_range.mpr (Nat.le_of_ble_eq_true h))
    exact eq_of_beq h2
theorem strB_ok (b : Nat) : decide ((md_y (mdOf b)).cls = "java/lang/String") = strB b := by
  unfold strB
  cases h : Nat.blt b 336 with
  | false => rfl
  | true =>
    have h1 : (List.range 336).all (fun b => (decide ((md_y (mdOf b)).cls = "java/lang/String")) == strL.any (fun q => Nat.beq q b)) = true := by decide +kernel
    have h2 := List.all_eq_true.mp h1 b (List.mem_range.mpr (Nat.le_of_ble_eq_true h))
    exact eq_of_beq h2
/-- a field's value -/
def fvK (ci sl a : Nat) (S : WS) : Value := cond (Nat.beq ((flK ci).getD sl 9) 0) (.int (S.1 a sl)) (cond (Nat.beq ((flK ci).getD sl 9) 1) (.long (S.2.1 a sl)) (cond (Nat.beq ((flK ci).getD sl 9) 2) (.ref (S.2.2 a sl)) (.ref (arrC a sl))))
def cellK (S : WS) (c : Nat) : AE := cond (Nat.beq (shC c).1 0) (.inr (.inr (.inr ((shC c).2.1, (List.range (flK (shC c).2.1).length).map (fun j => fvK (shC c).2.1 j c S)))))
  (cond (Nat.beq (shC c).1 1) (.inl ((shC c).2.1, (List.range (shC c).2.2).map (S.1 c)))
  (cond (Nat.beq (shC c).1 2) (.inr (.inl ((List.range (shC c).2.2).map (S.2.1 c))))
   (.inr (.inr (.inl ((shC c).2.1, (List.range (shC c).2.2).map (fun j => some (S.2.2 c j))))))))
def WD (S : WS) : List AE := (List.range 200).map (cellK S)
def isO (a ci : Nat) : Bool := Nat.blt a 200 && (Nat.beq (shC a).1 0 && Nat.beq (shC a).2.1 ci)
def isA (a t : Nat) : Bool := Nat.blt a 200 && (Nat.beq (shC a).1 1 && Nat.beq (shC a).2.1 t)
def isJ (a : Nat) : Bool := Nat.blt a 200 && Nat.beq (shC a).1 2
def isF (a : Nat) : Bool := Nat.blt a 200 && Nat.beq (shC a).1 3
def alen (a : Nat) : Nat := (shC a).2.2
def uI (S : WS) (c j : Nat) (x : Int32) : WS := (fun c' j' => cond (Nat.beq c' c && Nat.beq j' j) x (S.1 c' j'), S.2)
def uL (S : WS) (c j : Nat) (x : Int64) : WS := (S.1, fun c' j' => cond (Nat.beq c' c && Nat.beq j' j) x (S.2.1 c' j'), S.2.2)
def uR (S : WS) (c j : Nat) (x : Nat) : WS := (S.1, S.2.1, fun c' j' => cond (Nat.beq c' c && Nat.beq j' j) x (S.2.2 c' j'))
def uA (S : WS) (c : Nat) (g : Nat → Int32) : WS := (fun c' j' => cond (Nat.beq c' c) (g j') (S.1 c' j'), S.2)
section WS1
variable {S : WS} {a c i j sl ci n : Nat}
theorem wd_len : (WD S).length = 200 := by unfold WD; rw [List.length_map, List.length_range]
theorem wd_get (S : WS) (a : Nat) : (WD S)[a]? = bif Nat.blt a 200 then some (cellK S a) else none := by
  unfold WD
  rw [List.getElem?_map]
  cases h : Nat.blt a 200 with
  | true =>
    have h : a < 200 := Nat.le_of_ble_eq_true h
    rw [List.getElem?_range h]
    rfl
  | false =>
    have h : ¬ a < 200 := fun q => by
      have : Nat.blt a 200 = true := Nat.ble_eq_true_of_le q
      rw [h] at this
      cases this
    rw [List.getElem?_eq_none (by rw [List.length_range]; omega)]
    rfl
/-- what lies at a cell -/
theorem wd_view (S : WS) (a : Nat) :
    (∃ ci n, Nat.blt a 200 = true ∧ shC a = (0, ci, n) ∧ (WD S)[a]? = some (.inr (.inr (.inr (ci, (List.range (flK ci).length).map (fun j => fvK ci j a S)))))) ∨
    (∃ t n, Nat.blt a 200 = true ∧ shC a = (1, t, n) ∧ (WD S)[a]? = some (.inl (t, (List.range n).map (S.1 a)))) ∨
    (∃ p n, Nat.blt a 200 = true ∧ shC a = (2, p, n) ∧ (WD S)[a]? = some (.inr (.inl ((List.range n).map (S.2.1 a))))) ∨
    (∃ p n, Nat.blt a 200 = true ∧ shC a = (3, p, n) ∧ (WD S)[a]? = some (.inr (.inr (.inl (p, (List.range n).map (fun j => some (S.2.2 a j))))))) ∨
    (Nat.blt a 200 = false ∧ (WD S)[a]? = none) := by
  rw [wd_get]
  cases h : Nat.blt a 200 with
  | false => exact .inr (.inr (.inr (.inr ⟨rfl, rfl⟩)))
  | true =>
    have hk : (List.range 200).all (fun a => Nat.blt (shC a).1 4) = true := by decide +kernel
    have h4 : (shC a).1 < 4 := Nat.le_of_ble_eq_true (List.all_eq_true.mp hk a (List.mem_range.mpr (Nat.le_of_ble_eq_true h)))
    cases hs : shC a with
    | mk k q =>
      obtain ⟨p, n⟩ := q
      rw [hs] at h4
      have h4 : k < 4 := h4
      unfold cellK
      rw [hs]
      match k, h4 with
      | 0, _ => exact .inl ⟨p, n, rfl, rfl, rfl⟩
      | 1, _ => exact .inr (.inl ⟨p, n, rfl, rfl, rfl⟩)
      | 2, _ => exact .inr (.inr (.inl ⟨p, n, rfl, rfl, rfl⟩))
      | 3, _ => exact .inr (.inr (.inr (.inl ⟨p, n, rfl, rfl, rfl⟩)))
theorem beq_ne {x y : Nat} (h : x ≠ y) : Nat.beq x y = false := by
  cases q : Nat.beq x y with
  | false => rfl
  | true => exact absurd (Nat.eq_of_beq_eq_true q) h
theorem cell_ne {S S' : WS} (h : c ≠ a) (h1 : ∀ c' j', c' ≠ a → S'.1 c' j' = S.1 c' j') (h2 : ∀ c' j', c' ≠ a → S'.2.1 c' j' = S.2.1 c' j') (h3 : ∀ c' j', c' ≠ a → S'.2.2 c' j' = S.2.2 c' j') : cellK S' c = cellK S c := by
  have e1 : S'.1 c = S.1 c := funext fun j => h1 c j h
  have e2 : S'.2.1 c = S.2.1 c := funext fun j => h2 c j h
  have e3 : S'.2.2 c = S.2.2 c := funext fun j => h3 c j h
  unfold cellK
  have e4 : ∀ ci j, fvK ci j c S' = fvK ci j c S := fun ci j => by
    unfold fvK
    rw [e1, e2, e3]
  simp only [e1, e2, e3, e4]
theorem wd_set {S S' : WS} {e : AE} (ha : Nat.blt a 200 = true) (he : cellK S' a = e) (h1 : ∀ c' j', c' ≠ a → S'.1 c' j' = S.1 c' j') (h2 : ∀ c' j', c' ≠ a → S'.2.1 c' j' = S.2.1 c' j') (h3 : ∀ c' j', c' ≠ a → S'.2.2 c' j' = S.2.2 c' j') : (WD S).set a e = WD S' := by
  apply List.ext_getElem?
  intro c
  by_cases hc : c = a
  · subst hc
    rw [List.getElem?_set_self (by rw [wd_len]; exact Nat.le_of_ble_eq_true ha), wd_get, ha, he]
    rfl
  · rw [List.getElem?_set_ne (fun q => hc q.symm), wd_get, wd_get]
    cases h : Nat.blt c 200 with
    | false => rfl
    | true => simp only [cond_true, cell_ne hc h1 h2 h3]
theorem set_rng {α : Type} {f g : Nat → α} {n i : Nat} {x : α} (hx : g i = x) (hg : ∀ j, j ≠ i → g j = f j) : ((List.range n).map f).set i x = (List.range n).map g := by
  apply List.ext_getElem?
  intro c
  by_cases hc : c = i
  · subst hc
    by_cases hl : c < n
    · rw [List.getElem?_set_self (by rw [List.length_map, List.length_range]; exact hl), List.getElem?_map, List.getElem?_range hl]
      show some x = some (g c)
      rw [hx]
    · rw [List.getElem?_eq_none (by rw [List.length_set, List.length_map, List.length_range]; omega), List.getElem?_eq_none (by rw [List.length_map, List.length_range]; omega)]
  · rw [List.getElem?_set_ne (fun q => hc q.symm), List.getElem?_map, List.getElem?_map]
    by_cases hl : c < n
    · rw [List.getElem?_range hl]
      show some (f c) = some (g c)
      rw [hg c hc]
    · rw [List.getElem?_eq_none (by rw [List.length_range]; omega)]
      rfl
theorem uI_ne (S : WS) (x : Int32) : ∀ c' j', c' ≠ a → (uI S a i x).1 c' j' = S.1 c' j' := fun c' j' h => by
  show cond (Nat.beq c' a && Nat.beq j' i) x (S.1 c' j') = _
  rw [beq_ne h]
  rfl
theorem uL_ne (S : WS) (x : Int64) : ∀ c' j', c' ≠ a → (uL S a i x).2.1 c' j' = S.2.1 c' j' := fun c' j' h => by
  show cond (Nat.beq c' a && Nat.beq j' i) x (S.2.1 c' j') = _
  rw [beq_ne h]
  rfl
theorem uR_ne (S : WS) (x : Nat) : ∀ c' j', c' ≠ a → (uR S a i x).2.2 c' j' = S.2.2 c' j' := fun c' j' h => by
  show cond (Nat.beq c' a && Nat.beq j' i) x (S.2.2 c' j') = _
  rw [beq_ne h]
  rfl
theorem uI_i (x : Int32) : (uI S a i x).1 a i = x := by
  show cond (Nat.beq a a && Nat.beq i i) x _ = _
  rw [Nat.beq_refl, Nat.beq_refl]
  rfl
theorem uI_j (x : Int32) (h : j ≠ i) : (uI S a i x).1 a j = S.1 a j := by
  show cond (Nat.beq a a && Nat.beq j i) x _ = _
  rw [Nat.beq_refl, beq_ne h]
  rfl
theorem uL_i (x : Int64) : (uL S a i x).2.1 a i = x := by
  show cond (Nat.beq a a && Nat.beq i i) x _ = _
  rw [Nat.beq_refl, Nat.beq_refl]
  rfl
theorem uL_j (x : Int64) (h : j ≠ i) : (uL S a i x).2.1 a j = S.2.1 a j := by
  show cond (Nat.beq a a && Nat.beq j i) x _ = _
  rw [Nat.beq_refl, beq_ne h]
  rfl
theorem uR_i (x : Nat) : (uR S a i x).2.2 a i = x := by
  show cond (Nat.beq a a && Nat.beq i i) x _ = _
  rw [Nat.beq_refl, Nat.beq_refl]
  rfl
theorem uR_j (x : Nat) (h : j ≠ i) : (uR S a i x).2.2 a j = S.2.2 a j := by
  show cond (Nat.beq a a && Nat.beq j i) x _ = _
  rw [Nat.beq_refl, beq_ne h]
  rfl
theorem cell_i {t : Nat} (h : shC a = (1, t, n)) : cellK S a = .inl (t, (List.range n).map (S.1 a)) := by unfold cellK; rw [h]; rfl
theorem cell_j {t : Nat} (h : shC a = (2, t, n)) : cellK S a = .inr (.inl ((List.range n).map (S.2.1 a))) := by unfold cellK; rw [h]; rfl
theorem cell_f {t : Nat} (h : shC a = (3, t, n)) : cellK S a = .inr (.inr (.inl (t, (List.range n).map (fun j => some (S.2.2 a j))))) := by unfold cellK; rw [h]; rfl
theorem cell_o (h : shC a = (0, ci, n)) : cellK S a = .inr (.inr (.inr (ci, (List.range (flK ci).length).map (fun j => fvK ci j a S)))) := by unfold cellK; rw [h]; rfl
theorem set_I {t : Nat} {x : Int32} (ha : Nat.blt a 200 = true) (h : shC a = (1, t, n)) : (WD S).set a (.inl (t, ((List.range n).map (S.1 a)).set i x)) = WD (uI S a i x) := by
  refine wd_set ha ?_ (uI_ne S x) (fun _ _ _ => rfl) (fun _ _ _ => rfl)
  rw [cell_i h, set_rng (g := (uI S a i x).1 a) (uI_i x) (fun j hj => uI_j x hj)]
theorem set_J {t : Nat} {x : Int64} (ha : Nat.blt a 200 = true) (h : shC a = (2, t, n)) : (WD S).set a (.inr (.inl (((List.range n).map (S.2.1 a)).set i x))) = WD (uL S a i x) := by
  refine wd_set ha ?_ (fun _ _ _ => rfl) (uL_ne S x) (fun _ _ _ => rfl)
  rw [cell_j h, set_rng (g := (uL S a i x).2.1 a) (uL_i x) (fun j hj => uL_j x hj)]
theorem set_F {t x : Nat} (ha : Nat.blt a 200 = true) (h : shC a = (3, t, n)) : (WD S).set a (.inr (.inr (.inl (t, ((List.range n).map (fun j => some (S.2.2 a j))).set i (some x))))) = WD (uR S a i x) := by
  refine wd_set ha ?_ (fun _ _ _ => rfl) (fun _ _ _ => rfl) (uR_ne S x)
  rw [cell_f h, set_rng (g := fun j => some ((uR S a i x).2.2 a j)) (congrArg some (uR_i x)) (fun j hj => congrArg some (uR_j x hj))]
theorem fv_k {S S' : WS} (h1 : ∀ j', j' ≠ sl → S'.1 a j' = S.1 a j') (h2 : ∀ j', j' ≠ sl → S'.2.1 a j' = S.2.1 a j') (h3 : ∀ j', j' ≠ sl → S'.2.2 a j' = S.2.2 a j') (j : Nat) (hj : j ≠ sl) : fvK ci j a S' = fvK ci j a S := by
  unfold fvK
  rw [h1 j hj, h2 j hj, h3 j hj]
theorem set_o {S S' : WS} {v : Value} (ha : Nat.blt a 200 = true) (h : shC a = (0, ci, n)) (hv : fvK ci sl a S' = v) (h1 : ∀ c' j', ¬ (c' = a ∧ j' = sl) → S'.1 c' j' = S.1 c' j') (h2 : ∀ c' j', ¬ (c' = a ∧ j' = sl) → S'.2.1 c' j' = S.2.1 c' j') (h3 : ∀ c' j', ¬ (c' = a ∧ j' = sl) → S'.2.2 c' j' = S.2.2 c' j') : (WD S).set a (.inr (.inr (.inr (ci, ((List.range (flK ci).length).map (fun j => fvK ci j a S)).set sl v)))) = WD S' := by
  refine wd_set ha ?_ (fun c' j' q => h1 c' j' (fun z => q z.1)) (fun c' j' q => h2 c' j' (fun z => q z.1)) (fun c' j' q => h3 c' j' (fun z => q z.1))
  rw [cell_o h, set_rng (g := fun j => fvK ci j a S') hv (fun j hj => fv_k (sl := sl) (fun j' q => h1 a j' (fun z => q z.2)) (fun j' q => h2 a j' (fun z => q z.2)) (fun j' q => h3 a j' (fun z => q z.2)) j hj)]
theorem uI_no (S : WS) (x : Int32) : ∀ c' j', ¬ (c' = a ∧ j' = i) → (uI S a i x).1 c' j' = S.1 c' j' := fun c' j' h => by
  by_cases hc : c' = a
  · subst hc
    exact uI_j x (fun q => h ⟨rfl, q⟩)
  · exact uI_ne S x c' j' hc
theorem uL_no (S : WS) (x : Int64) : ∀ c' j', ¬ (c' = a ∧ j' = i) → (uL S a i x).2.1 c' j' = S.2.1 c' j' := fun c' j' h => by
  by_cases hc : c' = a
  · subst hc
    exact uL_j x (fun q => h ⟨rfl, q⟩)
  · exact uL_ne S x c' j' hc
theorem uR_no (S : WS) (x : Nat) : ∀ c' j', ¬ (c' = a ∧ j' = i) → (uR S a i x).2.2 c' j' = S.2.2 c' j' := fun c' j' h => by
  by_cases hc : c' = a
  · subst hc
    exact uR_j x (fun q => h ⟨rfl, q⟩)
  · exact uR_ne S x c' j' hc
end WS1
end
section
/-! locals as a row -/
def dr2 : Option Value → Option Value
  | some v => bif Nat.beq v.category 2 then none else some v
  | none => none
def vmap (f : Nat → Option Value → Option Value) : Nat → List (Option Value) → List (Option Value)
  | _, [] => []
  | j, o :: l => f j o :: vmap f (j + 1) l
def vset (vec : List (Option Value)) (i : Nat) (v : Value) : List (Option Value) := vmap (fun j o => cond (Nat.beq j i) (some v) (cond (Nat.beq (j + 1) i) (dr2 o) o)) 0 vec
def vset2 (vec : List (Option Value)) (i : Nat) (v : Value) : List (Option Value) := vmap (fun j o => cond (Nat.beq j i) (some v) (cond (Nat.beq j (i + 1)) none (cond (Nat.beq (j + 1) i) (dr2 o) o))) 0 vec
def vget (vec : List (Option Value)) (i : Nat) : Option Value := vec.getD i none
/-! a step, with what comes behind it -/
abbrev RK : Type := Option Value × WS
abbrev KT : Type := Nat → List (Option Value) → List Value → WS → Option RK
def kpu (k : KT) (pc : Nat) (vec : List (Option Value)) (S : WS) : Option (List Value) → Option RK
  | some st => k pc vec st S
  | none => none
def vldI (vec : List (Option Value)) (i : Nat) (st : List Value) : Option (List Value) := match vget vec i with
  | some (.int x) => some (.int x :: st)
  | _ => none
def vldL (vec : List (Option Value)) (i : Nat) (st : List Value) : Option (List Value) := match vget vec i with
  | some (.long x) => some (.long x :: st)
  | _ => none
def vldA (vec : List (Option Value)) (i : Nat) (st : List Value) : Option (List Value) := match vget vec i with
  | some (.ref x) => some (.ref x :: st)
  | _ => none
def kdv (f : Int32 → Int32 → Int32) (k : KT) (pc : Nat) (vec : List (Option Value)) (S : WS) : List Value → Option RK
  | .int y :: .int x :: r => cond (decide (y = 0)) none (k pc vec (.int (f x y) :: r) S)
  | _ => none
def ksI (k : KT) (nL pc : Nat) (vec : List (Option Value)) (i : Nat) (S : WS) : List Value → Option RK
  | .int x :: r => cond (Nat.blt i nL) (k pc (vset vec i (.int x)) r S) none
  | _ => none
def ksL (k : KT) (nL pc : Nat) (vec : List (Option Value)) (i : Nat) (S : WS) : List Value → Option RK
  | .long x :: r => cond (Nat.blt (i + 1) nL) (k pc (vset2 vec i (.long x)) r S) none
  | _ => none
def ksA (k : KT) (nL pc : Nat) (vec : List (Option Value)) (i : Nat) (S : WS) : List Value → Option RK
  | .ref x :: r => cond (Nat.blt i nL) (k pc (vset vec i (.ref x)) r S) none
  | _ => none
def kic (k : KT) (nL pc : Nat) (vec : List (Option Value)) (i : Nat) (n : Int) (st : List Value) (S : WS) : Option RK := match vget vec i with
  | some (.int x) => cond (Nat.blt i nL) (k pc (vset vec i (.int (x + Int32.ofInt n))) st S) none
  | _ => none
def ktg (k : KT) (pc : Nat) (off : Int) (vec : List (Option Value)) (st : List Value) (S : WS) : Option RK := cond (decide (0 ≤ (pc : Int) + off)) (k ((pc : Int) + off).toNat vec st S) none
def kif (cd : ClassFile.Cond) (off : Int) (k : KT) (pc : Nat) (vec : List (Option Value)) (S : WS) : List Value → Option RK
  | .int x :: r => cond (decide (0 ≤ (pc : Int) + off)) (cond (cmpB cd x 0) (k ((pc : Int) + off).toNat vec r S) (k (pc + 3) vec r S)) none
  | _ => none
def kcm (cd : ClassFile.Cond) (off : Int) (k : KT) (pc : Nat) (vec : List (Option Value)) (S : WS) : List Value → Option RK
  | .int y :: .int x :: r => cond (decide (0 ≤ (pc : Int) + off)) (cond (cmpB cd x y) (k ((pc : Int) + off).toNat vec r S) (k (pc + 3) vec r S)) none
  | _ => none
def ktb (k : KT) (pc : Nat) (vec : List (Option Value)) (r : List Value) (S : WS) (x : Int32) : Int → List Int → Option RK
  | _, [] => none
  | lo, o :: os => cond (decide (x.toInt = lo)) (ktg k pc o vec r S) (ktb k pc vec r S x (lo + 1) os)
def ktw (df lo hi : Int) (offs : Array Int) (k : KT) (pc : Nat) (vec : List (Option Value)) (S : WS) : List Value → Option RK
  | .int x :: r => cond (decide (x.toInt < lo) || decide (hi < x.toInt)) (ktg k pc df vec r S) (ktb k pc vec r S x lo offs.toList)
  | _ => none
def kgf (k0 ci sl : Nat) (k : KT) (pc : Nat) (vec : List (Option Value)) (S : WS) : List Value → Option RK
  | .ref a :: r => cond (Nat.ble k0 1) (cond (isO a ci) (cond (Nat.blt sl (flK ci).length) (k (pc + 3) vec (fvK ci sl a S :: r) S) none) none)
    (cond (Nat.beq k0 2) (cond (Nat.beq a 1000000 || Nat.beq a 1000001) (k (pc + 3) vec (.int 0 :: r) S) none)
    (cond (Nat.beq a 1000000) (k (pc + 3) vec (.ref 1000010 :: r) S) (cond (Nat.beq a 1000001) (k (pc + 3) vec (.ref 1000011 :: r) S) none)))
  | _ => none
/-- the field may be written here -/
def pfF (M : MD) (k0 ci sl : Nat) : Bool := match vwCl[ci]? with
  | none => false
  | some q => (bif (q.2.1 sl).2.2.2 then Nat.beq k0 0 && decide ((md_y M).name = "<init>") && decide ((q.2.1 sl).1 = clN (md_k M)) else true)
def tyN : FieldType → Nat
  | .int => 0
  | .boolean => 1
  | .long => 2
  | .object _ => 3
  | .array _ => 3
  | _ => 9
def kpv (k : KT) (pc : Nat) (vec : List (Option Value)) (r : List Value) (S : WS) (a sl kd ty : Nat) : Value → Option RK
  | .int x => cond (Nat.beq kd 0) (cond (Nat.beq ty 0) (k pc vec r (uI S a sl x)) (cond (decide (x &&& 1 = x)) (k pc vec r (uI S a sl x)) none)) none
  | .long x => cond (Nat.beq kd 1) (k pc vec r (uL S a sl x)) none
  | .ref x => cond (Nat.beq kd 2) (k pc vec r (uR S a sl x)) none
  | _ => none
def kpf (M : MD) (k0 ci sl : Nat) (k : KT) (pc : Nat) (vec : List (Option Value)) (S : WS) : List Value → Option RK
  | v :: .ref a :: r => cond (isO a ci) (cond (Nat.blt sl (flK ci).length) (cond (pfF M k0 ci sl) (kpv k (pc + 3) vec r S a sl ((flK ci).getD sl 9) (tyN (tyF ci sl)) v) none) none) none
  | _ => none
def kal (t : Nat) (k : KT) (pc : Nat) (vec : List (Option Value)) (S : WS) : List Value → Option RK
  | .int i :: .ref a :: r => cond (isA a t) (cond (inR i (alen a)) (k (pc + 1) vec (.int (S.1 a i.toNatClampNeg) :: r) S) none) none
  | _ => none
def kbl (k : KT) (pc : Nat) (vec : List (Option Value)) (S : WS) : List Value → Option RK
  | .int i :: .ref a :: r => cond (isA a 1 || isA a 2) (cond (inR i (alen a)) (k (pc + 1) vec (.int (S.1 a i.toNatClampNeg) :: r) S) none)
    (cond (Nat.blt a 200) none (cond ((Nat.beq a 1000010 || Nat.beq a 1000011) && inR i (lenS.getD (a - 1000010) 0)) (k (pc + 1) vec (.int ((bytS.getD (a - 1000010) []).getD i.toNatClampNeg 0) :: r) S) none))
  | _ => none
def kll (k : KT) (pc : Nat) (vec : List (Option Value)) (S : WS) : List Value → Option RK
  | .int i :: .ref a :: r => cond (isJ a) (cond (inR i (alen a)) (k (pc + 1) vec (.long (S.2.1 a i.toNatClampNeg) :: r) S) none) none
  | _ => none
def krl (k : KT) (pc : Nat) (vec : List (Option Value)) (S : WS) : List Value → Option RK
  | .int i :: .ref a :: r => cond (isF a && Nat.blt (shC a).2.1 2) (cond (inR i (alen a)) (k (pc + 1) vec (.ref (S.2.2 a i.toNatClampNeg) :: r) S) none) none
  | _ => none
def kas (t0 t1 : Nat) (k : KT) (pc : Nat) (vec : List (Option Value)) (S : WS) : List Value → Option RK
  | .int x :: .int i :: .ref a :: r => cond (isA a t0) (cond (inR i (alen a)) (k (pc + 1) vec r (uI S a i.toNatClampNeg (nar3 t0 x))) none) (cond (isA a t1) (cond (inR i (alen a)) (k (pc + 1) vec r (uI S a i.toNatClampNeg (nar3 t1 x))) none) none)
  | _ => none
def kls (k : KT) (pc : Nat) (vec : List (Option Value)) (S : WS) : List Value → Option RK
  | .long x :: .int i :: .ref a :: r => cond (isJ a) (cond (inR i (alen a)) (k (pc + 1) vec r (uL S a i.toNatClampNeg x)) none) none
  | _ => none
def krs (k : KT) (pc : Nat) (vec : List (Option Value)) (S : WS) : List Value → Option RK
  | .ref v :: .int i :: .ref a :: r => cond (isF a && ((Nat.beq (shC a).2.1 0 && isO v 6) || (Nat.beq (shC a).2.1 1 && isO v 3))) (cond (inR i (alen a)) (k (pc + 1) vec r (uR S a i.toNatClampNeg v)) none) none
  | _ => none
def kln (k : KT) (pc : Nat) (vec : List (Option Value)) (S : WS) : List Value → Option RK
  | .ref a :: r => cond (Nat.blt a 200) (cond ((Nat.beq (shC a).1 1 && Nat.blt (shC a).2.1 3) || (Nat.beq (shC a).1 2 || (Nat.beq (shC a).1 3 && Nat.blt (shC a).2.1 2))) (k (pc + 1) vec (.int (Int32.ofNat (alen a)) :: r) S) none)
    (cond (Nat.beq a 1000010 || Nat.beq a 1000011) (k (pc + 1) vec (.int (Int32.ofNat (lenS.getD (a - 1000010) 0)) :: r) S) none)
  | _ => none
def kcp (k : KT) (pc : Nat) (vec : List (Option Value)) (S : WS) : List Value → Option RK
  | .int n :: .int dp :: .ref b :: .int sp :: .ref a :: r => cond ((isA a 0 && isA b 0 || isA a 1 && isA b 1 && ((List.range (alen a)).map (S.1 a)).all (fun z => fits .byte (.int z))) && Nat.ble (r.map fun v => v.category).sum 8)
    (cond (!(decide (sp < 0)) && !(decide (dp < 0)) && !(decide (n < 0)) && Nat.ble (sp.toNatClampNeg + n.toNatClampNeg) (alen a) && Nat.ble (dp.toNatClampNeg + n.toNatClampNeg) (alen b))
      (k (pc + 3) vec r (uA S b (fun j => if dp.toNatClampNeg ≤ j ∧ j < dp.toNatClampNeg + n.toNatClampNeg then S.1 a (sp.toNatClampNeg + (j - dp.toNatClampNeg)) else S.1 b j))) none) none
  | _ => none
def kmx (mx : Bool) (k : KT) (pc : Nat) (vec : List (Option Value)) (S : WS) : List Value → Option RK
  | .int y :: .int x :: r => cond (Nat.ble (r.map fun v => v.category).sum 8) (k (pc + 3) vec (.int (bif mx then (if x < y then y else x) else (if y < x then y else x)) :: r) S) none
  | _ => none
def kld (k0 i sl : Nat) (k : KT) (pc n : Nat) (vec : List (Option Value)) (st : List Value) (S : WS) : Option RK := cond (Nat.beq k0 0) (k (pc + n) vec (.int (Int32.ofNat sl) :: st) S) (k (pc + n) vec (.ref (1000000 + i) :: st) S)
def kgs (k0 : Nat) (k : KT) (pc : Nat) (vec : List (Option Value)) (st : List Value) (S : WS) : Option RK := cond (Nat.beq k0 0) (k (pc + 3) vec (.int 1 :: st) S) (cond (Nat.beq k0 1) (k (pc + 3) vec (.retAddr 0 :: st) S) none)
/-- the answer's type -/
def rtN : Option FieldType → Nat
  | none => 0
  | some .int => 1
  | some .boolean => 2
  | some .long => 3
  | some (.object _) => 4
  | _ => 9
def krv (M : MD) (S : WS) : List Value → Option RK
  | [] => cond (Nat.beq (rtN (md_r M)) 0) (some (none, S)) none
  | _ => none
def kri (M : MD) (S : WS) : List Value → Option RK
  | [.int v] => cond (Nat.beq (rtN (md_r M)) 1) (some (some (.int v), S)) (cond (Nat.beq (rtN (md_r M)) 2) (cond (decide (v &&& 1 = v)) (some (some (.int v), S)) none) (match md_r M with
    | some ty => cond (decide (narrow ty (.int v) = .int v)) (some (some (.int v), S)) none
    | none => none))
  | _ => none
def krg (M : MD) (S : WS) : List Value → Option RK
  | [.long v] => cond (Nat.beq (rtN (md_r M)) 3) (some (some (.long v), S)) none
  | _ => none
def kra (M : MD) (S : WS) : List Value → Option RK
  | [.ref v] => cond (Nat.beq (rtN (md_r M)) 4) (some (some (.ref v), S)) none
  | _ => none
def rcK (b o : Nat) : Bool := cond (Nat.blt o 200) (Nat.beq (shC o).1 0 && (Nat.beq (shC o).2.1 (md_k (mdOf b)) && Nat.blt (shC o).2.1 13)) ((Nat.beq o 1000000 || Nat.beq o 1000001) && strB b)
abbrev EV' : Type := Nat → List Value → WS → Option RK
def kbd (k : KT) (pc : Nat) (vec : List (Option Value)) (rest : List Value) : Option RK → Option RK
  | some y => k pc vec (y.1.toList ++ rest) y.2
  | none => none
def kcv (ev : EV') (b np : Nat) (k : KT) (pc : Nat) (vec : List (Option Value)) (st : List Value) (S : WS) : Option RK := match st.drop np with
  | .ref o :: rest => cond (!(Nat.beq ((md_p (mdOf b)).getD 4 0) 1) && !(iniB b)) (cond (rcK b o) (cond (Nat.ble (rest.map fun v => v.category).sum 8) (kbd k (pc + 3) vec rest (ev b (.ref o :: (st.take np).reverse) S)) none) none) none
  | _ => none
def kcs (ev : EV') (k0 b np : Nat) (k : KT) (pc : Nat) (vec : List (Option Value)) (st : List Value) (S : WS) : Option RK := cond (Nat.blt k0 2 && Nat.beq ((md_p (mdOf b)).getD 4 0) 1 && Nat.ble np st.length && Nat.ble ((st.drop np).map fun v => v.category).sum 8) (kbd k (pc + 3) vec (st.drop np) (ev b (st.take np).reverse S)) none
def stepK (ev : EV') (M : MD) (x : IE) (pc : Nat) (vec : List (Option Value)) (st : List Value) (S : WS) (k : KT) : Option RK := match x with
  | (.iconst n, 1, _) => k (pc + 1) vec (.int (Int32.ofInt n) :: st) S
  | (.bipush n, 2, _) => k (pc + 2) vec (.int (Int8.ofInt n).toInt32 :: st) S
  | (.sipush n, 3, _) => k (pc + 3) vec (.int (Int16.ofInt n).toInt32 :: st) S
  | (.lconst n, 1, _) => k (pc + 1) vec (.long (Int64.ofNat (n : Nat)) :: st) S
  | (.iload_n i, 1, _) => kpu k (pc + 1) vec S (vldI vec i st)
  | (.iload i, 2, _) => kpu k (pc + 2) vec S (vldI vec i st)
  | (.lload_n i, 1, _) => kpu k (pc + 1) vec S (vldL vec i st)
  | (.lload i, 2, _) => kpu k (pc + 2) vec S (vldL vec i st)
  | (.aload_n i, 1, _) => kpu k (pc + 1) vec S (vldA vec i st)
  | (.aload i, 2, _) => kpu k (pc + 2) vec S (vldA vec i st)
  | (.istore_n i, 1, _) => ksI k (md_n M) (pc + 1) vec i S st
  | (.istore i, 2, _) => ksI k (md_n M) (pc + 2) vec i S st
  | (.lstore_n i, 1, _) => ksL k (md_n M) (pc + 1) vec i S st
  | (.lstore i, 2, _) => ksL k (md_n M) (pc + 2) vec i S st
  | (.astore_n i, 1, _) => ksA k (md_n M) (pc + 1) vec i S st
  | (.astore i, 2, _) => ksA k (md_n M) (pc + 2) vec i S st
  | (.iinc i n, 3, _) => kic k (md_n M) (pc + 3) vec i n st S
  | (.iadd, 1, _) => kpu k (pc + 1) vec S (b32 (fun x y => x + y) st)
  | (.isub, 1, _) => kpu k (pc + 1) vec S (b32 (fun x y => x - y) st)
  | (.imul, 1, _) => kpu k (pc + 1) vec S (b32 (fun x y => x * y) st)
  | (.iand, 1, _) => kpu k (pc + 1) vec S (b32 (fun x y => x &&& y) st)
  | (.ior, 1, _) => kpu k (pc + 1) vec S (b32 (fun x y => x ||| y) st)
  | (.ixor, 1, _) => kpu k (pc + 1) vec S (b32 (fun x y => x ^^^ y) st)
  | (.ishl, 1, _) => kpu k (pc + 1) vec S (b32 (fun x y => x <<< (y &&& 31)) st)
  | (.ishr, 1, _) => kpu k (pc + 1) vec S (b32 (fun x y => x >>> (y &&& 31)) st)
  | (.iushr, 1, _) => kpu k (pc + 1) vec S (b32 (fun x y => (x.toUInt32 >>> (y.toUInt32 &&& Int32.toUInt32 31)).toInt32) st)
  | (.idiv, 1, _) => kdv (fun x y => x / y) k (pc + 1) vec S st
  | (.irem, 1, _) => kdv (fun x y => x - x / y * y) k (pc + 1) vec S st
  | (.ineg, 1, _) => kpu k (pc + 1) vec S (u32 (fun x => -x) st)
  | (.i2b, 1, _) => kpu k (pc + 1) vec S (u32 (fun x => x.toInt8.toInt32) st)
  | (.i2c, 1, _) => kpu k (pc + 1) vec S (u32 (fun x => (x.toUInt32 % 65536).toInt32) st)
  | (.ladd, 1, _) => kpu k (pc + 1) vec S (b64 (fun x y => x + y) st)
  | (.lsub, 1, _) => kpu k (pc + 1) vec S (b64 (fun x y => x - y) st)
  | (.lmul, 1, _) => kpu k (pc + 1) vec S (b64 (fun x y => x * y) st)
  | (.lor, 1, _) => kpu k (pc + 1) vec S (b64 (fun x y => x ||| y) st)
  | (.lshl, 1, _) => kpu k (pc + 1) vec S (s64 (fun x y => x <<< (y.toInt64 &&& 63)) st)
  | (.lcmp, 1, _) => kpu k (pc + 1) vec S (c64 st)
  | (.i2l, 1, _) => kpu k (pc + 1) vec S (i2L st)
  | (.l2i, 1, _) => kpu k (pc + 1) vec S (l2I st)
  | (.dup, 1, _) => kpu k (pc + 1) vec S (dup1 st)
  | (.dup2, 1, _) => kpu k (pc + 1) vec S (dup2 st)
  | (.pop, 1, _) => kpu k (pc + 1) vec S (pop1 st)
  | (.goto off, 3, _) => ktg k pc off vec st S
  | (.ifCond cd off, 3, _) => kif cd off k pc vec S st
  | (.if_icmp cd off, 3, _) => kcm cd off k pc vec S st
  | (.tableswitch df lo hi offs, _, _) => ktw df lo hi offs k pc vec S st
  | (.getfield _, 3, k0, ci, sl, _) => kgf k0 ci sl k pc vec S st
  | (.putfield _, 3, k0, ci, sl, _) => kpf M k0 ci sl k pc vec S st
  | (.iaload, 1, _) => kal 0 k pc vec S st
  | (.baload, 1, _) => kbl k pc vec S st
  | (.laload, 1, _) => kll k pc vec S st
  | (.aaload, 1, _) => krl k pc vec S st
  | (.iastore, 1, _) => kas 0 0 k pc vec S st
  | (.bastore, 1, _) => kas 1 2 k pc vec S st
  | (.lastore, 1, _) => kls k pc vec S st
  | (.aastore, 1, _) => krs k pc vec S st
  | (.arraylength, 1, _) => kln k pc vec S st
  | (.ldc _, 2, k0, i, sl, _) => kld k0 i sl k pc 2 vec st S
  | (.ldc_w _, 3, _, _, sl, _) => k (pc + 3) vec (.int (Int32.ofNat sl) :: st) S
  | (.ldc2_w _, 3, _, _, sl, _) => k (pc + 3) vec (.long (Int64.ofNat sl) :: st) S
  | (.getstatic _, 3, k0, _, _, _) => kgs k0 k pc vec st S
  | (.invokestatic _, 3, 3, _) => kcp k pc vec S st
  | (.invokestatic _, 3, 4, _) => kmx true k pc vec S st
  | (.invokestatic _, 3, 5, _) => kmx false k pc vec S st
  | (.return_, 1, _) => krv M S st
  | (.ireturn, 1, _) => kri M S st
  | (.lreturn, 1, _) => krg M S st
  | (.areturn, 1, _) => kra M S st
  | (.invokevirtual _, 3, _, b, _, _) => kcv ev b ((md_p (mdOf b)).getD 5 0) k pc vec st S
  | (.invokestatic _, 3, k0, b, _, _) => kcs ev k0 b ((md_p (mdOf b)).getD 5 0) k pc vec st S
  | _ => none
noncomputable def evK (ev : EV') (M : MD) (n : Nat) : KT :=
  Nat.rec (fun _ _ _ _ => none) (fun _ ih pc vec st S => match md_i M pc with
    | none => none
    | some x => stepK ev M x pc vec st S ih) n
def vec0 (n : Nat) (av : List Value) : List (Option Value) := (List.range n).map (fun i => lvget (lv_args 0 av) i)
noncomputable def evSM (fu : Nat) (d : Nat) : EV' :=
  Nat.rec (fun _ _ _ => none) (fun _ ih b av S => bif Nat.ble (lg_sl av).length (md_n (mdOf b)) then evK ih (mdOf b) fu 0 (vec0 (md_n (mdOf b)) av) [] S else none) d
theorem evK_s {ev : EV'} {M : MD} (n pc : Nat) (vec : List (Option Value)) (st : List Value) (S : WS) : evK ev M (n + 1) pc vec st S = (match md_i M pc with
    | none => none
    | some x => stepK ev M x pc vec st S (evK ev M n)) := rfl
theorem evSM_s (fu d b : Nat) (av : List Value) (S : WS) : evSM fu (d + 1) b av S = (bif Nat.ble (lg_sl av).length (md_n (mdOf b)) then evK (evSM fu d) (mdOf b) fu 0 (vec0 (md_n (mdOf b)) av) [] S else none) := rfl
end
