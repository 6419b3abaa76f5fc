/-! hold and restore, on both sides -/
def mdCp : MDs := [(24, 0), (24, 1), (24, 2), (24, 3), (24, 4), (24, 5), (25, 1000), (27, 1000)]
def mdH3 : MDs := [(32, 1000), (97, 1000), (98, 1000)]
def alK : MDs := [(3, 1), (4, 1000), (4, 1001), (47, 2), (48, 1000), (48, 1001), (5, 1000), (5, 1001), (54, 1000), (54, 1001)]
section SLV
variable {x y d k : Nat} {T T' : TZ} {S S' S0 : WS} {x1 : Int32} {md : MDs}
theorem alk_2 (hxy : XY x y) (hB : (alK.all (fun q => !(mdF md q.1 q.2)) && nzR ctyC md) = true) (hU : UPD md (wS x y T) S') (hR : RLS (wS x y T)) (h5 : ∀ s, s < 3 → S'.1 44 s = S'.1 198 s) : ALK (WD S') := by
  simp only [Bool.and_eq_true] at hB
  have hm : ∀ q ∈ alK, mdF md q.1 q.2 = false := fun q hq => mfl hB.1 hq
  have hn : WD S' = WD (wS x y (S'.1, S'.2.1)) := nz (E := EC) (md := md) hB.2 hU.2
  have e21 : S'.1 2 1 = T.1 2 1 := by
    have h3 := hU.2.2.1 2 1 (hm (3, 1) (by simp [alK]))
    rw [fa_o (c := 2) (j := 1) rfl rfl (by decide) rfl, fa_o (c := 2) (j := 1) rfl rfl (by decide) rfl] at h3
    injection h3 with h3
    injection h3
  have e148 : S'.1 148 2 = T.1 148 2 := up_fl hU rfl rfl (hm (47, 2) (by simp [alK]))
  obtain ⟨a1, a2, ⟨a3, a4, a5⟩, a6, a7⟩ := hR
  refine ⟨x, y, (S'.1, S'.2.1), hn, hxy, ⟨fun i hi => ?_, fun i hi => ?_, ⟨?_, ?_, ?_⟩, fun i hi h2 => ?_, h5⟩⟩
  · show (S'.2.1 4 i).toInt = _
    rw [up_ll (t := 0) (n := 18) (c := 4) hU rfl rfl (hm (5, 1000) (by simp [alK])) (hm (5, 1001) (by simp [alK])) hi]
    exact a1 i hi
  · show (S'.2.1 155 i).toInt = _
    rw [up_ll (t := 0) (n := 18) (c := 155) hU rfl rfl (hm (54, 1000) (by simp [alK])) (hm (54, 1001) (by simp [alK])) hi]
    exact a2 i hi
  · show S'.1 2 1 = S'.1 148 2
    rw [e21, e148]
    exact a3
  · show 0 ≤ (S'.1 2 1).toInt
    rw [e21]
    exact a4
  · show (S'.1 2 1).toInt ≤ 2000
    rw [e21]
    exact a5
  · have h2 : (i : Int) < (S'.1 2 1).toInt := h2
    rw [e21] at h2
    show S'.1 3 i = S'.1 149 i
    rw [up_er (t := 1) (n := 2000) (c := 3) hU rfl rfl (hm (4, 1000) (by simp [alK])) (hm (4, 1001) (by simp [alK])) hi, up_er (t := 1) (n := 2000) (c := 149) hU rfl rfl (hm (48, 1000) (by simp [alK])) (hm (48, 1001) (by simp [alK])) hi]
    exact a6 i hi h2
theorem nn2 {a b : Nat} : nnS [Value.ref a, Value.ref b] := fun q => by simp at q
theorem cp78 (hw : wok EC (WD (wS x y T))) (hJ : JC (WD (wS x y T))) (hk : k < 3) : ∃ S1, RX 1 78 [.ref (105 + 4 * k), .ref 36] (wS x y T) = some (none, S1) ∧ UPD mdCp (wS x y T) S1 ∧ JC (WD S1) := by
  have hc : EC.1 (105 + 4 * k) = 24 := by
    match k, hk with
    | 0, _ => rfl
    | 1, _ => rfl
    | 2, _ => rfl
  obtain ⟨r, S1, q1, q2, q3, q4, o, o1, o2, -⟩ := mex_RX (by decide +kernel) nn2 (s_X6_copyFrom (105 + 4 * k) [.ref (105 + 4 * k), .ref 36] (WD (wS x y T)) hc (by decide) hw hJ ⟨rfl, ⟨36, rfl, rfl, by decide⟩, trivial⟩ nof noe)
  have o1 := List.mem_singleton.mp o1
  subst o1
  have o2 := gvo_n o2
  subst o2
  exact ⟨S1, q1, up_le (md := c_X6_copyFrom.2.2.2.1) rfl ⟨q2, q4⟩, q3⟩
theorem cp35 (hw : wok EC (WD (wS x y T))) (hJ : JC (WD (wS x y T))) (hk : k < 3) : ∃ S1, RX 1 35 [.ref (107 + 4 * k), .ref 38, .int (T.1 36 0)] (wS x y T) = some (none, S1) ∧ UPD mdCp (wS x y T) S1 ∧ JC (WD S1) := by
  have hc : EC.1 (107 + 4 * k) = 26 := by
    match k, hk with
    | 0, _ => rfl
    | 1, _ => rfl
    | 2, _ => rfl
  have h36 : 0 ≤ (T.1 36 0).toInt ∧ (T.1 36 0).toInt ≤ 600 := by
    obtain ⟨e, e1, e2⟩ := hw.2 36 (by decide)
    have e2 : okE EC 36 (dclC 24) e := e2
    obtain ⟨fl, rfl, f2, f3⟩ := e2
    obtain ⟨v, v1, z, rfl, z2, z3⟩ := f3 0 (.inl (0, 600)) rfl
    have h5 := fa_o (c := 36) (j := 0) (S := wS x y T) rfl rfl (by decide) rfl
    unfold fa at h5
    rw [e1] at h5
    have h5 : some (Value.int z) = some (.int (T.1 36 0)) := v1.symm.trans h5
    have h5 : z = T.1 36 0 := by injection h5 with h5; injection h5
    rw [← h5]
    exact ⟨z2, z3⟩
  obtain ⟨r, S1, q1, q2, q3, q4, o, o1, o2, -⟩ := mex_RX (by decide +kernel) (fun q => by simp at q) (s_cp35 (107 + 4 * k) [.ref (107 + 4 * k), .ref 38, .int (T.1 36 0)] (WD (wS x y T)) hc (by decide) hw hJ ⟨rfl, ⟨38, rfl, rfl, by decide⟩, ⟨_, rfl, h36.1, h36.2⟩, trivial⟩ nof noe)
  have o1 := List.mem_singleton.mp o1
  subst o1
  have o2 := gvo_n o2
  subst o2
  exact ⟨S1, q1, up_le (md := c_cp35.2.2.2.1) rfl ⟨q2, q4⟩, q3⟩
theorem nzU (hn : nzR EC.1 md = true) (hU : UPD md (wS x y T) S') : WD S' = WD (wS x y (S'.1, S'.2.1)) ∧ UPD md (wS x y T) (wS x y (S'.1, S'.2.1)) := by
  have h := nz (E := EC) (md := md) hn hU.2
  exact ⟨h, by rw [← h]; exact hU.1, by rw [← h]; exact hU.2⟩
theorem rcK78 (hk : k < 3) : rcK 78 (105 + 4 * k) = true := by
  match k, hk with
  | 0, _ => rfl
  | 1, _ => rfl
  | 2, _ => rfl
theorem rcK35 (hk : k < 3) : rcK 35 (107 + 4 * k) = true := by
  match k, hk with
  | 0, _ => rfl
  | 1, _ => rfl
  | 2, _ => rfl
theorem fs_x (hw : wok EC (WD (wS x y T))) (hJ : JC (WD (wS x y T))) (h1 : x1.toInt = (k : Int)) (hk : k < 3) : ∃ S4 T2, RX 2 50 [.ref 40, .int x1, .ref 36, .ref 38] (wS x y T) = some (none, S4) ∧ WD S4 = WD (wS x y (zI T2 44 k 1)) ∧ UPD mdCp (wS x y T) (wS x y T2) := by
  have hnz : nzR EC.1 mdCp = true := by decide +kernel
  obtain ⟨S1, a1, aU, aJ⟩ := cp78 hw hJ hk
  obtain ⟨n1, U1⟩ := nzU hnz aU
  generalize (S1.1, S1.2.1) = T1 at n1 U1
  obtain ⟨S2, b1, bU, bJ⟩ := cp35 (x := x) (y := y) (T := T1) U1.1 (by rw [← n1]; exact aJ) hk
  obtain ⟨n2, U2⟩ := nzU hnz bU
  generalize (S2.1, S2.2.1) = T2 at n2 U2
  have hi : inR x1 3 = true := inR_of (by omega) (by omega)
  have ht : x1.toNatClampNeg = k := tnc h1
  have hLR : LR (md_n (mdOf 50)) [(0, .ref 40), (1, .int x1), (2, .ref 36), (3, .ref 38)] [some (.ref 40), some (.int x1), some (.ref 36), some (.ref 38)] := ⟨by show ([0, 1, 2, 3] : List Nat).Nodup; decide, rfl, fun j => by
      match j with
      | 0 => rfl
      | 1 => rfl
      | 2 => rfl
      | 3 => rfl
      | j + 4 => rfl⟩
  have hnn : nnV [some (.ref 40), some (.int x1), some (.ref 36), some (.ref 38)] := fun j => by
      match j with
      | 0 => intro q; cases q
      | 1 => intro q; cases q
      | 2 => intro q; cases q
      | 3 => intro q; cases q
      | j + 4 => intro q; cases q
  have hA : limK (RX 1) (mdOf 50) 33 [some (.ref 40), some (.int x1), some (.ref 36), some (.ref 38)] [] (wS x y T2) = some (none, wS x y (zI T2 44 k 1)) := by
    rw [q_X4_fillSlot_33, hi, cond_true, q_X4_fillSlot_40, ht]
    rfl
  obtain ⟨S3, c1, c2⟩ := lim_wd (by decide +kernel) hLR hnn (fun q => by cases q) hA n2.symm
  have hB : limK (RX 1) (mdOf 50) 19 [some (.ref 40), some (.int x1), some (.ref 36), some (.ref 38)] [] (wS x y T1) = some (none, S3) := by
    rw [q_X4_fillSlot_19, hi, cond_true, ht, rcK35 hk, cond_true, b1]
    exact c1
  obtain ⟨S4, d1, d2⟩ := lim_wd (by decide +kernel) hLR hnn (fun q => by cases q) hB n1.symm
  refine ⟨S4, T2, ?_, d2.trans c2, up_t U1 U2⟩
  rw [e_X4_fillSlot, q_X4_fillSlot_0, lt_f (show (0 : Int32).toInt ≤ x1.toInt by rw [h1]; show (0 : Int) ≤ k; omega), cond_false, ge_f (show x1.toInt < (3 : Int32).toInt by rw [h1]; show (k : Int) < 3; omega), cond_false, hi, cond_true, ht, rcK78 hk, cond_true, a1]
  exact d1
theorem q27 (ev : EV') (o1 : Option Value) (S : WS) : limK ev (mdOf 186) 27 [some (.ref 0), o1] [] S = some (some (.int (1 : Int32)), S) := (blk_lim ev (mdOf 186) st_X11_hold 2 true 27 _ _ _).symm.trans rfl
theorem q38 (ev : EV') (o1 : Option Value) (S : WS) : limK ev (mdOf 187) 38 [some (.ref 0), o1] [] S = some (some (.int (1 : Int32)), S) := (blk_lim ev (mdOf 187) st_X11_restore 2 true 38 _ _ _).symm.trans rfl
theorem q38v (ev : EV') (o1 : Option Value) (v : Value) (S : WS) : limK ev (mdOf 187) 38 [some (.ref 0), o1] [v] S = none := (blk_lim ev (mdOf 187) st_X11_restore 2 true 38 _ _ _).symm.trans rfl
theorem hold_l (hxy : XY x y) (hw : wok EC (WD (wS x y T))) (hJ : JC (WD (wS x y T))) (hR : RLS (wS x y T)) : ∃ (r1 r2 : Int32) (S1 Sx S2 : WS), RX 60 186 [.ref 0, .int x1] (wS x y T) = some (some (.int r1), S1) ∧ WD S1 = WD Sx ∧ RX 60 306 [.ref 148, .int x1] Sx = some (some (.int r2), S2) ∧ ALK (WD S2) := by
  have hz : (0 : Int32).toInt = 0 := rfl
  have h2 : (2 : Int32).toInt = 2 := rfl
  have h3 : (3 : Int32).toInt = 3 := rfl
  by_cases h1 : 0 ≤ x1.toInt ∧ x1.toInt ≤ 2
  · obtain ⟨k, hk⟩ : ∃ k : Nat, x1.toInt = (k : Int) := ⟨x1.toInt.toNat, by omega⟩
    obtain ⟨S4, T2, a1, a2, aU⟩ := fs_x hw hJ hk (by omega)
    have hRx : RLS (wS x y T2) := rls_md (md := mdCp) (by decide +kernel) aU hR
    have hU0 : UPD mdH3 (wS x y T2) (wS x y (zI T2 44 k 1)) := show UPD mdH3 (wS x y T2) (uI (wS x y T2) 44 k 1) from up_a (t := 2) (n := 3) (up_r aU.1) rfl rfl rfl (.inl rfl) (show (0 : Int) ≤ (1 : Int32).toInt ∧ (1 : Int32).toInt ≤ 1 from ⟨by decide, by decide⟩)
    have hU1 : UPD mdH3 (wS x y T2) (uI (wS x y (zI T2 44 k 1)) 198 k 1) := up_a (t := 2) (n := 3) hU0 rfl rfl rfl (.inl rfl) (show (0 : Int) ≤ (1 : Int32).toInt ∧ (1 : Int32).toInt ≤ 1 from ⟨by decide, by decide⟩)
    obtain ⟨S', q1, q2, q3, -, -⟩ := hold_20 (S0 := uI (wS x y (zI T2 44 k 1)) 198 k 1) (d := 59) x1 hk (by omega) _ 0 0 _ (up_r hU1.1) rfl (Nat.le_refl _) (by omega) (fun h => by omega)
    have hU2 : UPD mdH3 (wS x y T2) S' := up_t hU1 (up_le rfl q2)
    refine ⟨1, 1, S4, wS x y (zI T2 44 k 1), S', ?_, a2, ?_, alk_2 (md := mdH3) hxy (by decide +kernel) hU2 hRx (fun s hs => ?_)⟩
    · rw [e_X11_hold, q_X11_hold_0 (hx := xyx hxy), lt_f (by omega), cond_false, lt_t (by omega), cond_true, RX_le (d' := 59) (by decide) a1]
      exact q27 _ _ _
    · rw [e_X12_hold, q_X12_hold_0, in_rx, hz, h2, if_pos h1]
      show limK (RX 59) (mdOf 306) 6 _ [.int 1] _ = _
      rw [q_X12_hold_6, show cmpB .ne (1 : Int32) 0 = true from rfl, cond_true, inR_of (n := 3) (by omega) (by omega), cond_true, tnc hk]
      exact q1
    · rw [q3 s, up_er (t := 2) (n := 3) (c := 44) q2 rfl rfl rfl rfl hs, uI_ne _ _ _ _ (by decide)]
      show (zI T2 44 k 1).1 44 s = _
      by_cases e : s = k
      · rw [e, zI_i, uI_i]
      · rw [zI_j _ e, uI_j _ e]
        show _ = (zI T2 44 k 1).1 198 s
        rw [zI_ne _ (by decide)]
        exact hRx.2.2.2.2 s hs
  · refine ⟨0, 0, wS x y T, wS x y T, wS x y T, ?_, rfl, ?_, rl_i (T := T) hxy rfl hR⟩
    · rw [e_X11_hold, q_X11_hold_0 (hx := xyx hxy), q_X11_hold_9 (hx := xyx hxy)]
      rcases c_lt x1 0 with ⟨b1, b2⟩ | ⟨b1, b2⟩
      · rw [b1, cond_true]
      · rw [b1, cond_false, lt_f (by omega), cond_false]
    · rw [e_X12_hold, q_X12_hold_0, in_rx, hz, h2, if_neg h1]
      show limK (RX 59) (mdOf 306) 6 _ [.int 0] _ = _
      rw [q_X12_hold_6, show cmpB .ne (0 : Int32) 0 = false from rfl, cond_false]
/-- restored on one side as on the other -/
theorem restore_l (hxy : XY x y) (hw : wok EC (WD (wS x y T))) (hJ : JC (WD (wS x y T))) (hR : RLS (wS x y T)) : ∃ (r : Int32) (S1 S2 : WS), RX 60 187 [.ref 0, .int x1] (wS x y T) = some (some (.int r), S1) ∧ RX 60 307 [.ref 148, .int x1] S1 = some (some (.int r), S2) ∧ ALK (WD S2) := by
  have hz : (0 : Int32).toInt = 0 := rfl
  have h2 : (2 : Int32).toInt = 2 := rfl
  have h3 : (3 : Int32).toInt = 3 := rfl
  by_cases h1 : 0 ≤ x1.toInt ∧ x1.toInt ≤ 2
  · obtain ⟨k, hk⟩ : ∃ k : Nat, x1.toInt = (k : Int) := ⟨x1.toInt.toNat, by omega⟩
    have hi : inR x1 3 = true := inR_of (by omega) (by omega)
    have h44 : T.1 44 k = T.1 198 k := hR.2.2.2.2 k (by omega)
    have hcl : RX 60 187 [.ref 0, .int x1] (wS x y T) = kbd (limK (RX 59) (mdOf 187)) 17 [some (.ref 0), some (.int x1)] [] (RX 59 48 [.ref 40, .int x1] (wS x y T)) := by
      rw [e_X11_restore, q_X11_restore_0 (hx := xyx hxy), lt_f (by omega), cond_false, ge_f (by omega), cond_false]
    have h48 : RX 59 48 [.ref 40, .int x1] (wS x y T) = some (some (.int (cond (cmpB .eq (T.1 44 k) 0) 0 1)), wS x y T) := by
      rw [e_X4_isHeld, q_X4_isHeld_0, lt_f (by omega), cond_false, ge_f (by omega), cond_false, hi, cond_true, tnc hk, q_X4_isHeld_22, q_X4_isHeld_23, q_X4_isHeld_23]
      cases cmpB .eq (T.1 44 k) 0 <;> rfl
    have hrf : ∀ S : WS, RX 60 307 [.ref 148, .int x1] S = cond (cmpB .ne (S.1 198 k) 0) (limK (RX 59) (mdOf 307) 22 [some (.ref 148), some (.int x1), some (.int (0 : Int32))] [] S) (some (some (.int 0), S)) := fun S => by
      rw [e_X12_restore, q_X12_restore_0, in_rx, hz, h2, if_pos h1]
      show limK (RX 59) (mdOf 307) 6 _ [.int 1] _ = _
      rw [q_X12_restore_6, show cmpB .eq (1 : Int32) 0 = false from rfl, cond_false, hi, cond_true, tnc hk, q_X12_restore_18]
    rcases c_eq (T.1 44 k) 0 with ⟨b1, b2⟩ | ⟨b1, b2⟩
    · refine ⟨0, wS x y T, wS x y T, ?_, ?_, rl_i (T := T) hxy rfl hR⟩
      · rw [hcl, h48, b1, cond_true]
        show limK (RX 59) (mdOf 187) 17 _ [.int 0] _ = _
        rw [q_X11_restore_17 (hx := xyx hxy), show cmpB .ne (0 : Int32) 0 = false from rfl, cond_false, q_X11_restore_20 (hx := xyx hxy)]
      · rw [hrf, show cmpB .ne ((wS x y T).1 198 k) 0 = false from ne_f (show (T.1 198 k).toInt = (0 : Int32).toInt by rw [← h44]; exact b2), cond_false]
    · obtain ⟨r0, Sf, q1, q2, q3, q4, -⟩ := mex_RX (by decide +kernel) (fun q => by simp at q) (s_X11_restore 0 [.ref 0, .int x1] (WD (wS x y T)) rfl (by decide) hw hJ ⟨rfl, ⟨x1, rfl, (r32 x1).1, (r32 x1).2⟩, trivial⟩ nof noe)
      have q1 := RX_le (d' := 60) (by decide) q1
      have hU : UPD c_X11_restore.2.2.2.1 (wS x y T) Sf := ⟨q2, q4⟩
      have hone : r0 = some (.int 1) := by
        rw [hcl, h48, b1, cond_false] at q1
        have q1 : limK (RX 59) (mdOf 187) 17 [some (.ref 0), some (.int x1)] [.int 1] (wS x y T) = some (r0, Sf) := q1
        rw [q_X11_restore_17 (hx := xyx hxy), show cmpB .ne (1 : Int32) 0 = true from rfl, cond_true] at q1
        cases h51 : RX 59 51 [.ref 40, .int x1, .ref 36, .ref 38] (wS x y T) with
        | none => rw [h51] at q1; cases q1
        | some z =>
          obtain ⟨z1, z2⟩ := z
          rw [h51] at q1
          cases z1 with
          | none =>
            have q1 : limK (RX 59) (mdOf 187) 38 [some (.ref 0), some (.int x1)] [] z2 = some (r0, Sf) := q1
            rw [q38] at q1
            cases q1
            rfl
          | some v =>
            have q1 : limK (RX 59) (mdOf 187) 38 [some (.ref 0), some (.int x1)] [v] z2 = some (r0, Sf) := q1
            rw [q38v] at q1
            cases q1
      subst hone
      have hA : ALK (WD Sf) := alk_md (md := c_X11_restore.2.2.2.1) (by decide +kernel) q2 (by rw [q4.1]; exact wd_len) q4 ⟨x, y, T, rfl, hxy, hR⟩
      have e198 : Sf.1 198 k = T.1 198 k := up_er (t := 2) (n := 3) (c := 198) hU rfl rfl rfl rfl (by omega)
      obtain ⟨S', m1, m2, -, -⟩ := restore_22 (S0 := Sf) (d := 59) x1 hk (by omega) _ 0 0 Sf (up_r q2) rfl (Nat.le_refl _) (by omega) (fun h => by omega)
      refine ⟨1, Sf, S', q1, ?_, alk_md (md := mdRe) (by decide +kernel) m2.1 (by rw [m2.2.1]; exact wd_len) m2.2 hA⟩
      rw [hrf, e198, ← h44, show cmpB .ne (T.1 44 k) 0 = true from ne_t b2, cond_true]
      exact m1
  · refine ⟨0, wS x y T, wS x y T, ?_, ?_, rl_i (T := T) hxy rfl hR⟩
    · rw [e_X11_restore, q_X11_restore_0 (hx := xyx hxy), q_X11_restore_20 (hx := xyx hxy)]
      rcases c_lt x1 0 with ⟨b1, b2⟩ | ⟨b1, b2⟩
      · rw [b1, cond_true]
      · rw [b1, cond_false, ge_t (by omega), cond_true]
    · rw [e_X12_restore, q_X12_restore_0, in_rx, hz, h2, if_neg h1]
      show limK (RX 59) (mdOf 307) 6 _ [.int 0] _ = _
      rw [q_X12_restore_6, show cmpB .eq (0 : Int32) 0 = true from rfl, cond_true, q_X12_restore_18]
end SLV
