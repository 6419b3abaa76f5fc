section
/-! a whole sum on both sides -/
section EXP5
variable {x y d dm t E L0 c0 w w0 n nC nR e j D : Nat} {T T' T1 T2 : TZ} {S S' S1 S2 S0 : WS} {k m x1 : Int32} {p : List Int} {F F' : Nat → Int} {q kk : Int}
theorem expr_l (hy : y = 10 ∨ y = 23) (hC : CU T S E t) (ho : opS' S = 0) (hc0 : cdS S = (c0 : Int)) (hcap : (c0 : Int) ≤ 420 + tkS S) (hL0 : (T.1 (y + 9) 1).toInt = (L0 : Int)) (hL : L0 + 1 ≤ t) :
    (∃ T' S' t', RX (D + 23) 64 [.ref 1, .int 0] (wS x y T) = some (some (.int 1), wS x y T') ∧ RX (d + 4) 226 [.ref 148] S = some (none, S') ∧ CU T' S' E t' ∧ t + 1 ≤ t' ∧ CRl T' S' y L0 c0 [] ∧ FXc y L0 T T' ∧ XP S c0 0 S' ∧ VJ c0 S') ∨
    (∃ T' S', RX (D + 23) 64 [.ref 1, .int 0] (wS x y T) = some (some (.int 0), wS x y T') ∧ RX (d + 4) 226 [.ref 148] S = some (none, S') ∧ FXc y L0 T T' ∧ (T'.1 1 5).toInt ≠ 0 ∧ ftS S' ≠ 0) := by
  have hw := hC.2.2.2.2.2.2.2
  have ht := hC.2.2.2.1
  have hf := hC.2.2.2.2.2.1
  have h12 : S.1 148 12 = 0 := Int32.toInt_inj.mp ho
  have e0 : (0 : Int32).toInt = 0 := rfl
  have hX : XI S c0 0 0 0 0 (uI S 148 48 0) 0 := by
    refine ⟨up_f (up_r hw) rfl rfl rfl rfl rfl ⟨by decide, by decide⟩, ?_, trivial, ?_, by show (c0 : Int) ≤ cdS S; omega, ?_, Int.le_refl _, ?_, fun _ _ => ⟨rfl, rfl⟩⟩
    · show ((uI S 148 48 0).1 148 48).toInt = _
      rw [uI_i]; rfl
    · show opS' S = (0 : Int32).toInt + (0 : Nat) + 0
      omega
    · show cdS S + (0 : Nat) - (c0 : Nat) ≤ tkS S - tkS S + 0
      omega
    · show vr (cdF S) (ciF S) (cdS S - c0).toNat c0 0 (0 + 0)
      rw [hc0, Int.sub_self]
      rfl
  have hC1 : CU T (uI S 148 48 0) E t := cu_o hC hX.1.1 (by decide) (fun _ => by decide)
  have hR : CRl T (uI S 148 48 0) y L0 c0 [] := cr_o ⟨0, 0, hL0, hc0, rfl⟩ (by decide)
  have hJ : VJ c0 (uI S 148 48 0) := vj_u ⟨0, by
    rw [hc0, Int.sub_self]
    rfl⟩ (by decide)
  have hr : RX (d + 4) 226 [.ref 148] S = lE d 23 0 (some (.int 1)) [] (uI S 148 48 0) := by
    rw [e_X12_expression, q_X12_expression_0, h12, q_X12_expression_12, show cmpB .eq (1 : Int32) 0 = false from rfl, cond_false]
    have e : (uI S 148 48 0).1 148 13 = S.1 148 13 := uI_j _ (by decide)
    rw [e, ne_f (show (S.1 148 13).toInt = (0 : Int32).toInt from hf), cond_false]
  obtain ⟨SX, g1, g2⟩ := expression_rx (d := d) hw (by omega) (fun _ => by omega)
  have hcn : (cdS S).toNat = c0 := by omega
  rw [hcn, h12] at g2
  have hD : D + 3 * 6 + 5 = D + 23 := by omega
  have h := all_l (x := x) (d := d) (E := E) hy (S0 := S) hcap (by omega) 6 D 0 t 0 T (uI S 148 48 0) (some (.int 1)) 0 rfl rfl hC1 hX rfl hR hJ rfl
  rw [hD] at h
  rcases h with ⟨T3, S3, t3, o3, w3, p3, i1, i2, i3, i4, i5, i6, i7, i8, i9, i10, iJ⟩ | ⟨T3, S3, i1, i2, i3, i4, i5⟩
  · have hkr := (i3.1.2.1 t3 i3.2.1).1
    obtain ⟨k1, k2, k3, k4⟩ := i10
    have m1 : (S3.1 151 t3).toInt ≠ 10 := fun z => k1 ((kr_iff hkr (a := 42) (b := 10) (by decide)).mpr z)
    have m2 : (S3.1 151 t3).toInt ≠ 15 := fun z => k2 ((kr_iff hkr (a := 47) (b := 15) (by decide)).mpr z)
    have m3 : (S3.1 151 t3).toInt ≠ 8 := fun z => k3 ((kr_iff hkr (a := 43) (b := 8) (by decide)).mpr z)
    have m4 : (S3.1 151 t3).toInt ≠ 9 := fun z => k4 ((kr_iff hkr (a := 45) (b := 9) (by decide)).mpr z)
    have hnp : npn (waF S3) w3 = 0 := by
      rcases i6 with ⟨z, -⟩ | ⟨z, z1, -⟩ | ⟨z, z1, z2, -⟩
      · rw [z]; rfl
      · rw [z, npn_s _ 0, if_neg (by omega)]
        rfl
      · have z2 : waF S3 1 = 10 ∨ waF S3 1 = 15 := z2
        rw [z, show 0 + 2 = 1 + 1 from rfl, npn_s _ 1, if_neg (by omega), npn_s _ 0, if_neg (by omega)]
        rfl
    have hop : opS' S3 ≤ (0 : Int32).toInt := by
      have := i5.2.2.2.1
      omega
    obtain ⟨S4, c1, c2, c3, c4⟩ := co0_l (d := d + 1) i5 (by omega) hcap rfl i6
    refine .inl ⟨T3, S4, t3, i1, ?_, cu_em i3 c2 c3.1.1, i4, cr_em0 i8 c2, i9, ?_, vj_em iJ c4 (by have := c2.2.2.1; omega) i5.2.2.2.2.1 c3.2.2.2.2.2.2.2.1⟩
    · rw [hr, i2, r96_145 i3 (.inr hop), r145_0 i3 m3 m4 m1 m2, r186_0 hop, c1]
      exact q_X12_expression_209 _ _ _ _
    · have hr4 : RX (d + 4) 226 [.ref 148] S = some (none, S4) := by
        rw [hr, i2, r96_145 i3 (.inr hop), r145_0 i3 m3 m4 m1 m2, r186_0 hop, c1]
        exact q_X12_expression_209 _ _ _ _
      have e := rk_inj hr4 g1
      simp only at e
      rw [e]
      exact g2
  · exact .inr ⟨T3, S3, i1, by rw [hr]; exact i2, i3, i4, i5⟩
end EXP5
end
section
/-! a LAW on both sides -/
/-- branch b of the reference stands in the class's codes from p to p' -/
def BRl (T : TZ) (S : WS) (y p b p' : Nat) : Prop :=
  (teF S b ≤ cdS S) ∧
  (htF S b = 0 → ∃ a n : Nat, ttF S b = (a : Int) ∧ teF S b = ((a + n : Nat) : Int) ∧ p' = p + n + 1 ∧ cl (Fc T y) p (n + 1) = cl (Fr S) a n ++ [-6] ∧ vrb (cdF S) (ciF S) n a 0 1) ∧
  (htF S b ≠ 0 → ∃ a n1 n2 n3 : Nat, tfF S b = (a : Int) ∧ tmF S b = ((a + n1 : Nat) : Int) ∧ ttF S b = ((a + n1 + n2 : Nat) : Int) ∧ teF S b = ((a + n1 + n2 + n3 : Nat) : Int) ∧ p' = p + n1 + n2 + 2 + n3 + 1 ∧
    cl (Fc T y) p n1 = cl (Fr S) a n1 ∧ cl (Fc T y) (p + n1) n2 = cl (Fr S) (a + n1) n2 ∧ Fc T y (p + n1 + n2) = -5 ∧ Fc T y (p + n1 + n2 + 1) = (p' : Int) ∧ cl (Fc T y) (p + n1 + n2 + 2) n3 = cl (Fr S) (a + n1 + n2) n3 ∧ Fc T y (p + n1 + n2 + 2 + n3) = -6 ∧ vrb (cdF S) (ciF S) n1 a 0 1 ∧ vrb (cdF S) (ciF S) n2 (a + n1) 0 1 ∧ vrb (cdF S) (ciF S) n3 (a + n1 + n2) 0 1)
def LWl (T : TZ) (S : WS) (y b0 : Nat) : Nat → Nat → Nat → Prop
  | 0, p, p' => p = p'
  | k + 1, p, p' => ∃ pm, LWl T S y b0 k p pm ∧ pm ≤ p' ∧ BRl T S y pm (b0 + k) p' ∧ htF S (b0 + k) ≠ 0
/-- the LAW of branches b0 to b0 + k -/
def LAW (T : TZ) (S : WS) (y b0 k p p' : Nat) : Prop := ∃ pm, LWl T S y b0 k p pm ∧ pm ≤ p' ∧ BRl T S y pm (b0 + k) p' ∧ htF S (b0 + k) = 0
section LAWL
variable {x y d dm t E L0 c0 w w0 n n0 nC nR e j D a b0 : Nat} {T T' T1 T2 : TZ} {S S' S1 S2 S0 : WS} {k m x1 : Int32} {p p' : Nat} {F F' : Nat → Int} {l : Int}
theorem kc_fr (h : KC S S') (j : Nat) (hj : (j : Int) < cdS S) : Fr S' j = Fr S j := by
  show trC (cdF S' j) (ciF S' j) = _
  rw [(h.2 j (.inl hj)).1, (h.2 j (.inl hj)).2]
theorem cl_n {G G' : Nat → Int} {a a' n : Nat} (h : cl G a n = cl G' a' n) : ∀ i, i < n → G (a + i) = G' (a' + i) := by
  induction n with
  | zero => intro i hi; omega
  | succ n ih =>
    have h2 : cl G a n ++ [G (a + n)] = cl G' a' n ++ [G' (a' + n)] := h
    obtain ⟨e1, e2⟩ := List.append_inj h2 (by rw [cl_len, cl_len])
    intro i hi
    by_cases ei : i = n
    · rw [ei]
      exact (List.cons.inj e2).1
    · exact ih e1 i (by omega)
theorem brl_c (h : BRl T S y p n p') (hT : ∀ j, p ≤ j → j < p' → T'.1 (y + 10) j = T.1 (y + 10) j) (hR : RB S S' n) (hK : KC S S') : BRl T' S' y p n p' := by
  obtain ⟨r1, r2, r3, r4, r5⟩ := hR
  obtain ⟨h1, h2, h3⟩ := h
  have hc : ∀ j, p ≤ j → j < p' → Fc T' y j = Fc T y j := fun j q1 q2 => by show (T'.1 (y + 10) j).toInt = _; rw [hT j q1 q2]
  unfold BRl htF tfF tmF ttF teF
  rw [r1, r2, r3, r4, r5]
  refine ⟨Int.le_trans h1 hK.1, fun q => ?_, fun q => ?_⟩
  · obtain ⟨a, n, a1, a2, a3, a4, av⟩ := h2 q
    refine ⟨a, n, a1, a2, a3, ?_, vrb_congr _ _ _ _ (fun j q1 q2 => hK.2 j (.inl (by omega))) av⟩
    rw [cl_c (F := Fc T y) (n + 1) (fun j q1 q2 => hc j q1 (by omega)), a4, cl_c (F := Fr S) n (fun j q1 q2 => kc_fr hK j (by omega))]
  · obtain ⟨a, n1, n2, n3, a1, a2, a3, a4, a5, a6, a7, a8, a9, a10, a11, b1, b2, b3⟩ := h3 q
    refine ⟨a, n1, n2, n3, a1, a2, a3, a4, a5, ?_, ?_, ?_, ?_, ?_, ?_, vrb_congr _ _ _ _ (fun j q1 q2 => hK.2 j (.inl (by omega))) b1, vrb_congr _ _ _ _ (fun j q1 q2 => hK.2 j (.inl (by omega))) b2, vrb_congr _ _ _ _ (fun j q1 q2 => hK.2 j (.inl (by omega))) b3⟩
    · rw [cl_c (F := Fc T y) n1 (fun j q1 q2 => hc j q1 (by omega)), a6, cl_c (F := Fr S) n1 (fun j q1 q2 => kc_fr hK j (by omega))]
    · rw [cl_c (F := Fc T y) n2 (fun j q1 q2 => hc j (by omega) (by omega)), a7, cl_c (F := Fr S) n2 (fun j q1 q2 => kc_fr hK j (by omega))]
    · rw [hc _ (by omega) (by omega), a8]
    · rw [hc _ (by omega) (by omega), a9]
    · rw [cl_c (F := Fc T y) n3 (fun j q1 q2 => hc j (by omega) (by omega)), a10, cl_c (F := Fr S) n3 (fun j q1 q2 => kc_fr hK j (by omega))]
    · rw [hc _ (by omega) (by omega), a11]
theorem lwl_le : ∀ k p p', LWl T S y b0 k p p' → p ≤ p'
  | 0, _, _, h => by have h : _ = _ := h; omega
  | k + 1, p, p', ⟨pm, h1, h2, _⟩ => Nat.le_trans (lwl_le k p pm h1) h2
theorem lwl_c (hK : KC S S') : ∀ k p p', LWl T S y b0 k p p' → (∀ j, p ≤ j → j < p' → T'.1 (y + 10) j = T.1 (y + 10) j) → (∀ j, b0 ≤ j → j < b0 + k → RB S S' j) → LWl T' S' y b0 k p p'
  | 0, _, _, h, _, _ => h
  | k + 1, p, p', ⟨pm, h1, h2, h3, h4⟩, hT, hR => by
    have hle := lwl_le k p pm h1
    refine ⟨pm, lwl_c hK k p pm h1 (fun j q1 q2 => hT j q1 (by omega)) (fun j q1 q2 => hR j q1 (by omega)), h2, brl_c h3 (fun j q1 q2 => hT j (by omega) q2) (hR _ (by omega) (by omega)) hK, ?_⟩
    unfold htF
    rw [(hR (b0 + k) (by omega) (by omega)).1]
    exact h4
theorem law_c {k : Nat} (hK : KC S S') (h : LAW T S y b0 k p p') (hT : ∀ j, p ≤ j → j < p' → T'.1 (y + 10) j = T.1 (y + 10) j) (hR : ∀ j, b0 ≤ j → j < b0 + k + 1 → RB S S' j) : LAW T' S' y b0 k p p' := by
  obtain ⟨pm, h1, h2, h3, h4⟩ := h
  have hle := lwl_le k p pm h1
  refine ⟨pm, lwl_c hK k p pm h1 (fun j q1 q2 => hT j q1 (by omega)) (fun j q1 q2 => hR j q1 (by omega)), h2, brl_c h3 (fun j q1 q2 => hT j (by omega) q2) (hR _ (by omega) (by omega)) hK, ?_⟩
  unfold htF
  rw [(hR (b0 + k) (by omega) (by omega)).1]
  exact h4
/-! the reference's safety, kept by exact steps -/
theorem go_up (hw : wok EC (WD S)) (ht : tkS S < 400) : UPD mdPo S (goS S) := by
  have h4 := tk400 hw
  have hv : ((S.1 148 11) + 1).toInt = tkS S + 1 := ad_i (by show _ ≤ tkS S + 1; omega) (by show tkS S + 1 ≤ _; omega)
  exact up_f (up_r hw) rfl rfl rfl rfl rfl ⟨by omega, by omega⟩
theorem go_tk (hw : wok EC (WD S)) : tkS (goS S) = tkS S + 1 := by
  have h4 := tk400 hw
  show ((goS S).1 148 11).toInt = _
  rw [go_11, ad_i (by show _ ≤ tkS S + 1; omega) (by show tkS S + 1 ≤ _; omega)]
  rfl
theorem li_go (h : LI S0 l n0 S n) (ht : tkS S < 400) : LI S0 l n0 (goS S) n ∧ KC S (goS S) ∧ ∀ j, j ≤ n → RB S (goS S) j :=
  li_po h (go_up h.1.1 ht) (by rw [go_tk h.1.1]; omega) (fun z => by have z : ((goS S).1 148 13).toInt = 0 := z; rw [go_j (by decide)] at z; exact z)
theorem cu_lt (h : CU T S E (t + 1)) : t < 400 := by have := h.1.1; have := h.2.1; omega
/-- a sum, with the reference's safety -/
theorem expr_s (hy : y = 10 ∨ y = 23) (hC : CU T S E t) (hI : LI S0 l n0 S n) (hl : 0 ≤ l ∧ l ≤ 420) (ho : opS' S0 = 0) (hlc : l ≤ cdS S0) (hp : (T.1 (y + 9) 1).toInt = (p : Int)) (hpt : p + 1 ≤ t) (ha : cdS S = (a : Int)) :
    (∃ T' S' t' n1, RX (D + 23) 64 [.ref 1, .int 0] (wS x y T) = some (some (.int 1), wS x y T') ∧ RX (d + 4) 226 [.ref 148] S = some (none, S') ∧ CU T' S' E t' ∧ t + 1 ≤ t' ∧ FXc y p T T' ∧ LI S0 l n0 S' n ∧ KC S S' ∧ (∀ j, j ≤ n → RB S S' j) ∧ (T'.1 (y + 9) 1).toInt = ((p + n1 : Nat) : Int) ∧ cdS S' = ((a + n1 : Nat) : Int) ∧ n1 + t ≤ t' ∧ cl (Fc T' y) p n1 = cl (Fr S') a n1 ∧ vrb (cdF S') (ciF S') n1 a 0 1) ∨
    (∃ T' S', RX (D + 23) 64 [.ref 1, .int 0] (wS x y T) = some (some (.int 0), wS x y T') ∧ RX (d + 4) 226 [.ref 148] S = some (none, S') ∧ FXc y p T T' ∧ (T'.1 1 5).toInt ≠ 0 ∧ ftS S' ≠ 0 ∧ LI S0 l n0 S' n) := by
  have hf := hC.2.2.2.2.2.1
  have ht := hC.2.2.2.1
  obtain ⟨z1, z2, z3⟩ := hI.2.2.2.2.2.2.1 hf
  obtain ⟨SL, q1, q2, q3, q4, q5, q6⟩ := expr_li' (d := d) hI hl (by omega) hlc
  rcases expr_l (x := x) (d := d) (D := D) hy hC (by omega) ha (by omega) hp hpt with ⟨T', S', t', i1, i2, i3, i4, ⟨nC, nR, r1, r2, r3⟩, i6, i7, ⟨dv, hv⟩⟩ | ⟨T', S', i1, i2, i3, i4, i5⟩
  · have e := rk_inj i2 q1
    simp only at e
    rw [← e] at q2 q4 q5
    rw [List.append_nil] at r3
    have hn : nC = nR := by
      have := congrArg List.length r3
      rw [cl_len, cl_len] at this
      exact this
    have h8 := (i7.2.2.2.2.2 i3.2.2.2.2.2.1).2.1
    have ht' := i3.2.2.2.1
    have hv1 := vr_un _ _ _ _ _ (vrb_vr _ _ _ _ hv) (i7.2.2.2.2.2 i3.2.2.2.2.2.1).2.2
    have hvn : (cdS S' - (a : Int)).toNat = nR := by omega
    rw [hv1, hvn] at hv
    exact .inl ⟨T', S', t', nR, i1, i2, i3, i4, i6, q2, q4, q5, by rw [r1, hn], r2, by omega, by rw [← r3, hn], hv⟩
  · have e := rk_inj i2 q1
    simp only at e
    rw [← e] at q2
    exact .inr ⟨T', S', i1, i2, i3, i4, i5, q2⟩
/-! the reference's roads behind a fault -/
section BAD
variable {a1 a2 : Int32} {o3 : Option Value}
theorem b148 (hf : ftS S ≠ 0) (hw : wok EC (WD S)) : limK (RX (d + 5)) (mdOf 222) 148 [some (.ref 148), some (.int a1), some (.int a2), o3] [] S = some (none, S) := by
  have := ft2 hw
  rw [q_X12_tellLaw_148, gt_t (show (0 : Int32).toInt < (S.1 148 13).toInt by show (0 : Int) < ftS S; omega), cond_true, q_X12_tellLaw_159]
theorem b129 (h : LI S0 l n0 S n) (hl : 0 ≤ l ∧ l ≤ 420) (ho : opS' S0 = 0) (hlc : l ≤ cdS S0) (hn : n ≤ 258) (hf : ftS S ≠ 0) : ∃ S', limK (RX (d + 5)) (mdOf 222) 129 [some (.ref 148), some (.int a1), some (.int a2), o3] [] S = some (none, S') ∧ ftS S' ≠ 0 := by
  have hb : (S.1 148 38).toInt = (n : Int) := h.2.1
  have k1 : (0 : Int) ≤ ((0 : Int32) &&& 1).toInt ∧ ((0 : Int32) &&& 1).toInt ≤ 1 := ⟨by decide, by decide⟩
  have hu : UPD mdLw S (uI S 173 n ((0 : Int32) &&& 1)) := up_a (t := 2) (n := 260) (up_r h.1.1) rfl rfl rfl (.inl rfl) k1
  obtain ⟨L1, -⟩ := li_wr (c := 173) h (.inl rfl) hu
  have hf1 : ftS (uI S 173 n ((0 : Int32) &&& 1)) ≠ 0 := by
    show ((uI S 173 n ((0 : Int32) &&& 1)).1 148 13).toInt ≠ 0
    rw [uI_ne _ _ _ _ (by decide)]; exact hf
  have hlc1 : l ≤ cdS (uI S 173 n ((0 : Int32) &&& 1)) := Int.le_trans hlc L1.2.2.2.2.1.1
  obtain ⟨S2, w1, w2, w3, w4, w5⟩ := term_li (d := d) L1 hl hn (by omega) hlc1 (fun z => absurd z hf1)
  have hf2 : ftS S2 ≠ 0 := fun z => hf1 (w5 z).1
  rw [q_X12_tellLaw_129, inR_of (n := 260) (by omega) (by omega), cond_true, tnc hb, w1]
  show ∃ S', limK (RX (d + 5)) (mdOf 222) 143 _ [] S2 = _ ∧ _
  rw [q_X12_tellLaw_143, must_b hf2 w2.1.1]
  show ∃ S', limK (RX (d + 5)) (mdOf 222) 148 _ [] S2 = _ ∧ _
  exact ⟨S2, b148 hf2 w2.1.1, hf2⟩
variable {a3 : Int32}
theorem b120 (h : LI S0 l n0 S n) (hl : 0 ≤ l ∧ l ≤ 420) (ho : opS' S0 = 0) (hlc : l ≤ cdS S0) (hn : n ≤ 258) (hf : ftS S ≠ 0) : ∃ S', limK (RX (d + 5)) (mdOf 222) 120 [some (.ref 148), some (.int a1), some (.int a2), some (.int a3)] [] S = some (none, S') ∧ ftS S' ≠ 0 := by
  rw [q_X12_tellLaw_120, must_b hf h.1.1]
  show ∃ S', limK (RX (d + 5)) (mdOf 222) 126 _ [] S = _ ∧ _
  rw [q_X12_tellLaw_126, q_X12_tellLaw_12, ne_t (show (S.1 148 13).toInt ≠ (0 : Int32).toInt from hf), cond_true]
  exact b129 h hl ho hlc hn hf
theorem b116 (h : LI S0 l n0 S n) (hl : 0 ≤ l ∧ l ≤ 420) (ho : opS' S0 = 0) (hlc : l ≤ cdS S0) (hn : n ≤ 257) (hf : ftS S ≠ 0) : ∃ S', limK (RX (d + 5)) (mdOf 222) 116 [some (.ref 148), some (.int a1), some (.int a2), some (.int a3)] [] S = some (none, S') ∧ ftS S' ≠ 0 := by
  obtain ⟨S2, w1, w2, w3, w4, w5⟩ := term_li (d := d) h hl (by omega) (by omega) (Int.le_trans hlc h.2.2.2.2.1.1) (fun z => absurd z hf)
  rw [q_X12_tellLaw_116, w1]
  show ∃ S', limK (RX (d + 5)) (mdOf 222) 120 _ [] S2 = _ ∧ _
  exact b120 w2 hl ho hlc (by omega) (fun z => hf (w5 z).1)
theorem b110 (h : LI S0 l n0 S n) (hl : 0 ≤ l ∧ l ≤ 420) (ho : opS' S0 = 0) (hlc : l ≤ cdS S0) (hn : n ≤ 257) (hf : ftS S ≠ 0) : ∃ S', limK (RX (d + 5)) (mdOf 222) 110 [some (.ref 148), some (.int a1), some (.int a2), some (.int a3)] [] S = some (none, S') ∧ ftS S' ≠ 0 := by
  rw [q_X12_tellLaw_110, must_b hf h.1.1]
  show ∃ S', limK (RX (d + 5)) (mdOf 222) 116 _ [] S = _ ∧ _
  exact b116 h hl ho hlc hn hf
theorem b86 (h : LI S0 l n0 S n) (hl : 0 ≤ l ∧ l ≤ 420) (ho : opS' S0 = 0) (hlc : l ≤ cdS S0) (hn : n ≤ 257) (hf : ftS S ≠ 0) : ∃ S', limK (RX (d + 5)) (mdOf 222) 86 [some (.ref 148), some (.int a1), some (.int a2), some (.int a3)] [] S = some (none, S') ∧ ftS S' ≠ 0 := by
  have hb : (S.1 148 38).toInt = (n : Int) := h.2.1
  have hu : UPD mdLw S (uI S 175 n (S.1 148 44)) := up_a (t := 0) (n := 260) (up_r h.1.1) rfl rfl rfl (.inl rfl) (cd839 h.1.1)
  obtain ⟨L1, -⟩ := li_wr (c := 175) h (.inr (.inr (.inl rfl))) hu
  rw [q_X12_tellLaw_86, inR_of (n := 260) (by omega) (by omega), cond_true, ne_t (show (S.1 148 13).toInt ≠ (0 : Int32).toInt from hf), cond_true, tnc hb]
  refine b110 L1 hl ho hlc hn ?_
  show ((uI S 175 n (S.1 148 44)).1 148 13).toInt ≠ 0
  rw [uI_ne _ _ _ _ (by decide)]; exact hf
theorem b80 (h : LI S0 l n0 S n) (hl : 0 ≤ l ∧ l ≤ 420) (ho : opS' S0 = 0) (hlc : l ≤ cdS S0) (hn : n ≤ 257) (hf : ftS S ≠ 0) : ∃ S', limK (RX (d + 5)) (mdOf 222) 80 [some (.ref 148), some (.int a1), some (.int a2), some (.int a3)] [] S = some (none, S') ∧ ftS S' ≠ 0 := by
  rw [q_X12_tellLaw_80, must_b hf h.1.1]
  show ∃ S', limK (RX (d + 5)) (mdOf 222) 86 _ [] S = _ ∧ _
  exact b86 h hl ho hlc hn hf
theorem b53 (h : LI S0 l n0 S n) (hl : 0 ≤ l ∧ l ≤ 420) (ho : opS' S0 = 0) (hlc : l ≤ cdS S0) (hn : n ≤ 257) (hf : ftS S ≠ 0) : ∃ S', limK (RX (d + 5)) (mdOf 222) 53 [some (.ref 148), some (.int a1), some (.int a2), some (.int a3)] [] S = some (none, S') ∧ ftS S' ≠ 0 := by
  have hb : (S.1 148 38).toInt = (n : Int) := h.2.1
  have k1 : (0 : Int) ≤ ((1 : Int32) &&& 1).toInt ∧ ((1 : Int32) &&& 1).toInt ≤ 1 := ⟨by decide, by decide⟩
  have hu1 : UPD mdLw S (uI S 173 n ((1 : Int32) &&& 1)) := up_a (t := 2) (n := 260) (up_r h.1.1) rfl rfl rfl (.inl rfl) k1
  obtain ⟨L2, K2⟩ := li_wr (c := 173) h (.inl rfl) hu1
  have hu2 : UPD mdLw (uI S 173 n ((1 : Int32) &&& 1)) (uI (uI S 173 n ((1 : Int32) &&& 1)) 174 n (S.1 148 44)) := up_a (t := 0) (n := 260) (up_r L2.1.1) rfl rfl rfl (.inl rfl) (cd839 h.1.1)
  obtain ⟨L3, K3⟩ := li_wr (c := 174) L2 (.inr (.inl rfl)) hu2
  have hf3 : ftS (uI (uI S 173 n ((1 : Int32) &&& 1)) 174 n (S.1 148 44)) ≠ 0 := by
    show ((uI (uI S 173 n ((1 : Int32) &&& 1)) 174 n (S.1 148 44)).1 148 13).toInt ≠ 0
    rw [uI_ne _ _ _ _ (by decide), uI_ne _ _ _ _ (by decide)]; exact hf
  obtain ⟨S3, p1, p2, p3, p4, p5, p6⟩ := expr_li' (d := d + 1) L3 hl (by omega) hlc
  rw [q_X12_tellLaw_53, inR_of (n := 260) (by omega) (by omega), cond_true, cond_true, tnc hb, p1]
  show ∃ S', limK (RX (d + 5)) (mdOf 222) 80 _ [] S3 = _ ∧ _
  exact b80 p2 hl ho hlc hn (fun z => hf3 (p6 z).1)
end BAD
end LAWL
end
section
/-! a LAW's branch on both sides -/
section BRANCH
variable {x y d dm t E L0 c0 w w0 n n0 nC nR e j D a b0 : Nat} {T T' T1 T2 : TZ} {S S' S1 S2 S0 : WS} {k m x1 : Int32} {p p' : Nat} {F F' : Nat → Int} {l : Int}
theorem take_s (hy : y = 10 ∨ y = 23) (hC : CU T S E t) (hI : LI S0 l n0 S n) (hkm : (k.toInt, m.toInt) ∈ kT) (h0 : k.toInt ≠ 0) (h1 : k.toInt ≠ 1) :
    (T.1 5 t = k ∧ RX (d + 1) 67 [.ref 1, .int k] (wS x y T) = some (some (.int 1), wS x y (tkT T t)) ∧ RX (dm + 3) 209 [.ref 148, .int m] S = some (none, goS S) ∧ CU (tkT T t) (goS S) E (t + 1) ∧ LI S0 l n0 (goS S) n ∧ KC S (goS S) ∧ ∀ j, j ≤ n → RB S (goS S) j) ∨
    (∃ T' S', RX (d + 1) 67 [.ref 1, .int k] (wS x y T) = some (some (.int 0), wS x y T') ∧ RX (dm + 3) 209 [.ref 148, .int m] S = some (none, S') ∧ FC T T' ∧ (T'.1 1 5).toInt ≠ 0 ∧ ftS S' ≠ 0 ∧ LI S0 l n0 S' n) := by
  rcases take_l (x := x) (d := d) (dm := dm) hy hC hkm h0 h1 with ⟨g1, g2, g3, g4⟩ | ⟨T', S', g1, g2, g3, g4, g5, g6, g7⟩
  · have ht := cu_lt g4
    have h4 := hC.2.2.2.1
    obtain ⟨l1, l2, l3⟩ := li_go hI (by omega)
    exact .inl ⟨g1, g2, g3, g4, l1, l2, l3⟩
  · exact .inr ⟨T', S', g1, g2, g3, g4, g6, (li_po hI g5 (by omega) (fun z => absurd z g6)).1⟩
theorem jump_c (hy : y = 10 ∨ y = 23) (hn : (T.1 (y + 9) 1).toInt = (n : Int)) (h : n + 1 < 400) : ∃ jv : Int32, jv.toInt = ((n + 1 : Nat) : Int) ∧ RX (d + 2) 19 [.ref (y + 9)] (wS x y T) = some (some (.int jv), wS x y (addT (addT T y n (-5)) y (n + 1) 0)) := by
  have h1 := addT_n (y := y) hn (by omega) (-5)
  have h2 := addT_n (y := y) h1 h 0
  refine ⟨(((addT (addT T y n (-5)) y (n + 1) 0).1 (y + 9) 1) - 1), ?_, ?_⟩
  · have e1 : (1 : Int32).toInt = 1 := rfl
    rw [sb_i (by rw [h2, e1]; omega) (by rw [h2, e1]; omega), h2, e1]
    omega
  · rw [e_X1_addJump, q_X1_addJump_0 (hh := hy), add_c hy hn (by omega)]
    show limK _ (mdOf 19) 6 _ [] _ = _
    rw [q_X1_addJump_6 (hh := hy), add_c hy h1 h]
    show limK _ (mdOf 19) 11 _ [] _ = _
    rw [q_X1_addJump_11 (hh := hy)]
theorem land_c (hy : y = 10 ∨ y = 23) (hn : (T.1 (y + 9) 1).toInt = (n : Int)) (h : n ≤ 400) {jv : Int32} (hj : jv.toInt = (j : Int)) (hjn : j < n) : RX (d + 1) 20 [.ref (y + 9), .int jv] (wS x y T) = some (none, wS x y (zI T (y + 10) j (T.1 (y + 9) 1))) := by
  rw [e_X1_landHere, q_X1_landHere_0 (hh := hy), lt_f (show (0 : Int32).toInt ≤ jv.toInt by show (0 : Int) ≤ _; omega), cond_false, ge_f (by omega), cond_false, inR_of (by omega) (by omega), cond_true, tnc hj, q_X1_landHere_22 (hh := hy)]
theorem kc_o {c j : Nat} {v : Int32} (h : c ≠ 178 ∧ c ≠ 179 ∧ ¬ (c = 148 ∧ j = 44)) : KC S (uI S c j v) := by
  have h1 : cdS (uI S c j v) = cdS S := (cd_o h).1
  refine ⟨by omega, fun i _ => ⟨?_, ?_⟩⟩
  · show ((uI S c j v).1 178 i).toInt = _
    rw [uI_ne _ _ _ _ (by omega)]
  · show ((uI S c j v).1 179 i).toInt = _
    rw [uI_ne _ _ _ _ (by omega)]
theorem rb_o {c i : Nat} {v : Int32} (j : Nat) (h : (c = 148 ∧ i ≠ 173) ∨ j ≠ i) (hc : c = 148 ∨ c = 173 ∨ c = 174 ∨ c = 175 ∨ c = 176 ∨ c = 177) : RB S (uI S c i v) j := by
  refine ⟨?_, ?_, ?_, ?_, ?_⟩ <;> exact uI_no _ _ _ _ (by omega)
theorem branch_l {x1c x3 a1 a2 : Int32} {o2c : Option Value} (hy : y = 10 ∨ y = 23) (hl : 0 ≤ l ∧ l ≤ 420) (ho : opS' S0 = 0) (hlc : l ≤ cdS S0) (hC : CU T S E t) (hI : LI S0 l n0 S n) (hn : n ≤ 257) (hk : T.1 5 t = 136) (hp : (T.1 (y + 9) 1).toInt = (p : Int)) (hpt : p ≤ t) :
    (∃ (T' : TZ) (S' : WS) (t' p' : Nat) (o2' : Option Value), kbd (limK (RX (D + 23)) (mdOf 63)) 50 [some (.ref 1), some (.int x1c), o2c] [] (RX (D + 23) 67 [.ref 1, .int 136] (wS x y T)) = limK (RX (D + 23)) (mdOf 63) 144 [some (.ref 1), some (.int x1c), o2'] [] (wS x y T') ∧
      kbd (limK (RX (d + 5)) (mdOf 222)) 53 [some (.ref 148), some (.int a1), some (.int a2), some (.int x3)] [] (RX (d + 5) 208 [.ref 148] S) = limK (RX (d + 5)) (mdOf 222) 126 [some (.ref 148), some (.int a1), some (.int a2), some (.int x3)] [] S' ∧
      CU T' S' E t' ∧ LI S0 l n0 S' (n + 1) ∧ (T'.1 (y + 9) 1).toInt = (p' : Int) ∧ p ≤ p' ∧ p' + 1 ≤ t' ∧ t + 7 ≤ t' ∧ BRl T' S' y p n p' ∧ htF S' n ≠ 0 ∧ FXc y p T T' ∧ KC S S' ∧ (∀ j, j < n → RB S S' j)) ∨
    (∃ T' S', kbd (limK (RX (D + 23)) (mdOf 63)) 50 [some (.ref 1), some (.int x1c), o2c] [] (RX (D + 23) 67 [.ref 1, .int 136] (wS x y T)) = some (some (.int 0), wS x y T') ∧
      kbd (limK (RX (d + 5)) (mdOf 222)) 53 [some (.ref 148), some (.int a1), some (.int a2), some (.int x3)] [] (RX (d + 5) 208 [.ref 148] S) = some (none, S') ∧ FXc y p T T' ∧ (T'.1 1 5).toInt ≠ 0 ∧ ftS S' ≠ 0) := by
  have h88 : ∀ (o1 o2 : Option Value) (T1 : TZ), limK (RX (D + 23)) (mdOf 63) 88 [some (.ref 1), o1, o2] [] (wS x y T1) = some (some (.int 0), wS x y T1) := fun o1 o2 T1 => q_X5_takeLaw_88 _ _ _ hy _ _ _
  have h119 : ∀ (o1 o2 : Option Value) (T1 : TZ), limK (RX (D + 23)) (mdOf 63) 119 [some (.ref 1), o1, o2] [] (wS x y T1) = some (some (.int 0), wS x y T1) := fun o1 o2 T1 => q_X5_takeLaw_119 _ _ _ hy _ _ _
  have htS := hC.2.2.2.1
  rcases go_l (x := x) (d := D + 22) (dm := d + 3) hy hC hk (by decide) (by decide) with ⟨g1, g2, g3⟩ | ⟨T', S', g1, g2, g3, g4, g5, g6, g7⟩
  · -- 'if' is taken
    obtain ⟨I1, K1, R1⟩ := li_go hI (by have := cu_lt g3; omega)
    have hb1 : ((goS S).1 148 38).toInt = (n : Int) := I1.2.1
    have k1 : (0 : Int) ≤ ((1 : Int32) &&& 1).toInt ∧ ((1 : Int32) &&& 1).toInt ≤ 1 := ⟨by decide, by decide⟩
    have hu1 : UPD mdLw (goS S) (uI (goS S) 173 n ((1 : Int32) &&& 1)) := up_a (t := 2) (n := 260) (up_r I1.1.1) rfl rfl rfl (.inl rfl) k1
    obtain ⟨L2, K2⟩ := li_wr (c := 173) I1 (.inl rfl) hu1
    have hu2 : UPD mdLw (uI (goS S) 173 n ((1 : Int32) &&& 1)) (uI (uI (goS S) 173 n ((1 : Int32) &&& 1)) 174 n ((goS S).1 148 44)) := up_a (t := 0) (n := 260) (up_r L2.1.1) rfl rfl rfl (.inl rfl) (cd839 I1.1.1)
    obtain ⟨L3, K3⟩ := li_wr (c := 174) L2 (.inr (.inl rfl)) hu2
    have ht0 : ((uI (uI (goS S) 173 n ((1 : Int32) &&& 1)) 174 n ((goS S).1 148 44)).1 173 n).toInt = 1 := by rw [uI_ne _ _ _ _ (by decide), uI_i]; rfl
    have htf : ((uI (uI (goS S) 173 n ((1 : Int32) &&& 1)) 174 n ((goS S).1 148 44)).1 174 n).toInt = cdS S := by
      rw [uI_i, go_j (by decide)]
    have hr53 : limK (RX (d + 5)) (mdOf 222) 53 [some (.ref 148), some (.int a1), some (.int a2), some (.int x3)] [] (goS S) = kbd (limK (RX (d + 5)) (mdOf 222)) 80 [some (.ref 148), some (.int a1), some (.int a2), some (.int x3)] [] (RX (d + 5) 226 [.ref 148] (uI (uI (goS S) 173 n ((1 : Int32) &&& 1)) 174 n ((goS S).1 148 44))) := by
      rw [q_X12_tellLaw_53, inR_of (n := 260) (by omega) (by omega), cond_true, cond_true, tnc hb1]
    have hcd0 := (cd839 hC.2.2.2.2.2.2.2).1
    obtain ⟨a, ha⟩ : ∃ a : Nat, cdS S = (a : Int) := ⟨(cdS S).toNat, by omega⟩
    have hC3 : CU (tkT T t) (uI (uI (goS S) 173 n ((1 : Int32) &&& 1)) 174 n ((goS S).1 148 44)) E (t + 1) := cu_o (cu_o g3 L2.1.1 (by decide) (fun q => by cases q)) L3.1.1 (by decide) (fun q => by cases q)
    have hcd3 : cdS (uI (uI (goS S) 173 n ((1 : Int32) &&& 1)) 174 n ((goS S).1 148 44)) = (a : Int) := by
      rw [(cd_o (by omega)).1, (cd_o (by omega)).1]
      exact ((cd_o (S := S) (c := 148) (j := 11) (by decide)).1).trans ha
    have hp1 : ((tkT T t).1 (y + 9) 1).toInt = (p : Int) := by rw [fc_tk.1 _ _ (by omega)]; exact hp
    have fx1 : FXc y p T (tkT T t) := fc_fx fc_tk
    rw [g1, g2]
    show (∃ (T' : TZ) (S' : WS) (t' p' : Nat) (o2' : Option Value), limK (RX (D + 23)) (mdOf 63) 50 _ [.int 1] (wS x y (tkT T t)) = _ ∧ limK (RX (d + 5)) (mdOf 222) 53 _ [] (goS S) = _ ∧ _) ∨ (∃ T' S', limK (RX (D + 23)) (mdOf 63) 50 _ [.int 1] (wS x y (tkT T t)) = _ ∧ limK (RX (d + 5)) (mdOf 222) 53 _ [] (goS S) = _ ∧ _)
    rw [hr53, q_X5_takeLaw_50 (hy := hy), show cmpB .eq (1 : Int32) 0 = false from rfl, cond_false]
    rcases expr_s (x := x) (d := d + 1) (D := D) hy hC3 L3 hl ho hlc hp1 (by omega) hcd3 with ⟨T3, S3, t3, n1, i1, i2, i3, i4, i5, i6, i7, i8, i9, i10, i11, i12, i13⟩ | ⟨T3, S3, i1, i2, i3, i4, i5, i6⟩
    · -- the first sum
      rw [i1, i2]
      show (∃ (T' : TZ) (S' : WS) (t' p' : Nat) (o2' : Option Value), limK (RX (D + 23)) (mdOf 63) 58 _ [.int 1] (wS x y T3) = _ ∧ limK (RX (d + 5)) (mdOf 222) 80 _ [] S3 = _ ∧ _) ∨ (∃ T' S', limK (RX (D + 23)) (mdOf 63) 58 _ [.int 1] (wS x y T3) = _ ∧ limK (RX (d + 5)) (mdOf 222) 80 _ [] S3 = _ ∧ _)
      rw [q_X5_takeLaw_58 (hy := hy), show cmpB .eq (1 : Int32) 0 = false from rfl, cond_false, q_X12_tellLaw_80]
      have fx3 := fx_t fx1 i5
      rcases take_s (x := x) (k := 60) (m := 13) (d := D + 22) (dm := d + 2) hy i3 i6 (by decide) (by decide) (by decide) with ⟨-, g41, g42, g43, I4, K4, R4⟩ | ⟨T4, S4, g41, g42, g43, g44, g45, g46⟩
      · -- '<'
        rw [g41, g42]
        show (∃ (T' : TZ) (S' : WS) (t' p' : Nat) (o2' : Option Value), limK (RX (D + 23)) (mdOf 63) 67 _ [.int 1] (wS x y (tkT T3 t3)) = _ ∧ limK (RX (d + 5)) (mdOf 222) 86 _ [] (goS S3) = _ ∧ _) ∨ (∃ T' S', limK (RX (D + 23)) (mdOf 63) 67 _ [.int 1] (wS x y (tkT T3 t3)) = _ ∧ limK (RX (d + 5)) (mdOf 222) 86 _ [] (goS S3) = _ ∧ _)
        have hb4 : ((goS S3).1 148 38).toInt = (n : Int) := I4.2.1
        have hf4 : ftS (goS S3) = 0 := g43.2.2.2.2.2.1
        have hu5 : UPD mdLw (goS S3) (uI (goS S3) 175 n ((goS S3).1 148 44)) := up_a (t := 0) (n := 260) (up_r I4.1.1) rfl rfl rfl (.inl rfl) (cd839 I4.1.1)
        obtain ⟨L5, K5⟩ := li_wr (c := 175) I4 (.inr (.inr (.inl rfl))) hu5
        have hC5 : CU (tkT T3 t3) (uI (goS S3) 175 n ((goS S3).1 148 44)) E (t3 + 1) := cu_o g43 L5.1.1 (by decide) (fun q => by cases q)
        have hcg3 : cdS (goS S3) = ((a + n1 : Nat) : Int) := ((cd_o (S := S3) (c := 148) (j := 11) (by decide)).1).trans i10
        have hcd5 : cdS (uI (goS S3) 175 n ((goS S3).1 148 44)) = ((a + n1 : Nat) : Int) := by rw [(cd_o (by omega)).1]; exact hcg3
        have hp4 : ((tkT T3 t3).1 (y + 9) 1).toInt = ((p + n1 : Nat) : Int) := by rw [fc_tk.1 _ _ (by omega)]; exact i9
        have fx4 : FXc y p T (tkT T3 t3) := fx_t fx3 (fc_fx fc_tk)
        rw [q_X5_takeLaw_67 (hy := hy), show cmpB .eq (1 : Int32) 0 = false from rfl, cond_false, q_X12_tellLaw_86, inR_of (n := 260) (by omega) (by omega), cond_true, ne_f (show ((goS S3).1 148 13).toInt = (0 : Int32).toInt from hf4), cond_false, tnc hb4]
        rcases expr_s (x := x) (d := d + 1) (D := D) hy hC5 L5 hl ho hlc hp4 (by omega) hcd5 with ⟨T6, S6, t6, n2, j1, j2, j3, j4, j5, j6, j7, j8, j9, j10, j11, j12, j13⟩ | ⟨T6, S6, j1, j2, j3, j4, j5, j6⟩
        · -- the second sum
          rw [j1, j2]
          show (∃ (T' : TZ) (S' : WS) (t' p' : Nat) (o2' : Option Value), limK (RX (D + 23)) (mdOf 63) 75 _ [.int 1] (wS x y T6) = _ ∧ limK (RX (d + 5)) (mdOf 222) 110 _ [] S6 = _ ∧ _) ∨ (∃ T' S', limK (RX (D + 23)) (mdOf 63) 75 _ [.int 1] (wS x y T6) = _ ∧ limK (RX (d + 5)) (mdOf 222) 110 _ [] S6 = _ ∧ _)
          rw [q_X5_takeLaw_75 (hy := hy), show cmpB .eq (1 : Int32) 0 = false from rfl, cond_false, q_X12_tellLaw_110]
          have fx6 : FXc y p T T6 := fx_t fx4 ⟨fun c j q1 q2 q3 => j5.1 c j q1 q2 (by omega), j5.2⟩
          rcases take_s (x := x) (k := 137) (m := 29) (d := D + 22) (dm := d + 2) hy j3 j6 (by decide) (by decide) (by decide) with ⟨-, g71, g72, g73, I7, K7, R7⟩ | ⟨T7, S7, g71, g72, g73, g74, g75, g76⟩
          · -- 'then'
            rw [g71, g72]
            show (∃ (T' : TZ) (S' : WS) (t' p' : Nat) (o2' : Option Value), limK (RX (D + 23)) (mdOf 63) 85 _ [.int 1] (wS x y (tkT T6 t6)) = _ ∧ limK (RX (d + 5)) (mdOf 222) 116 _ [] (goS S6) = _ ∧ _) ∨ (∃ T' S', limK (RX (D + 23)) (mdOf 63) 85 _ [.int 1] (wS x y (tkT T6 t6)) = _ ∧ limK (RX (d + 5)) (mdOf 222) 116 _ [] (goS S6) = _ ∧ _)
            have h7E : t6 + 1 ≤ 400 := by have := g73.1.1; have := g73.2.1; omega
            have hp7 : ((tkT T6 t6).1 (y + 9) 1).toInt = ((p + n1 + n2 : Nat) : Int) := by rw [fc_tk.1 _ _ (by omega)]; exact j9
            obtain ⟨jv, jv1, jv2⟩ := jump_c (x := x) (d := D + 21) (T := tkT T6 t6) hy hp7 (by omega)
            have hC9 : CU (addT (addT (tkT T6 t6) y (p + n1 + n2) (-5)) y (p + n1 + n2 + 1) 0) (goS S6) E (t6 + 1) := cu_add hy _ (cu_add hy _ g73)
            have hp9 : ((addT (addT (tkT T6 t6) y (p + n1 + n2) (-5)) y (p + n1 + n2 + 1) 0).1 (y + 9) 1).toInt = ((p + n1 + n2 + 2 : Nat) : Int) := addT_n (addT_n hp7 (by omega) _) (by omega) _
            have hcg6 : cdS (goS S6) = ((a + n1 + n2 : Nat) : Int) := ((cd_o (S := S6) (c := 148) (j := 11) (by decide)).1).trans j10
            have hb7 : ((goS S6).1 148 38).toInt = (n : Int) := I7.2.1
            have hf7 : ftS (goS S6) = 0 := g73.2.2.2.2.2.1
            have hu8 : UPD mdLw (goS S6) (uI (goS S6) 176 n ((goS S6).1 148 44)) := up_a (t := 0) (n := 260) (up_r I7.1.1) rfl rfl rfl (.inl rfl) (cd839 I7.1.1)
            obtain ⟨L8, K8⟩ := li_wr (c := 176) I7 (.inr (.inr (.inr (.inl rfl)))) hu8
            have hC8 : CU (addT (addT (tkT T6 t6) y (p + n1 + n2) (-5)) y (p + n1 + n2 + 1) 0) (uI (goS S6) 176 n ((goS S6).1 148 44)) E (t6 + 1) := cu_o hC9 L8.1.1 (by decide) (fun q => by cases q)
            have hcd8 : cdS (uI (goS S6) 176 n ((goS S6).1 148 44)) = ((a + n1 + n2 : Nat) : Int) := by rw [(cd_o (by omega)).1]; exact hcg6
            have fx9 : FXc y p T (addT (addT (tkT T6 t6) y (p + n1 + n2) (-5)) y (p + n1 + n2 + 1) 0) := fx_t fx6 (fx_t (fc_fx fc_tk) (fx_t (fx_add _ (by omega)) (fx_add _ (by omega))))
            obtain ⟨SQ, w1, w2, w3, w4, w5⟩ := term_li (d := d) I7 hl (by omega) (by omega) (Int.le_trans hlc I7.2.2.2.2.1.1) (fun z hq => by
              obtain ⟨SA, u1, u2, u3, u4, u5, u6⟩ := expr_li' (d := d + 1) L3 hl (by omega) hlc
              have e1 := rk_inj i2 u1
              simp only at e1
              rw [← e1] at u6
              obtain ⟨SB, v1, v2, v3, v4, v5, v6⟩ := expr_li' (d := d + 1) L5 hl (by omega) hlc
              have e2 := rk_inj j2 v1
              simp only at e2
              rw [← e2] at v6
              have s1 := (u6 i3.2.2.2.2.2.1).2.2
              have s2 := (v6 j3.2.2.2.2.2.1).2.2
              rw [hcd3, i10] at s1
              rw [hcd5, j10] at s2
              have q4 : tfF (goS S6) n = (a : Int) := by
                unfold tfF
                rw [(R7 n (Nat.le_refl _)).2.1, (j8 n (Nat.le_refl _)).2.1, uI_ne _ _ _ _ (by decide), (R4 n (Nat.le_refl _)).2.1, (i8 n (Nat.le_refl _)).2.1, htf, ha]
              have q5 : tmF (goS S6) n = ((a + n1 : Nat) : Int) := by
                unfold tmF
                rw [(R7 n (Nat.le_refl _)).2.2.1, (j8 n (Nat.le_refl _)).2.2.1, uI_i]
                exact hcg3
              rw [q4, q5, hcg6]
              exact ⟨sgR_k s1 (kc_t K4 (kc_t K5 (kc_t j7 K7))), sgR_k s2 K7⟩)
            rw [q_X5_takeLaw_85 (hy := hy), show cmpB .ne (1 : Int32) 0 = true from rfl, cond_true, jv2, q_X12_tellLaw_116]
            show (∃ (T' : TZ) (S' : WS) (t' p' : Nat) (o2' : Option Value), limK (RX (D + 23)) (mdOf 63) 100 _ [.int jv] (wS x y _) = _ ∧ _) ∨ (∃ T' S', limK (RX (D + 23)) (mdOf 63) 100 _ [.int jv] (wS x y _) = _ ∧ _)
            rw [q_X5_takeLaw_100 (hy := hy)]
            have hterm : RX (d + 5) 223 [.ref 148] (goS S6) = kbd (limK (RX (d + 4)) (mdOf 223)) 24 [some (.ref 148)] [] (RX (d + 4) 226 [.ref 148] (uI (goS S6) 176 n ((goS S6).1 148 44))) := by
              rw [e_X12_term, q_X12_term_0, inR_of (n := 260) (by omega) (by omega), cond_true, ne_f (show ((goS S6).1 148 13).toInt = (0 : Int32).toInt from hf7), cond_false, tnc hb7]
            rcases expr_s (x := x) (d := d) (D := D) hy hC8 L8 hl ho hlc hp9 (by omega) hcd8 with ⟨T10, S10, t10, n3, m1, m2, m3, m4, m5, m6, m7, m8, m9, m10, m11, m12, m13⟩ | ⟨T10, S10, m1, m2, m3, m4, m5, m6⟩
            · -- the third sum
              have hb10 : (S10.1 148 38).toInt = (n : Int) := m6.2.1
              have hterm2 : RX (d + 5) 223 [.ref 148] (goS S6) = some (none, uI (uI S10 177 n (S10.1 148 44)) 148 38 ((S10.1 148 38) + 1)) := by
                rw [hterm, m2]
                show limK (RX (d + 4)) (mdOf 223) 24 _ [] S10 = _
                rw [q_X12_term_24, inR_of (n := 260) (by omega) (by omega), cond_true, tnc hb10]
              have eQ := rk_inj hterm2 w1
              simp only at eQ
              rw [← eQ] at w2
              have hC11 : CU T10 (uI (uI S10 177 n (S10.1 148 44)) 148 38 ((S10.1 148 38) + 1)) E t10 := cu_s m3 w2.1.1
                (fun i _ => by rw [uI_ne _ _ _ _ (by decide), uI_ne _ _ _ _ (by decide)]) (fun i _ => by rw [uI_ne _ _ _ _ (by decide), uI_ne _ _ _ _ (by decide)]) (fun _ _ => rfl)
                (by rw [uI_j _ (by decide), uI_ne _ _ _ _ (by decide)]) (by rw [uI_j _ (by decide), uI_ne _ _ _ _ (by decide)]) (by rw [uI_j _ (by decide), uI_ne _ _ _ _ (by decide)])
              rw [m1, hterm2]
              show (∃ (T' : TZ) (S' : WS) (t' p' : Nat) (o2' : Option Value), limK (RX (D + 23)) (mdOf 63) 106 _ [.int 1] (wS x y T10) = _ ∧ limK (RX (d + 5)) (mdOf 222) 120 _ [] (uI (uI S10 177 n (S10.1 148 44)) 148 38 ((S10.1 148 38) + 1)) = _ ∧ _) ∨ (∃ T' S', limK (RX (D + 23)) (mdOf 63) 106 _ [.int 1] (wS x y T10) = _ ∧ limK (RX (d + 5)) (mdOf 222) 120 _ [] (uI (uI S10 177 n (S10.1 148 44)) 148 38 ((S10.1 148 38) + 1)) = _ ∧ _)
              rw [q_X5_takeLaw_106 (hy := hy), show cmpB .eq (1 : Int32) 0 = false from rfl, cond_false, q_X12_tellLaw_120]
              have fx10 : FXc y p T T10 := fx_t fx9 ⟨fun c j q1 q2 q3 => m5.1 c j q1 q2 (by omega), m5.2⟩
              rcases take_s (x := x) (k := 138) (m := 30) (d := D + 22) (dm := d + 2) hy hC11 w2 (by decide) (by decide) (by decide) with ⟨-, g81, g82, g83, I8, K8', R8⟩ | ⟨T8, S8, g81, g82, g83, g84, g85, g86⟩
              · -- 'else'
                have h8E : t10 + 1 ≤ 400 := by have := g83.1.1; have := g83.2.1; omega
                have hp11 : ((tkT T10 t10).1 (y + 9) 1).toInt = ((p + n1 + n2 + 2 + n3 : Nat) : Int) := by rw [fc_tk.1 _ _ (by omega)]; exact m9
                have hp12 := addT_n (y := y) hp11 (by omega) (-6)
                have hl12 := land_c (x := x) (d := D + 22) (T := addT (tkT T10 t10) y (p + n1 + n2 + 2 + n3) (-6)) (j := p + n1 + n2 + 1) hy hp12 (by omega) jv1 (by omega)
                refine .inl ⟨zI (addT (tkT T10 t10) y (p + n1 + n2 + 2 + n3) (-6)) (y + 10) (p + n1 + n2 + 1) ((addT (tkT T10 t10) y (p + n1 + n2 + 2 + n3) (-6)).1 (y + 9) 1), goS (uI (uI S10 177 n (S10.1 148 44)) 148 38 ((S10.1 148 38) + 1)), t10 + 1, p + n1 + n2 + 2 + n3 + 1, some (.int jv), ?_, ?_, ?_, I8, ?_, by omega, by omega, by omega, ?_, ?_, ?_, ?_, ?_⟩
                · rw [g81]
                  show limK (RX (D + 23)) (mdOf 63) 116 _ [.int 1] _ = _
                  rw [q_X5_takeLaw_116 (hy := hy), show cmpB .ne (1 : Int32) 0 = true from rfl, cond_true, add_c hy hp11 (by omega)]
                  show limK (RX (D + 23)) (mdOf 63) 133 _ [] _ = _
                  rw [q_X5_takeLaw_133 (hy := hy), hl12]
                  rfl
                · rw [g82]
                  rfl
                · have h12 : CU (addT (tkT T10 t10) y (p + n1 + n2 + 2 + n3) (-6)) (goS (uI (uI S10 177 n (S10.1 148 44)) 148 38 ((S10.1 148 38) + 1))) E (t10 + 1) := cu_add hy _ g83
                  obtain ⟨z1, z2, z3, z4, z5, z6, z7, z8⟩ := h12
                  have ez : ∀ c j, c ≤ 9 → (zI (addT (tkT T10 t10) y (p + n1 + n2 + 2 + n3) (-6)) (y + 10) (p + n1 + n2 + 1) ((addT (tkT T10 t10) y (p + n1 + n2 + 2 + n3) (-6)).1 (y + 9) 1)).1 c j = (addT (tkT T10 t10) y (p + n1 + n2 + 2 + n3) (-6)).1 c j := fun c j hc => zI_ne _ (by omega)
                  refine ⟨tok_c (fun i => ez 5 i (by omega)) (fun _ => rfl) (fun _ _ => rfl) (fun _ _ => rfl) (fun _ _ => rfl) z1, z2, by rw [ez 1 7 (by omega)]; exact z3, z4, by rw [ez 1 8 (by omega), ez 5 _ (by omega)]; exact z5, z6, ?_, z8⟩
                  show ((zI _ _ _ _).1 1 5).toInt = 0 ∧ _ ∨ ((zI _ _ _ _).1 1 5).toInt ≠ 0 ∧ _
                  rw [ez 1 5 (by omega)]
                  exact z7
                · rw [zI_ne _ (by omega)]; exact hp12
                · -- the branch's codes
                  have hA : ∀ j, j < p + n1 + n2 + 2 + n3 → j ≠ p + n1 + n2 + 1 → (zI (addT (tkT T10 t10) y (p + n1 + n2 + 2 + n3) (-6)) (y + 10) (p + n1 + n2 + 1) ((addT (tkT T10 t10) y (p + n1 + n2 + 2 + n3) (-6)).1 (y + 9) 1)).1 (y + 10) j = T10.1 (y + 10) j := fun j q1 q2 => by
                    rw [zI_j _ q2, addT_o _ (by omega) (by omega), fc_tk.1 _ _ (by omega)]
                  have hB : ∀ j, j < p + n1 + n2 + 2 → T10.1 (y + 10) j = (addT (addT (tkT T6 t6) y (p + n1 + n2) (-5)) y (p + n1 + n2 + 1) 0).1 (y + 10) j := fun j q1 => m5.1 _ _ (by omega) (by omega) (by omega)
                  have hD : ∀ j, j < p + n1 + n2 → (addT (addT (tkT T6 t6) y (p + n1 + n2) (-5)) y (p + n1 + n2 + 1) 0).1 (y + 10) j = T6.1 (y + 10) j := fun j q1 => by
                    rw [addT_o _ (by omega) (by omega), addT_o _ (by omega) (by omega), fc_tk.1 _ _ (by omega)]
                  have hG : ∀ j, j < p + n1 → T6.1 (y + 10) j = T3.1 (y + 10) j := fun j q1 => by
                    rw [j5.1 _ _ (by omega) (by omega) (by omega), fc_tk.1 _ _ (by omega)]
                  have kE : KC S10 (goS (uI (uI S10 177 n (S10.1 148 44)) 148 38 ((S10.1 148 38) + 1))) := kc_t (kc_o (by omega)) (kc_t (kc_o (by decide)) K8')
                  have k6 : KC S6 (goS (uI (uI S10 177 n (S10.1 148 44)) 148 38 ((S10.1 148 38) + 1))) := kc_t K7 (kc_t K8 (kc_t m7 kE))
                  have k3 : KC S3 (goS (uI (uI S10 177 n (S10.1 148 44)) 148 38 ((S10.1 148 38) + 1))) := kc_t K4 (kc_t K5 (kc_t j7 k6))
                  have rE : RB (uI (uI S10 177 n (S10.1 148 44)) 148 38 ((S10.1 148 38) + 1)) (goS (uI (uI S10 177 n (S10.1 148 44)) 148 38 ((S10.1 148 38) + 1))) n := R8 n (by omega)
                  have v173 : (goS (uI (uI S10 177 n (S10.1 148 44)) 148 38 ((S10.1 148 38) + 1))).1 173 n = (uI (uI (goS S) 173 n ((1 : Int32) &&& 1)) 174 n ((goS S).1 148 44)).1 173 n := by
                    rw [rE.1, uI_ne _ _ _ _ (by decide), uI_ne _ _ _ _ (by decide), (m8 n (Nat.le_refl _)).1, uI_ne _ _ _ _ (by decide), (R7 n (Nat.le_refl _)).1, (j8 n (Nat.le_refl _)).1, uI_ne _ _ _ _ (by decide), (R4 n (Nat.le_refl _)).1, (i8 n (Nat.le_refl _)).1]
                  have v174 : ((goS (uI (uI S10 177 n (S10.1 148 44)) 148 38 ((S10.1 148 38) + 1))).1 174 n).toInt = (a : Int) := by
                    rw [rE.2.1, uI_ne _ _ _ _ (by decide), uI_ne _ _ _ _ (by decide), (m8 n (Nat.le_refl _)).2.1, uI_ne _ _ _ _ (by decide), (R7 n (Nat.le_refl _)).2.1, (j8 n (Nat.le_refl _)).2.1, uI_ne _ _ _ _ (by decide), (R4 n (Nat.le_refl _)).2.1, (i8 n (Nat.le_refl _)).2.1, htf, ha]
                  have v175 : ((goS (uI (uI S10 177 n (S10.1 148 44)) 148 38 ((S10.1 148 38) + 1))).1 175 n).toInt = ((a + n1 : Nat) : Int) := by
                    rw [rE.2.2.1, uI_ne _ _ _ _ (by decide), uI_ne _ _ _ _ (by decide), (m8 n (Nat.le_refl _)).2.2.1, uI_ne _ _ _ _ (by decide), (R7 n (Nat.le_refl _)).2.2.1, (j8 n (Nat.le_refl _)).2.2.1, uI_i]
                    exact hcg3
                  have v176 : ((goS (uI (uI S10 177 n (S10.1 148 44)) 148 38 ((S10.1 148 38) + 1))).1 176 n).toInt = ((a + n1 + n2 : Nat) : Int) := by
                    rw [rE.2.2.2.1, uI_ne _ _ _ _ (by decide), uI_ne _ _ _ _ (by decide), (m8 n (Nat.le_refl _)).2.2.2.1, uI_i]
                    exact hcg6
                  have v177 : ((goS (uI (uI S10 177 n (S10.1 148 44)) 148 38 ((S10.1 148 38) + 1))).1 177 n).toInt = ((a + n1 + n2 + n3 : Nat) : Int) := by
                    rw [rE.2.2.2.2, uI_ne _ _ _ _ (by decide), uI_i]
                    exact m10
                  refine ⟨?_, fun q => ?_, fun _ => ⟨a, n1, n2, n3, v174, v175, v176, v177, rfl, ?_, ?_, ?_, ?_, ?_, ?_, vrb_congr _ _ _ _ (fun j q1 q2 => k3.2 j (.inl (by omega))) i13, vrb_congr _ _ _ _ (fun j q1 q2 => k6.2 j (.inl (by omega))) j13, vrb_congr _ _ _ _ (fun j q1 q2 => kE.2 j (.inl (by omega))) m13⟩⟩
                  · show ((goS _).1 177 n).toInt ≤ _
                    rw [v177]
                    have := kE.1
                    omega
                  · have q : ((goS _).1 173 n).toInt = 0 := q
                    rw [v173, ht0] at q
                    omega
                  · rw [cl_c (F := Fc T3 y) n1 (fun j q1 q2 => by show ((zI _ _ _ _).1 (y + 10) j).toInt = (T3.1 (y + 10) j).toInt; rw [hA j (by omega) (by omega), hB j (by omega), hD j (by omega), hG j q2]), i12, cl_c (F := Fr S3) n1 (fun j q1 q2 => kc_fr k3 j (by omega))]
                  · rw [cl_c (F := Fc T6 y) n2 (fun j q1 q2 => by show ((zI _ _ _ _).1 (y + 10) j).toInt = (T6.1 (y + 10) j).toInt; rw [hA j (by omega) (by omega), hB j (by omega), hD j (by omega)]), j12, cl_c (F := Fr S6) n2 (fun j q1 q2 => kc_fr k6 j (by omega))]
                  · show ((zI _ _ _ _).1 (y + 10) (p + n1 + n2)).toInt = _
                    rw [hA _ (by omega) (by omega), hB _ (by omega), addT_o _ (by omega) (by omega), addT_v]
                    rfl
                  · show ((zI _ _ _ _).1 (y + 10) (p + n1 + n2 + 1)).toInt = _
                    rw [zI_i]
                    exact hp12
                  · rw [cl_c (F := Fc T10 y) n3 (fun j q1 q2 => by show ((zI _ _ _ _).1 (y + 10) j).toInt = (T10.1 (y + 10) j).toInt; rw [hA j (by omega) (by omega)]), m12, cl_c (F := Fr S10) n3 (fun j q1 q2 => kc_fr kE j (by omega))]
                  · show ((zI _ _ _ _).1 (y + 10) (p + n1 + n2 + 2 + n3)).toInt = _
                    rw [zI_j _ (by omega), addT_v]
                    rfl
                · show ((goS (uI (uI S10 177 n (S10.1 148 44)) 148 38 ((S10.1 148 38) + 1))).1 173 n).toInt ≠ 0
                  rw [(R8 n (by omega)).1, uI_ne _ _ _ _ (by decide), uI_ne _ _ _ _ (by decide), (m8 n (Nat.le_refl _)).1, uI_ne _ _ _ _ (by decide), (R7 n (Nat.le_refl _)).1, (j8 n (Nat.le_refl _)).1, uI_ne _ _ _ _ (by decide), (R4 n (Nat.le_refl _)).1, (i8 n (Nat.le_refl _)).1, ht0]
                  decide
                · refine fx_t fx10 (fx_t (fc_fx fc_tk) (fx_t (fx_add _ (by omega)) ⟨fun c j q1 q2 q3 => zI_no _ (by omega), fun _ _ _ => rfl⟩))
                · exact kc_t K1 (kc_t K2 (kc_t K3 (kc_t i7 (kc_t K4 (kc_t K5 (kc_t j7 (kc_t K7 (kc_t K8 (kc_t m7 (kc_t (kc_o (by omega)) (kc_t (kc_o (by decide)) K8')))))))))))
                · intro j hj
                  exact rb_t (R1 j (by omega)) (rb_t (rb_o j (.inr (by omega)) (by omega)) (rb_t (rb_o j (.inr (by omega)) (by omega)) (rb_t (i8 j (by omega)) (rb_t (R4 j (by omega)) (rb_t (rb_o j (.inr (by omega)) (by omega)) (rb_t (j8 j (by omega)) (rb_t (R7 j (by omega)) (rb_t (rb_o j (.inr (by omega)) (by omega)) (rb_t (m8 j (by omega)) (rb_t (rb_o j (.inr (by omega)) (by omega)) (rb_t (rb_o j (.inl (by decide)) (by decide)) (R8 j (by omega)))))))))))))
              · obtain ⟨SB, v1, v2⟩ := (show ∃ S', limK (RX (d + 5)) (mdOf 222) 126 [some (.ref 148), some (.int a1), some (.int a2), some (.int x3)] [] S8 = some (none, S') ∧ ftS S' ≠ 0 by
                  rw [q_X12_tellLaw_126, q_X12_tellLaw_12, ne_t (show (S8.1 148 13).toInt ≠ (0 : Int32).toInt from g85), cond_true]
                  exact b129 g86 hl ho hlc (by omega) g85)
                refine .inr ⟨T8, SB, ?_, ?_, fx_t fx10 (fc_fx g83), g84, v2⟩
                · rw [g81]
                  show limK (RX (D + 23)) (mdOf 63) 116 _ [.int 0] _ = _
                  rw [q_X5_takeLaw_116 (hy := hy), show cmpB .ne (0 : Int32) 0 = false from rfl, cond_false, h119]
                · rw [g82]
                  exact v1
            · have hterm2 : RX (d + 5) 223 [.ref 148] (goS S6) = limK (RX (d + 4)) (mdOf 223) 24 [some (.ref 148)] [] S10 := by
                rw [hterm, m2]; rfl
              have hfQ : ftS SQ ≠ 0 := by
                have hb10 : (S10.1 148 38).toInt = (n : Int) := m6.2.1
                have h3 : RX (d + 5) 223 [.ref 148] (goS S6) = some (none, uI (uI S10 177 n (S10.1 148 44)) 148 38 ((S10.1 148 38) + 1)) := by
                  rw [hterm2, q_X12_term_24, inR_of (n := 260) (by omega) (by omega), cond_true, tnc hb10]
                have eQ := rk_inj h3 w1
                simp only at eQ
                rw [← eQ]
                show ((uI _ _ _ _).1 148 13).toInt ≠ 0
                rw [uI_j _ (by decide), uI_ne _ _ _ _ (by decide)]
                exact m5
              obtain ⟨SB, v1, v2⟩ := b120 (d := d) (a1 := a1) (a2 := a2) (a3 := x3) w2 hl ho hlc (by omega) hfQ
              rw [m1, w1]
              refine .inr ⟨T10, SB, ?_, v1, fx_t fx9 ⟨fun c j q1 q2 q3 => m3.1 c j q1 q2 (by omega), m3.2⟩, m4, v2⟩
              show limK (RX (D + 23)) (mdOf 63) 106 _ [.int 0] _ = _
              rw [q_X5_takeLaw_106 (hy := hy), show cmpB .eq (0 : Int32) 0 = true from rfl, cond_true, h119]
          · obtain ⟨SB, v1, v2⟩ := b116 (d := d) (a1 := a1) (a2 := a2) (a3 := x3) g76 hl ho hlc hn g75
            rw [g71, g72]
            refine .inr ⟨T7, SB, ?_, v1, fx_t fx6 (fc_fx g73), g74, v2⟩
            show limK (RX (D + 23)) (mdOf 63) 85 _ [.int 0] _ = _
            rw [q_X5_takeLaw_85 (hy := hy), show cmpB .ne (0 : Int32) 0 = false from rfl, cond_false, h88]
        · obtain ⟨SB, v1, v2⟩ := b110 (d := d) (a1 := a1) (a2 := a2) (a3 := x3) j6 hl ho hlc hn j5
          rw [j1, j2]
          refine .inr ⟨T6, SB, ?_, v1, fx_t fx4 ⟨fun c j q1 q2 q3 => j3.1 c j q1 q2 (by omega), j3.2⟩, j4, v2⟩
          show limK (RX (D + 23)) (mdOf 63) 75 _ [.int 0] _ = _
          rw [q_X5_takeLaw_75 (hy := hy), show cmpB .eq (0 : Int32) 0 = true from rfl, cond_true, h88]
      · obtain ⟨SB, v1, v2⟩ := b86 (d := d) (a1 := a1) (a2 := a2) (a3 := x3) g46 hl ho hlc hn g45
        rw [g41, g42]
        refine .inr ⟨T4, SB, ?_, v1, fx_t fx3 (fc_fx g43), g44, v2⟩
        show limK (RX (D + 23)) (mdOf 63) 67 _ [.int 0] _ = _
        rw [q_X5_takeLaw_67 (hy := hy), show cmpB .eq (0 : Int32) 0 = true from rfl, cond_true, h88]
    · obtain ⟨SB, v1, v2⟩ := b80 (d := d) (a1 := a1) (a2 := a2) (a3 := x3) i6 hl ho hlc hn i5
      rw [i1, i2]
      refine .inr ⟨T3, SB, ?_, v1, fx_t fx1 i3, i4, v2⟩
      show limK (RX (D + 23)) (mdOf 63) 58 _ [.int 0] _ = _
      rw [q_X5_takeLaw_58 (hy := hy), show cmpB .eq (0 : Int32) 0 = true from rfl, cond_true, h88]
  · obtain ⟨SB, v1, v2⟩ := b53 (d := d) (a1 := a1) (a2 := a2) (a3 := x3) (li_po hI g5 (by omega) (fun z => absurd z g6)).1 hl ho hlc hn g6
    rw [g1, g2]
    refine .inr ⟨T', SB, ?_, v1, fc_fx g3, g4, v2⟩
    show limK (RX (D + 23)) (mdOf 63) 50 _ [.int 0] _ = _
    rw [q_X5_takeLaw_50 (hy := hy), show cmpB .eq (0 : Int32) 0 = true from rfl, cond_true, h88]
end BRANCH
end
section
/-! a whole LAW on both sides -/
section LAW3
variable {x y d dm t E L0 c0 w w0 n n0 nC nR e j D a b0 : Nat} {T T' T1 T2 : TZ} {S S' S1 S2 S0 : WS} {k m x1 : Int32} {p p' : Nat} {F F' : Nat → Int} {l : Int}
/-- the last branch: no 'if' -/
theorem last_l {a1 a2 : Int32} {o1c o2c o3 : Option Value} (hy : y = 10 ∨ y = 23) (hl : 0 ≤ l ∧ l ≤ 420) (ho : opS' S0 = 0) (hlc : l ≤ cdS S0) (hC : CU T S E t) (hI : LI S0 l n0 S n) (hn : n ≤ 257) (hp : (T.1 (y + 9) 1).toInt = (p : Int)) (hpt : p + 1 ≤ t) :
    (∃ (T' : TZ) (S' : WS) (t' p' : Nat), limK (RX (D + 23)) (mdOf 63) 150 [some (.ref 1), o1c, o2c] [] (wS x y T) = some (some (.int 1), wS x y T') ∧
      limK (RX (d + 5)) (mdOf 222) 129 [some (.ref 148), some (.int a1), some (.int a2), o3] [] S = limK (RX (d + 5)) (mdOf 222) 143 [some (.ref 148), some (.int a1), some (.int a2), o3] [] S' ∧
      CU T' S' E t' ∧ LI S0 l n0 S' (n + 1) ∧ (T'.1 (y + 9) 1).toInt = (p' : Int) ∧ p ≤ p' ∧ p' ≤ t' ∧ t + 1 ≤ t' ∧ BRl T' S' y p n p' ∧ htF S' n = 0 ∧ FXc y p T T' ∧ KC S S' ∧ (∀ j, j < n → RB S S' j)) ∨
    (∃ T' S', limK (RX (D + 23)) (mdOf 63) 150 [some (.ref 1), o1c, o2c] [] (wS x y T) = some (some (.int 0), wS x y T') ∧
      limK (RX (d + 5)) (mdOf 222) 129 [some (.ref 148), some (.int a1), some (.int a2), o3] [] S = some (none, S') ∧ FXc y p T T' ∧ (T'.1 1 5).toInt ≠ 0 ∧ ftS S' ≠ 0) := by
  have hb : (S.1 148 38).toInt = (n : Int) := hI.2.1
  have hf := hC.2.2.2.2.2.1
  have k1 : (0 : Int) ≤ ((0 : Int32) &&& 1).toInt ∧ ((0 : Int32) &&& 1).toInt ≤ 1 := ⟨by decide, by decide⟩
  have hu : UPD mdLw S (uI S 173 n ((0 : Int32) &&& 1)) := up_a (t := 2) (n := 260) (up_r hI.1.1) rfl rfl rfl (.inl rfl) k1
  obtain ⟨L1, K1⟩ := li_wr (c := 173) hI (.inl rfl) hu
  have hC1 : CU T (uI S 173 n ((0 : Int32) &&& 1)) E t := cu_o hC L1.1.1 (by decide) (fun q => by cases q)
  have hlc1 : l ≤ cdS (uI S 173 n ((0 : Int32) &&& 1)) := Int.le_trans hlc L1.2.2.2.2.1.1
  have ht0 : ((uI S 173 n ((0 : Int32) &&& 1)).1 173 n).toInt = 0 := by rw [uI_i]; rfl
  obtain ⟨SQ, w1, w2, w3, w4, w5⟩ := term_li (d := d) L1 hl (by omega) (by omega) hlc1 (fun z q => absurd ht0 q)
  have hb1 : ((uI S 173 n ((0 : Int32) &&& 1)).1 148 38).toInt = (n : Int) := L1.2.1
  have hf1 : ftS (uI S 173 n ((0 : Int32) &&& 1)) = 0 := hC1.2.2.2.2.2.1
  have hu8 : UPD mdLw (uI S 173 n ((0 : Int32) &&& 1)) (uI (uI S 173 n ((0 : Int32) &&& 1)) 176 n ((uI S 173 n ((0 : Int32) &&& 1)).1 148 44)) := up_a (t := 0) (n := 260) (up_r L1.1.1) rfl rfl rfl (.inl rfl) (cd839 L1.1.1)
  obtain ⟨L8, K8⟩ := li_wr (c := 176) L1 (.inr (.inr (.inr (.inl rfl)))) hu8
  have hC8 : CU T (uI (uI S 173 n ((0 : Int32) &&& 1)) 176 n ((uI S 173 n ((0 : Int32) &&& 1)).1 148 44)) E t := cu_o hC1 L8.1.1 (by decide) (fun q => by cases q)
  have hcd0 := (cd839 hI.1.1).1
  obtain ⟨a, ha⟩ : ∃ a : Nat, cdS S = (a : Int) := ⟨(cdS S).toNat, by omega⟩
  have hcd1 : cdS (uI S 173 n ((0 : Int32) &&& 1)) = (a : Int) := by rw [(cd_o (by omega)).1]; exact ha
  have hcd8 : cdS (uI (uI S 173 n ((0 : Int32) &&& 1)) 176 n ((uI S 173 n ((0 : Int32) &&& 1)).1 148 44)) = (a : Int) := by rw [(cd_o (by omega)).1]; exact hcd1
  have hterm : RX (d + 5) 223 [.ref 148] (uI S 173 n ((0 : Int32) &&& 1)) = kbd (limK (RX (d + 4)) (mdOf 223)) 24 [some (.ref 148)] [] (RX (d + 4) 226 [.ref 148] (uI (uI S 173 n ((0 : Int32) &&& 1)) 176 n ((uI S 173 n ((0 : Int32) &&& 1)).1 148 44))) := by
    rw [e_X12_term, q_X12_term_0, inR_of (n := 260) (by omega) (by omega), cond_true, ne_f (show ((uI S 173 n ((0 : Int32) &&& 1)).1 148 13).toInt = (0 : Int32).toInt from hf1), cond_false, tnc hb1]
  have hr129 : limK (RX (d + 5)) (mdOf 222) 129 [some (.ref 148), some (.int a1), some (.int a2), o3] [] S = kbd (limK (RX (d + 5)) (mdOf 222)) 143 [some (.ref 148), some (.int a1), some (.int a2), o3] [] (RX (d + 5) 223 [.ref 148] (uI S 173 n ((0 : Int32) &&& 1))) := by
    rw [q_X12_tellLaw_129, inR_of (n := 260) (by omega) (by omega), cond_true, tnc hb]
  rw [hr129, q_X5_takeLaw_150 (hy := hy)]
  rcases expr_s (x := x) (d := d) (D := D) hy hC8 L8 hl ho hlc hp hpt hcd8 with ⟨T10, S10, t10, n3, m1, m2, m3, m4, m5, m6, m7, m8, m9, m10, m11, m12, m13⟩ | ⟨T10, S10, m1, m2, m3, m4, m5, m6⟩
  · have hb10 : (S10.1 148 38).toInt = (n : Int) := m6.2.1
    have h10E : t10 ≤ 400 := by have := m3.1.1; have := m3.2.1; omega
    have hterm2 : RX (d + 5) 223 [.ref 148] (uI S 173 n ((0 : Int32) &&& 1)) = some (none, uI (uI S10 177 n (S10.1 148 44)) 148 38 ((S10.1 148 38) + 1)) := by
      rw [hterm, m2]
      show limK (RX (d + 4)) (mdOf 223) 24 _ [] S10 = _
      rw [q_X12_term_24, inR_of (n := 260) (by omega) (by omega), cond_true, tnc hb10]
    have eQ := rk_inj hterm2 w1
    simp only at eQ
    rw [← eQ] at w2
    have hC11 : CU T10 (uI (uI S10 177 n (S10.1 148 44)) 148 38 ((S10.1 148 38) + 1)) E t10 := cu_s m3 w2.1.1
      (fun i _ => by rw [uI_ne _ _ _ _ (by decide), uI_ne _ _ _ _ (by decide)]) (fun i _ => by rw [uI_ne _ _ _ _ (by decide), uI_ne _ _ _ _ (by decide)]) (fun _ _ => rfl)
      (by rw [uI_j _ (by decide), uI_ne _ _ _ _ (by decide)]) (by rw [uI_j _ (by decide), uI_ne _ _ _ _ (by decide)]) (by rw [uI_j _ (by decide), uI_ne _ _ _ _ (by decide)])
    have hp12 := addT_n (y := y) m9 (by omega) (-6)
    have kE : KC S10 (uI (uI S10 177 n (S10.1 148 44)) 148 38 ((S10.1 148 38) + 1)) := kc_t (kc_o (by omega)) (kc_o (by decide))
    have v173 : (uI (uI S10 177 n (S10.1 148 44)) 148 38 ((S10.1 148 38) + 1)).1 173 n = (uI S 173 n ((0 : Int32) &&& 1)).1 173 n := by
      rw [uI_ne _ _ _ _ (by decide), uI_ne _ _ _ _ (by decide), (m8 n (Nat.le_refl _)).1, uI_ne _ _ _ _ (by decide)]
    have v176 : ((uI (uI S10 177 n (S10.1 148 44)) 148 38 ((S10.1 148 38) + 1)).1 176 n).toInt = (a : Int) := by
      rw [uI_ne _ _ _ _ (by decide), uI_ne _ _ _ _ (by decide), (m8 n (Nat.le_refl _)).2.2.2.1, uI_i]
      exact hcd1
    have v177 : ((uI (uI S10 177 n (S10.1 148 44)) 148 38 ((S10.1 148 38) + 1)).1 177 n).toInt = ((a + n3 : Nat) : Int) := by
      rw [uI_ne _ _ _ _ (by decide), uI_i]
      exact m10
    rw [m1, hterm2]
    refine .inl ⟨addT T10 y (p + n3) (-6), uI (uI S10 177 n (S10.1 148 44)) 148 38 ((S10.1 148 38) + 1), t10, p + n3 + 1, ?_, rfl, cu_add hy _ hC11, w2, hp12, by omega, by omega, m4, ⟨?_, fun _ => ⟨a, n3, v176, v177, rfl, ?_, vrb_congr _ _ _ _ (fun j q1 q2 => kE.2 j (.inl (by omega))) m13⟩, fun q => ?_⟩, ?_, ?_, ?_, ?_⟩
    · show limK (RX (D + 23)) (mdOf 63) 155 _ [.int 1] _ = _
      rw [q_X5_takeLaw_155 (hy := hy), show cmpB .ne (1 : Int32) 0 = true from rfl, cond_true, add_c hy m9 (by omega)]
      show limK (RX (D + 23)) (mdOf 63) 172 _ [] _ = _
      rw [q_X5_takeLaw_172 (hy := hy)]
    · show ((uI _ _ _ _).1 177 n).toInt ≤ _
      rw [v177]
      have := kE.1
      omega
    · rw [cl, cl_c (F := Fc T10 y) n3 (fun j q1 q2 => by show ((addT T10 y (p + n3) (-6)).1 (y + 10) j).toInt = (T10.1 (y + 10) j).toInt; rw [addT_o _ (by omega) (by omega)]), m12, cl_c (F := Fr S10) n3 (fun j q1 q2 => kc_fr kE j (by omega))]
      congr 1
      show [((addT T10 y (p + n3) (-6)).1 (y + 10) (p + n3)).toInt] = _
      rw [addT_v]
      rfl
    · refine absurd ?_ q
      show ((uI (uI S10 177 n (S10.1 148 44)) 148 38 ((S10.1 148 38) + 1)).1 173 n).toInt = 0
      rw [v173]; exact ht0
    · show ((uI (uI S10 177 n (S10.1 148 44)) 148 38 ((S10.1 148 38) + 1)).1 173 n).toInt = 0
      rw [v173]; exact ht0
    · exact fx_t m5 (fx_add _ (by omega))
    · exact kc_t K1 (kc_t K8 (kc_t m7 kE))
    · intro j hj
      exact rb_t (rb_o j (.inr (by omega)) (by omega)) (rb_t (rb_o j (.inr (by omega)) (by omega)) (rb_t (m8 j (by omega)) (rb_t (rb_o j (.inr (by omega)) (by omega)) (rb_o j (.inl (by decide)) (by decide)))))
  · have hfQ : ftS SQ ≠ 0 := by
      have hb10 : (S10.1 148 38).toInt = (n : Int) := m6.2.1
      have h3 : RX (d + 5) 223 [.ref 148] (uI S 173 n ((0 : Int32) &&& 1)) = some (none, uI (uI S10 177 n (S10.1 148 44)) 148 38 ((S10.1 148 38) + 1)) := by
        rw [hterm, m2]
        show limK (RX (d + 4)) (mdOf 223) 24 _ [] S10 = _
        rw [q_X12_term_24, inR_of (n := 260) (by omega) (by omega), cond_true, tnc hb10]
      have eQ := rk_inj h3 w1
      simp only at eQ
      rw [← eQ]
      show ((uI _ _ _ _).1 148 13).toInt ≠ 0
      rw [uI_j _ (by decide), uI_ne _ _ _ _ (by decide)]
      exact m5
    rw [m1, w1]
    refine .inr ⟨T10, SQ, ?_, ?_, m3, m4, hfQ⟩
    · show limK (RX (D + 23)) (mdOf 63) 155 _ [.int 0] _ = _
      rw [q_X5_takeLaw_155 (hy := hy), show cmpB .ne (0 : Int32) 0 = false from rfl, cond_false]
    · show limK (RX (d + 5)) (mdOf 222) 143 _ [] SQ = _
      rw [q_X12_tellLaw_143, must_b hfQ w2.1.1]
      show limK (RX (d + 5)) (mdOf 222) 148 _ [] SQ = _
      rw [b148 hfQ w2.1.1]
/-- the branches, one by one -/
theorem loop_l {a1 a2 : Int32} (hy : y = 10 ∨ y = 23) (hl : 0 ≤ l ∧ l ≤ 420) (hb0 : b0 ≤ 130) (ho : opS' S0 = 0) (hlc : l ≤ cdS S0) : ∀ (m k t n p : Nat) (T : TZ) (S : WS) (xc x3 : Int32) (o2c : Option Value), k + m = 4 → xc.toInt = (k : Int) → x3.toInt = (k : Int) → n = n0 + k → CU T S E t → LI S0 l n0 S n → 4 * ((n : Int) - b0) + 2 ≤ (t : Int) → (T.1 (y + 9) 1).toInt = (p : Int) → p + 1 ≤ t → LWl T S y n0 k L0 p →
    (∃ (T' : TZ) (S' : WS) (t' k' p' : Nat) (o3' : Option Value), limK (RX (D + 23)) (mdOf 63) 13 [some (.ref 1), some (.int xc), o2c] [] (wS x y T) = some (some (.int 1), wS x y T') ∧
      limK (RX (d + 5)) (mdOf 222) 12 [some (.ref 148), some (.int a1), some (.int a2), some (.int x3)] [] S = limK (RX (d + 5)) (mdOf 222) 143 [some (.ref 148), some (.int a1), some (.int a2), o3'] [] S' ∧
      CU T' S' E t' ∧ t + 1 ≤ t' ∧ LI S0 l n0 S' (n0 + k' + 1) ∧ 4 * ((n0 + k' + 1 : Nat) - (b0 : Int)) ≤ (t' : Int) + 1 ∧ k' ≤ 4 ∧ (T'.1 (y + 9) 1).toInt = (p' : Int) ∧ p' ≤ t' ∧ LAW T' S' y n0 k' L0 p' ∧ FXc y L0 T T') ∨
    (∃ T' S', limK (RX (D + 23)) (mdOf 63) 13 [some (.ref 1), some (.int xc), o2c] [] (wS x y T) = some (some (.int 0), wS x y T') ∧
      limK (RX (d + 5)) (mdOf 222) 12 [some (.ref 148), some (.int a1), some (.int a2), some (.int x3)] [] S = some (none, S') ∧ FXc y L0 T T' ∧ (T'.1 1 5).toInt ≠ 0 ∧ ftS S' ≠ 0) := by
  intro m
  induction m with
  | zero =>
    intro k t n p T S xc x3 o2c hkm hxc hx3 hn hC hI h4 hp hpt hW
    have hC0 := hC
    obtain ⟨a11, a12, a13, a14, a15, a16, a17, a18⟩ := hC
    have ht4 := tk400 a18
    have hle := lwl_le k L0 p hW
    have hkr := (a11.2.1 t a12).1
    have hgt : cmpB .gt xc 4 = false := gt_f (show _ ≤ (4 : Int32).toInt by show _ ≤ (4 : Int); omega)
    rw [q_X5_takeLaw_13 (hy := hy), hgt, cond_false, a15, q_X12_tellLaw_12, ne_f (show (S.1 148 13).toInt = (0 : Int32).toInt from a16), cond_false]
    rcases is_x (d := d + 4) a18 a14 a16 28 with ⟨c1, c2⟩ | ⟨c1, c2⟩
    · -- too many
      have hk : T.1 5 t = 136 := Int32.toInt_inj.mp ((kr_iff hkr (a := 136) (b := 28) (by decide)).mpr (by rw [c1]; rfl))
      obtain ⟨S', f1, f2, f3⟩ := fail_x (d := d + 4) (m := 2) a18 (.inr rfl)
      have hft2 := ft2 f2.1
      rw [c2, hk, show cmpB .ne (136 : Int32) 136 = false from rfl, cond_false, ne_f (show xc.toInt = (4 : Int32).toInt by show _ = (4 : Int); omega), cond_false, e_X5_stopAt, q_X5_stopAt_0 (hy := hy)]
      refine .inr ⟨zI (zI T 1 5 2) 1 6 (T.1 1 9), S', ?_, ?_, fx_t (fc_fx (fc_i _ (by omega) (by omega))) (fc_fx (fc_i _ (by omega) (by omega))), ?_, f3⟩
      · show limK (RX (D + 23)) (mdOf 63) 42 _ [.int 0] _ = _
        rw [q_X5_takeLaw_42 (hy := hy)]
        rfl
      · show limK (RX (d + 5)) (mdOf 222) 25 _ [.int 1] S = _
        rw [q_X12_tellLaw_25, show cmpB .eq (1 : Int32) 0 = false from rfl, cond_false, ne_f (show x3.toInt = (4 : Int32).toInt by show _ = (4 : Int); omega), cond_false, f1]
        show limK (RX (d + 5)) (mdOf 222) 38 _ [] S' = _
        rw [q_X12_tellLaw_38, le_f (show (0 : Int32).toInt < (S'.1 148 13).toInt by show (0 : Int) < ftS S'; omega), cond_false]
      · rw [zI_j _ (by decide), zI_i]; decide
    · have hk : T.1 5 t ≠ 136 := fun e => c1 (Int32.toInt_inj.mp ((kr_iff hkr (a := 136) (b := 28) (by decide)).mp (by rw [e]; rfl)))
      rw [c2, ne_t (show (T.1 5 t).toInt ≠ (136 : Int32).toInt from fun z => hk (Int32.toInt_inj.mp z)), cond_true]
      show (∃ (T' : TZ) (S' : WS) (t' k' p' : Nat) (o3' : Option Value), _ ∧ limK (RX (d + 5)) (mdOf 222) 25 _ [.int 0] S = _ ∧ _) ∨ (∃ T' S', _ ∧ limK (RX (d + 5)) (mdOf 222) 25 _ [.int 0] S = _ ∧ _)
      rw [q_X12_tellLaw_25, show cmpB .eq (0 : Int32) 0 = true from rfl, cond_true]
      rcases last_l (x := x) (d := d) (D := D) (a1 := a1) (a2 := a2) (o1c := some (.int xc)) (o2c := o2c) (o3 := some (.int x3)) hy hl ho hlc hC0 hI (by omega) hp hpt with ⟨T', S', t', p', i1, i2, i3, i4, i5, i6, i7, i8, i9, i10, i11, i12, i13⟩ | ⟨T', S', i1, i2, i3, i4, i5⟩
      · refine .inl ⟨T', S', t', k, p', _, i1, i2, i3, i8, by rw [← hn]; exact i4, by omega, by omega, i5, i7, ⟨p, lwl_c i12 k L0 p hW (fun j q1 q2 => i11.1 _ _ (by omega) (by omega) (by omega)) (fun j q1 q2 => i13 j (by omega)), i6, by rw [← hn]; exact i9, by rw [← hn]; exact i10⟩, ⟨fun c j q1 q2 q3 => i11.1 c j q1 q2 (by omega), i11.2⟩⟩
      · exact .inr ⟨T', S', i1, i2, ⟨fun c j q1 q2 q3 => i3.1 c j q1 q2 (by omega), i3.2⟩, i4, i5⟩
  | succ m ih =>
    intro k t n p T S xc x3 o2c hkm hxc hx3 hn hC hI h4 hp hpt hW
    have hC0 := hC
    obtain ⟨a11, a12, a13, a14, a15, a16, a17, a18⟩ := hC
    have ht4 := tk400 a18
    have hle := lwl_le k L0 p hW
    have hkr := (a11.2.1 t a12).1
    have hgt : cmpB .gt xc 4 = false := gt_f (show _ ≤ (4 : Int32).toInt by show _ ≤ (4 : Int); omega)
    rw [q_X5_takeLaw_13 (hy := hy), hgt, cond_false, a15, q_X12_tellLaw_12, ne_f (show (S.1 148 13).toInt = (0 : Int32).toInt from a16), cond_false]
    rcases is_x (d := d + 4) a18 a14 a16 28 with ⟨c1, c2⟩ | ⟨c1, c2⟩
    · have hk : T.1 5 t = 136 := Int32.toInt_inj.mp ((kr_iff hkr (a := 136) (b := 28) (by decide)).mpr (by rw [c1]; rfl))
      rw [c2, hk, show cmpB .ne (136 : Int32) 136 = false from rfl, cond_false, ne_t (show xc.toInt ≠ (4 : Int32).toInt by show _ ≠ (4 : Int); omega), cond_true]
      show (∃ (T' : TZ) (S' : WS) (t' k' p' : Nat) (o3' : Option Value), _ ∧ limK (RX (d + 5)) (mdOf 222) 25 _ [.int 1] S = _ ∧ _) ∨ (∃ T' S', _ ∧ limK (RX (d + 5)) (mdOf 222) 25 _ [.int 1] S = _ ∧ _)
      rw [q_X12_tellLaw_25, show cmpB .eq (1 : Int32) 0 = false from rfl, cond_false, ne_t (show x3.toInt ≠ (4 : Int32).toInt by show _ ≠ (4 : Int); omega), cond_true, q_X12_tellLaw_38, le_t (show (S.1 148 13).toInt ≤ (0 : Int32).toInt by show ftS S ≤ 0; omega), cond_true]
      rcases branch_l (x := x) (d := d) (D := D) (x1c := xc) (x3 := x3 + 1) (a1 := a1) (a2 := a2) (o2c := o2c) hy hl ho hlc hC0 hI (by omega) hk hp (by omega) with ⟨T', S', t', p', o2', i1, i2, i3, i4, i5, i6, i7, i8, i9, i10, i11, i12, i13⟩ | ⟨T', S', i1, i2, i3, i4, i5⟩
      · rw [i1, i2, q_X5_takeLaw_144 (hy := hy), q_X12_tellLaw_126]
        have hc1 : (xc + 1).toInt = ((k + 1 : Nat) : Int) := inc_i hxc (by omega)
        have hx31 : (x3 + 1).toInt = ((k + 1 : Nat) : Int) := inc_i hx3 (by omega)
        have hW' : LWl T' S' y n0 (k + 1) L0 p' := ⟨p, lwl_c i12 k L0 p hW (fun j q1 q2 => i11.1 _ _ (by omega) (by omega) (by omega)) (fun j q1 q2 => i13 j (by omega)), i6, by rw [← hn]; exact i9, by rw [← hn]; exact i10⟩
        have hfx : FXc y L0 T T' := ⟨fun c j q1 q2 q3 => i11.1 c j q1 q2 (by omega), i11.2⟩
        rcases ih (k + 1) t' (n + 1) p' T' S' (xc + 1) (x3 + 1) o2' (by omega) hc1 hx31 (by omega) i3 i4 (by omega) i5 i7 hW' with ⟨T2, S2, t2, k2, p2, o3', j1, j2, j3, j4, j5, j6, j7, j8, j9, j10, j11⟩ | ⟨T2, S2, j1, j2, j3, j4, j5⟩
        · exact .inl ⟨T2, S2, t2, k2, p2, o3', j1, j2, j3, by omega, j5, j6, j7, j8, j9, j10, fx_t hfx j11⟩
        · exact .inr ⟨T2, S2, j1, j2, fx_t hfx j3, j4, j5⟩
      · exact .inr ⟨T', S', i1, i2, ⟨fun c j q1 q2 q3 => i3.1 c j q1 q2 (by omega), i3.2⟩, i4, i5⟩
    · have hk : T.1 5 t ≠ 136 := fun e => c1 (Int32.toInt_inj.mp ((kr_iff hkr (a := 136) (b := 28) (by decide)).mp (by rw [e]; rfl)))
      rw [c2, ne_t (show (T.1 5 t).toInt ≠ (136 : Int32).toInt from fun z => hk (Int32.toInt_inj.mp z)), cond_true]
      show (∃ (T' : TZ) (S' : WS) (t' k' p' : Nat) (o3' : Option Value), _ ∧ limK (RX (d + 5)) (mdOf 222) 25 _ [.int 0] S = _ ∧ _) ∨ (∃ T' S', _ ∧ limK (RX (d + 5)) (mdOf 222) 25 _ [.int 0] S = _ ∧ _)
      rw [q_X12_tellLaw_25, show cmpB .eq (0 : Int32) 0 = true from rfl, cond_true]
      rcases last_l (x := x) (d := d) (D := D) (a1 := a1) (a2 := a2) (o1c := some (.int xc)) (o2c := o2c) (o3 := some (.int x3)) hy hl ho hlc hC0 hI (by omega) hp hpt with ⟨T', S', t', p', i1, i2, i3, i4, i5, i6, i7, i8, i9, i10, i11, i12, i13⟩ | ⟨T', S', i1, i2, i3, i4, i5⟩
      · refine .inl ⟨T', S', t', k, p', _, i1, i2, i3, i8, by rw [← hn]; exact i4, by omega, by omega, i5, i7, ⟨p, lwl_c i12 k L0 p hW (fun j q1 q2 => i11.1 _ _ (by omega) (by omega) (by omega)) (fun j q1 q2 => i13 j (by omega)), i6, by rw [← hn]; exact i9, by rw [← hn]; exact i10⟩, ⟨fun c j q1 q2 q3 => i11.1 c j q1 q2 (by omega), i11.2⟩⟩
      · exact .inr ⟨T', S', i1, i2, ⟨fun c j q1 q2 q3 => i3.1 c j q1 q2 (by omega), i3.2⟩, i4, i5⟩
end LAW3
end
section
/-! takeLaw and ';' against tellLaw -/
/-- what the reference notes of a LAW -/
def finS (S' : WS) (a1 n0 : Int32) : WS := bif decide (0 ≤ a1.toInt) then uI (uI S' 171 (((6 : Int32) * (S'.1 148 19)) + a1).toNatClampNeg n0) 172 (((6 : Int32) * (S'.1 148 19)) + a1).toNatClampNeg (S'.1 148 38) else S'
section LAW4
variable {x y d dm t E L0 c0 w w0 n n0 nC nR e j D a b0 : Nat} {T T' T1 T2 : TZ} {S S' S1 S2 S0 : WS} {k m x1 : Int32} {p p' : Nat} {F F' : Nat → Int} {l : Int}
theorem li_r (hw : wok EC (WD S)) (hb : brS S = (n : Int)) (hc : cdS S ≤ l + tkS S) (hf : ftS S = 0) : LI S l n S n :=
  ⟨up_r hw, hb, Nat.le_refl _, Int.le_refl _, kc_r S, by omega, fun _ => ⟨hc, rfl, hf⟩, fun _ _ => ⟨rfl, rfl, rfl, rfl, rfl⟩, fun _ b q1 q2 => by omega⟩
theorem law_l {a1 : Int32} (hy : y = 10 ∨ y = 23) (hl : 0 ≤ l ∧ l ≤ 420) (hb0 : b0 ≤ 130) (hC : CU T S E t) (hop : opS' S = 0) (hlc : l ≤ cdS S) (hcd : cdS S ≤ l + tkS S) (hbr : brS S = (n0 : Int)) (hn0 : b0 ≤ n0) (h4 : 4 * ((n0 : Int) - b0) + 1 ≤ (t : Int)) (hp : (T.1 (y + 9) 1).toInt = (L0 : Int)) (hpt : L0 ≤ t) (ha : -1 ≤ a1.toInt ∧ a1.toInt ≤ 5) :
    (∃ (T1 T' : TZ) (S' : WS) (t' k' p' : Nat), RX (D + 24) 63 [.ref 1] (wS x y T) = some (some (.int 1), wS x y T1) ∧ RX (D + 24) 67 [.ref 1, .int 59] (wS x y T1) = some (some (.int 1), wS x y T') ∧
      RX (d + 6) 222 [.ref 148, .int a1] S = some (none, finS S' a1 (S.1 148 38)) ∧
      CU T' S' E t' ∧ t + 3 ≤ t' ∧ LI S l n0 S' (n0 + k' + 1) ∧ 4 * ((n0 + k' + 1 : Nat) - (b0 : Int)) ≤ (t' : Int) ∧ k' ≤ 4 ∧ (T'.1 (y + 9) 1).toInt = (p' : Int) ∧ p' + 1 ≤ t' ∧ LAW T' S' y n0 k' L0 p' ∧ FXc y L0 T T') ∨
    (∃ T' S', (RX (D + 24) 63 [.ref 1] (wS x y T) = some (some (.int 0), wS x y T') ∨ ∃ T1, RX (D + 24) 63 [.ref 1] (wS x y T) = some (some (.int 1), wS x y T1) ∧ RX (D + 24) 67 [.ref 1, .int 59] (wS x y T1) = some (some (.int 0), wS x y T')) ∧
      RX (d + 6) 222 [.ref 148, .int a1] S = some (none, S') ∧ FXc y L0 T T' ∧ (T'.1 1 5).toInt ≠ 0 ∧ ftS S' ≠ 0) := by
  have hI := li_r (l := l) hC.2.2.2.2.2.2.2 hbr hcd hC.2.2.2.2.2.1
  have hcl : RX (D + 24) 63 [.ref 1] (wS x y T) = kbd (limK (RX (D + 23)) (mdOf 63)) 6 [some (.ref 1), none, none] [] (RX (D + 23) 67 [.ref 1, .int 61] (wS x y T)) := by
    rw [e_X5_takeLaw, q_X5_takeLaw_0 (hy := hy)]
  have hrf : RX (d + 6) 222 [.ref 148, .int a1] S = kbd (limK (RX (d + 5)) (mdOf 222)) 5 [some (.ref 148), some (.int a1), none, none] [] (RX (d + 5) 209 [.ref 148, .int 5] S) := by
    rw [e_X12_tellLaw, q_X12_tellLaw_0]
  have ht4 := tk400 hI.1.1
  have htS := hC.2.2.2.1
  rcases take_s (x := x) (k := 61) (m := 5) (d := D + 22) (dm := d + 2) hy hC hI (by decide) (by decide) (by decide) with ⟨-, g1, g2, g3, I1, K1, R1⟩ | ⟨T', S', g1, g2, g3, g4, g5, g6⟩
  · have hcl2 : RX (D + 24) 63 [.ref 1] (wS x y T) = limK (RX (D + 23)) (mdOf 63) 13 [some (.ref 1), some (.int 0), none] [] (wS x y (tkT T t)) := by
      rw [hcl, g1]
      show limK (RX (D + 23)) (mdOf 63) 6 _ [.int 1] _ = _
      rw [q_X5_takeLaw_6 (hy := hy), show cmpB .ne (1 : Int32) 0 = true from rfl, cond_true]
    have hrf2 : RX (d + 6) 222 [.ref 148, .int a1] S = limK (RX (d + 5)) (mdOf 222) 12 [some (.ref 148), some (.int a1), some (.int (S.1 148 38)), some (.int 0)] [] (goS S) := by
      rw [hrf, g2]
      show limK (RX (d + 5)) (mdOf 222) 5 _ [] _ = _
      rw [q_X12_tellLaw_5, go_j (by decide)]
    have hp1 : ((tkT T t).1 (y + 9) 1).toInt = (L0 : Int) := by rw [fc_tk.1 _ _ (by omega)]; exact hp
    rw [hrf2]
    rcases loop_l (x := x) (d := d) (D := D) (a1 := a1) (a2 := S.1 148 38) (l := l) (b0 := b0) (n0 := n0) (S0 := S) (L0 := L0) hy hl hb0 hop hlc 4 0 (t + 1) n0 L0 (tkT T t) (goS S) 0 0 none rfl rfl rfl rfl g3 I1 (by omega) hp1 (by omega) rfl with ⟨T3, S3, t3, k3, p3, o3, i1, i2, i3, i4, i5, i6, i7, i8, i9, i10, i11⟩ | ⟨T3, S3, i1, i2, i3, i4, i5⟩
    · rw [i2]
      have fx3 : FXc y L0 T T3 := fx_t (fc_fx fc_tk) i11
      have h143 : limK (RX (d + 5)) (mdOf 222) 143 [some (.ref 148), some (.int a1), some (.int (S.1 148 38)), o3] [] S3 = kbd (limK (RX (d + 5)) (mdOf 222)) 148 [some (.ref 148), some (.int a1), some (.int (S.1 148 38)), o3] [] (RX (d + 5) 209 [.ref 148, .int 4] S3) := q_X12_tellLaw_143 _ _ _ _ _
      rw [h143]
      rcases take_s (x := x) (k := 59) (m := 4) (d := D + 23) (dm := d + 2) hy i3 i5 (by decide) (by decide) (by decide) with ⟨-, j1, j2, j3, I2, K2, R2⟩ | ⟨T', S', j1, j2, j3, j4, j5, j6⟩
      · have hsd : (goS S3).1 148 19 = S3.1 148 19 := go_j (by decide)
        have h19 : 0 ≤ ((goS S3).1 148 19).toInt ∧ ((goS S3).1 148 19).toInt ≤ 1 := wfd (a := .inl (0, 0)) I2.1.1 rfl rfl rfl rfl
        have hf2 : ftS (goS S3) = 0 := j3.2.2.2.2.2.1
        refine .inl ⟨T3, tkT T3 t3, goS S3, t3 + 1, k3, p3, by rw [hcl2, i1], j1, ?_, j3, by omega, I2, by omega, i7, ?_, by omega, ?_, fx_t fx3 (fc_fx fc_tk)⟩
        · rw [j2]
          show limK (RX (d + 5)) (mdOf 222) 148 _ [] (goS S3) = _
          rw [q_X12_tellLaw_148, gt_f (show ((goS S3).1 148 13).toInt ≤ (0 : Int32).toInt by show ftS (goS S3) ≤ 0; omega), cond_false]
          have e6 : (6 : Int32).toInt = 6 := rfl
          have hm : ((6 : Int32) * ((goS S3).1 148 19)).toInt = 6 * ((goS S3).1 148 19).toInt := by
            rw [Int32.toInt_mul, e6]
            exact bm32 (by omega) (by omega)
          have hi : (((6 : Int32) * ((goS S3).1 148 19)) + a1).toInt = 6 * ((goS S3).1 148 19).toInt + a1.toInt := by rw [ad_i (by omega) (by omega), hm]
          unfold finS
          by_cases hz : 0 ≤ a1.toInt
          · rw [ge_t (show (0 : Int32).toInt ≤ a1.toInt from hz), cond_true, inR_of (by omega) (by omega), cond_true, cond_true, decide_eq_true hz]
            rfl
          · rw [ge_f (show a1.toInt < (0 : Int32).toInt by show _ < (0 : Int); omega), cond_false, decide_eq_false hz, q_X12_tellLaw_159]
            rfl
        · rw [fc_tk.1 _ _ (by omega)]; exact i8
        · exact law_c K2 i10 (fun j q1 q2 => fc_tk.1 _ _ (by omega)) (fun j q1 q2 => R2 j (by omega))
      · refine .inr ⟨T', S', .inr ⟨T3, by rw [hcl2, i1], j1⟩, ?_, fx_t fx3 (fc_fx j3), j4, j5⟩
        rw [j2]
        show limK (RX (d + 5)) (mdOf 222) 148 _ [] S' = _
        exact b148 j5 j6.1.1
    · exact .inr ⟨T3, S3, .inl (by rw [hcl2, i1]), i2, fx_t (fc_fx fc_tk) i3, i4, i5⟩
  · obtain ⟨SB, v1, v2⟩ := b129 (d := d) (a1 := a1) (a2 := S'.1 148 38) (o3 := some (.int 0)) g6 hl hop hlc (by omega) g5
    refine .inr ⟨T', SB, .inl ?_, ?_, fc_fx g3, g4, v2⟩
    · rw [hcl, g1]
      show limK (RX (D + 23)) (mdOf 63) 6 _ [.int 0] _ = _
      rw [q_X5_takeLaw_6 (hy := hy), show cmpB .ne (0 : Int32) 0 = false from rfl, cond_false]
    · rw [hrf, g2]
      show limK (RX (d + 5)) (mdOf 222) 5 _ [] _ = _
      rw [q_X12_tellLaw_5, q_X12_tellLaw_12, ne_t (show (S'.1 148 13).toInt ≠ (0 : Int32).toInt from g5), cond_true]
      exact v1
end LAW4
end
section
/-! names and ints of a thing told, on both sides -/
/-- the reference's place and flags alone change -/
def FS (S S' : WS) : Prop := (∀ c j, ¬ (c = 148 ∧ 11 ≤ j ∧ j ≤ 16 ∧ j ≠ 12) → S'.1 c j = S.1 c j) ∧ S'.2 = S.2
/-- n names, alike on both sides, each once -/
def NM (T : TZ) (S : WS) (n : Nat) : Prop := n ≤ 16 ∧ (T.1 1 3).toInt = (n : Int) ∧ nmS S = (n : Int) ∧ (∀ i, i < n → NMR (T.2 8 i) (S.2.1 156 i) ∧ T.1 9 i = S.1 157 i ∧ 0 ≤ (T.1 9 i).toInt ∧ (T.1 9 i).toInt ≤ 15) ∧ ∀ i j, i < j → j < n → T.2 8 i ≠ T.2 8 j
section TEL
variable {x y d dm t E n : Nat} {T T' T1 T2 : TZ} {S S' S1 S2 : WS} {k m x1 x2 : Int32}
theorem fs_r (S : WS) : FS S S := ⟨fun _ _ _ => rfl, rfl⟩
theorem fs_t (h : FS S S1) (k : FS S1 S2) : FS S S2 := ⟨fun c j q => (k.1 c j q).trans (h.1 c j q), k.2.trans h.2⟩
theorem fs_i {j : Nat} (v : Int32) (h : 11 ≤ j ∧ j ≤ 16 ∧ j ≠ 12) : FS S (uI S 148 j v) := ⟨fun c i q => uI_no _ _ _ _ (fun z => q ⟨z.1, by omega, by omega, by omega⟩), rfl⟩
theorem fs_go : FS S (goS S) := fs_i _ (by omega)
theorem cu_fs (h : CU T S E t) (hT : FC T T') (hS : FS S S') (h7 : T'.1 1 7 = T.1 1 7) (h8 : T'.1 1 8 = T.1 1 8) (ht : tkS S' = tkS S) (hf : ftS S' = 0) (hb : BLM T' S') (hw : wok EC (WD S')) : CU T' S' E t := by
  obtain ⟨a1, a2, a3, a4, a5, a6, a7, a8⟩ := h
  exact ⟨tok_c (fun i => hT.1 5 i (by omega)) (fun i => hT.2 7 i (by omega)) (fun i _ => hS.1 151 i (by omega)) (fun i _ => hS.1 153 i (by omega)) (fun i _ => by rw [hS.2]) a1, a2, by rw [h7]; exact a3, by rw [ht]; exact a4, by rw [h8, hT.1 5 t (by omega)]; exact a5, hf, hb, hw⟩
theorem wrong_s (hw : wok EC (WD S)) (h2 : 0 ≤ x2.toInt ∧ x2.toInt ≤ 402) (h1 : 0 < x1.toInt ∧ x1.toInt ≤ 5) (hf : ftS S = 0) : ∃ S', RX (d + 1) 207 [.ref 148, .int x1, .int x2] S = some (none, S') ∧ FS S S' ∧ wok EC (WD S') ∧ ftS S' = 0 ∧ tkS S' = tkS S ∧ woS S' ≠ 0 := by
  have h0 : x1.toInt ≠ 0 := by omega
  have h46 : ∀ o2 x3, ∃ S', limK (RX d) (mdOf 207) 46 [some (.ref 148), some (.int x1), o2, some (.int x3)] [] S = some (none, S') ∧ FS S S' ∧ wok EC (WD S') ∧ ftS S' = 0 ∧ tkS S' = tkS S ∧ woS S' ≠ 0 := fun o2 x3 => by
    rw [q_X12_wrong_46]
    exact ⟨_, rfl, fs_t (fs_i _ (by omega)) (fs_i _ (by omega)), (up_f (md := [(47, 15), (47, 16)]) (up_f (up_r hw) rfl rfl rfl rfl rfl ⟨by omega, by omega⟩) rfl rfl rfl rfl rfl (r32 _)).1, hf, rfl, h0⟩
  have h45 : ∀ o2 x3, woS S ≠ 0 → ∃ S', limK (RX d) (mdOf 207) 45 [some (.ref 148), some (.int x1), o2, some (.int x3)] [] S = some (none, S') ∧ FS S S' ∧ wok EC (WD S') ∧ ftS S' = 0 ∧ tkS S' = tkS S ∧ woS S' ≠ 0 := fun o2 x3 g => by
    rw [q_X12_wrong_45]
    exact ⟨S, rfl, fs_r S, hw, hf, rfl, g⟩
  rw [e_X12_wrong, q_X12_wrong_0, inR_of (n := 403) (by omega) (by omega), cond_true, gt_f (show (S.1 148 13).toInt ≤ (0 : Int32).toInt by show ftS S ≤ 0; omega), cond_false]
  rcases c_eq (S.1 148 15) 0 with ⟨b1, b2⟩ | ⟨b1, b2⟩
  · rw [b1, cond_true]; exact h46 _ _
  · have b2 : woS S ≠ 0 := b2
    rw [b1, cond_false]
    cases cmpB .gt (S.1 152 x2.toNatClampNeg) (S.1 148 16) with
    | true => rw [cond_true]; exact h45 _ _ b2
    | false =>
      rw [cond_false]
      cases cmpB .ne (S.1 152 x2.toNatClampNeg) (S.1 148 16) with
      | true => rw [cond_true]; exact h46 _ _
      | false =>
        rw [cond_false]
        cases cmpB .lt x1 (S.1 148 15) with
        | true => rw [cond_true]; exact h46 _ _
        | false => rw [cond_false]; exact h45 _ _ b2
theorem blame_c (hy : y = 10 ∨ y = 23) (hk : k.toInt ≠ 0) : ∃ T', RX (d + 1) 75 [.ref 1, .int k] (wS x y T) = some (none, wS x y T') ∧ FC T T' ∧ (T'.1 1 5).toInt ≠ 0 ∧ T'.1 1 7 = T.1 1 7 ∧ T'.1 1 8 = T.1 1 8 ∧ T'.2 = T.2 := by
  rw [e_X5_blame, q_X5_blame_0 (hy := hy)]
  rcases c_ne (T.1 1 5) 0 with ⟨a1, a2⟩ | ⟨a1, a2⟩
  · rw [a1, cond_true, q_X5_blame_20 (hy := hy)]
    exact ⟨T, rfl, fc_r T, a2, rfl, rfl, rfl⟩
  · rw [a1, cond_false, q_X5_blame_20 (hy := hy)]
    refine ⟨_, rfl, fc_t (fc_i _ (by omega) (by omega)) (fc_i _ (by omega) (by omega)), ?_, ?_, ?_, rfl⟩
    · rw [zI_j _ (by decide), zI_i]; exact hk
    · rw [zI_j _ (by decide), zI_j _ (by decide)]
    · rw [zI_j _ (by decide), zI_j _ (by decide)]
theorem taken_c (hy : y = 10 ∨ y = 23) : RX (d + 1) 73 [.ref 1] (wS x y T) = some (some (.int ((T.2 1 10).toInt32)), wS x y T) := by
  rw [e_X5_taken, q_X5_taken_0 (hy := hy)]
theorem tk_fs (h : FS S S') (h11 : S'.1 148 11 = S.1 148 11) : tkS S' = tkS S := by show (S'.1 148 11).toInt = _; rw [h11]
/-- an int within bounds -/
theorem int_l (hy : y = 10 ∨ y = 23) (h : CU T S E t) :
    (∃ T' S', RX (d + 2) 68 [.ref 1, .int x1, .int x2] (wS x y T) = some (some (.int 1), wS x y T') ∧ RX (dm + 3) 218 [.ref 148, .int x1, .int x2] S = some (some (.int (S.1 153 t)), S') ∧ CU T' S' E (t + 1) ∧ FC T T' ∧ FS S S' ∧ (T'.2 1 10).toInt32 = S.1 153 t ∧ (0 ≤ (S.1 153 t).toInt ∧ (S.1 153 t).toInt ≤ 9999) ∧ ((T'.1 1 5).toInt = 0 → (T.1 1 5).toInt = 0 ∧ x1.toInt ≤ (S.1 153 t).toInt ∧ (S.1 153 t).toInt ≤ x2.toInt)) ∨
    (∃ T' S' r, RX (d + 2) 68 [.ref 1, .int x1, .int x2] (wS x y T) = some (some (.int 0), wS x y T') ∧ RX (dm + 3) 218 [.ref 148, .int x1, .int x2] S = some (some (.int r), S') ∧ (T'.1 1 5).toInt ≠ 0 ∧ ftS S' ≠ 0 ∧ wok EC (WD S')) := by
  have hC := h
  obtain ⟨a1, a2, a3, a4, a5, a6, a7, a8⟩ := h
  have hE := a1.1
  have hkr := kr_iff (a1.2.1 t a2).1 (show ((3 : Int), (2 : Int)) ∈ kT by decide)
  have hcl : RX (d + 2) 68 [.ref 1, .int x1, .int x2] (wS x y T) = kbd (limK (RX (d + 1)) (mdOf 68)) 5 [some (.ref 1), some (.int x1), some (.int x2)] [] (RX (d + 1) 67 [.ref 1, .int 3] (wS x y T)) := by rw [e_X5_takeInt, q_X5_takeInt_0 (hy := hy)]
  have hrf : RX (dm + 3) 218 [.ref 148, .int x1, .int x2] S = kbd (limK (RX (dm + 2)) (mdOf 218)) 12 [some (.ref 148), some (.int x1), some (.int x2), none] [] (RX (dm + 2) 205 [.ref 148, .int 2] S) := by
    rw [e_X12_bounded, q_X12_bounded_0, gt_f (show (S.1 148 13).toInt ≤ (0 : Int32).toInt by show ftS S ≤ 0; omega), cond_false]
  have hc0 : ∀ T', RX (d + 1) 67 [.ref 1, .int 3] (wS x y T) = some (some (.int 0), wS x y T') → RX (d + 2) 68 [.ref 1, .int x1, .int x2] (wS x y T) = some (some (.int 0), wS x y T') := fun T' q => by
    rw [hcl, q]
    show limK (RX (d + 1)) (mdOf 68) 5 _ [.int 0] _ = _
    rw [q_X5_takeInt_5 (hy := hy)]
    rfl
  rcases is_x (d := dm + 1) a8 a4 a6 2 with ⟨b1, b2⟩ | ⟨b1, b2⟩
  · have hk3 : T.1 5 t = 3 := Int32.toInt_inj.mp (hkr.mpr (by rw [b1]; rfl))
    obtain ⟨v1, v2, v3⟩ := (a1.2.1 t a2).2.1 (by rw [hk3]; rfl)
    have hv : (T.2 7 t).toInt32 = S.1 153 t := Int32.toInt_inj.mp (by rw [Int64.toInt_toInt32, v1]; exact bm32 (by omega) (by omega))
    have h12 : kbd (limK (RX (dm + 2)) (mdOf 218)) 12 [some (.ref 148), some (.int x1), some (.int x2), none] [] (RX (dm + 2) 205 [.ref 148, .int 2] S) = cond (cmpB .lt (S.1 153 t) x1) (limK (RX (dm + 2)) (mdOf 218) 42 [some (.ref 148), some (.int x1), some (.int x2), some (.int (S.1 153 t))] [] S) (cond (cmpB .le (S.1 153 t) x2) (limK (RX (dm + 2)) (mdOf 218) 51 [some (.ref 148), some (.int x1), some (.int x2), some (.int (S.1 153 t))] [] S) (limK (RX (dm + 2)) (mdOf 218) 42 [some (.ref 148), some (.int x1), some (.int x2), some (.int (S.1 153 t))] [] S)) := by
      rw [b2]
      show limK (RX (dm + 2)) (mdOf 218) 12 _ [.int 1] S = _
      rw [q_X12_bounded_12, show cmpB .ne (1 : Int32) 0 = true from rfl, cond_true, inR_of (n := 403) (by show 0 ≤ tkS S; omega) (by show tkS S < _; omega), cond_true, tnc (show (S.1 148 11).toInt = (t : Int) from a4)]
    obtain ⟨S1, m1, m2, m3, m4, m5, m6⟩ : ∃ S1, RX (dm + 3) 218 [.ref 148, .int x1, .int x2] S = kbd (limK (RX (dm + 2)) (mdOf 218)) 55 [some (.ref 148), some (.int x1), some (.int x2), some (.int (S.1 153 t))] [] (RX (dm + 2) 208 [.ref 148] S1) ∧ FS S S1 ∧ wok EC (WD S1) ∧ ftS S1 = 0 ∧ tkS S1 = tkS S ∧ ((S1 = S ∧ x1.toInt ≤ (S.1 153 t).toInt ∧ (S.1 153 t).toInt ≤ x2.toInt) ∨ (woS S1 ≠ 0 ∧ ¬ (x1.toInt ≤ (S.1 153 t).toInt ∧ (S.1 153 t).toInt ≤ x2.toInt))) := by
      have h42 : ¬ (x1.toInt ≤ (S.1 153 t).toInt ∧ (S.1 153 t).toInt ≤ x2.toInt) → ∃ S1, limK (RX (dm + 2)) (mdOf 218) 42 [some (.ref 148), some (.int x1), some (.int x2), some (.int (S.1 153 t))] [] S = kbd (limK (RX (dm + 2)) (mdOf 218)) 55 [some (.ref 148), some (.int x1), some (.int x2), some (.int (S.1 153 t))] [] (RX (dm + 2) 208 [.ref 148] S1) ∧ FS S S1 ∧ wok EC (WD S1) ∧ ftS S1 = 0 ∧ tkS S1 = tkS S ∧ ((S1 = S ∧ x1.toInt ≤ (S.1 153 t).toInt ∧ (S.1 153 t).toInt ≤ x2.toInt) ∨ (woS S1 ≠ 0 ∧ ¬ (x1.toInt ≤ (S.1 153 t).toInt ∧ (S.1 153 t).toInt ≤ x2.toInt))) := fun q => by
        obtain ⟨S1, w1, w2, w3, w4, w5, w6⟩ := wrong_s (d := dm + 1) (x1 := 5) (x2 := S.1 148 11) a8 (by show 0 ≤ tkS S ∧ tkS S ≤ 402; omega) (by decide) a6
        refine ⟨S1, ?_, w2, w3, w4, w5, .inr ⟨w6, q⟩⟩
        rw [q_X12_bounded_42, w1]
        show limK (RX (dm + 2)) (mdOf 218) 51 _ [] S1 = _
        rw [q_X12_bounded_51]
      rw [hrf, h12]
      rcases c_lt (S.1 153 t) x1 with ⟨c1, c2⟩ | ⟨c1, c2⟩
      · rw [c1, cond_true]
        exact h42 (by omega)
      · rw [c1, cond_false]
        rcases c_le (S.1 153 t) x2 with ⟨e1, e2⟩ | ⟨e1, e2⟩
        · rw [e1, cond_true, q_X12_bounded_51]
          exact ⟨S, rfl, fs_r S, a8, a6, rfl, .inl ⟨rfl, c2, e2⟩⟩
        · rw [e1, cond_false]
          exact h42 (by omega)
    have m4t : tkS S1 = (t : Int) := by omega
    rcases take_y (x := x) (d := d) hy a5 a3 (by omega) 3 with ⟨c1, c2, c3⟩ | ⟨c1, T', c2, c3, c4⟩
    · rcases goesOn_x (d := dm) m3 m4t with ⟨g1, g2, g3⟩ | ⟨g1, -⟩
      · have hr55 : RX (dm + 3) 218 [.ref 148, .int x1, .int x2] S = some (some (.int (S.1 153 t)), goS S1) := by
          rw [m1, g2]
          show limK (RX (dm + 2)) (mdOf 218) 55 _ [] _ = _
          rw [q_X12_bounded_55]
        have hCt := cu_n hC (by rw [hk3]; decide) (by rw [hk3]; decide) g1 (show wok EC (WD (goS S)) from (by
          have := go_up a8 (by omega : tkS S < 400)
          exact this.1))
        have h14 : RX (d + 2) 68 [.ref 1, .int x1, .int x2] (wS x y T) = cond (cmpB .lt (S.1 153 t) x1) (limK (RX (d + 1)) (mdOf 68) 26 [some (.ref 1), some (.int x1), some (.int x2)] [] (wS x y (tkT T t))) (cond (cmpB .le (S.1 153 t) x2) (limK (RX (d + 1)) (mdOf 68) 31 [some (.ref 1), some (.int x1), some (.int x2)] [] (wS x y (tkT T t))) (limK (RX (d + 1)) (mdOf 68) 26 [some (.ref 1), some (.int x1), some (.int x2)] [] (wS x y (tkT T t)))) := by
          have ht7 : RX (d + 1) 73 [.ref 1] (wS x y (tkT T t)) = some (some (.int (S.1 153 t)), wS x y (tkT T t)) := by rw [taken_c hy, tk_10, hv]
          rw [hcl, c3]
          show limK (RX (d + 1)) (mdOf 68) 5 _ [.int 1] _ = _
          rw [q_X5_takeInt_5 (hy := hy), show cmpB .ne (1 : Int32) 0 = true from rfl, cond_true, ht7]
          show limK (RX (d + 1)) (mdOf 68) 14 _ [.int (S.1 153 t)] _ = _
          rw [q_X5_takeInt_14 (hy := hy), ht7]
          congr 1
          show limK (RX (d + 1)) (mdOf 68) 22 _ [.int (S.1 153 t)] _ = _
          rw [q_X5_takeInt_22 (hy := hy)]
        rcases m6 with ⟨rfl, p1, p2⟩ | ⟨p1, p2⟩
        · refine .inl ⟨tkT T t, goS S1, ?_, hr55, hCt, fc_tk, fs_go, by rw [tk_10, hv], by omega, fun z => ⟨by rw [tk_5] at z; exact z, p1, p2⟩⟩
          rw [h14, lt_f p1, cond_false, le_t p2, cond_true, q_X5_takeInt_31 (hy := hy)]
        · obtain ⟨T', t1, t2, t3, t4, t5, t6⟩ := blame_c (x := x) (d := d) (T := tkT T t) (k := 5) hy (by decide)
          have h26 : limK (RX (d + 1)) (mdOf 68) 26 [some (.ref 1), some (.int x1), some (.int x2)] [] (wS x y (tkT T t)) = some (some (.int 1), wS x y T') := by
            rw [q_X5_takeInt_26 (hy := hy), t1]
            show limK (RX (d + 1)) (mdOf 68) 31 _ [] _ = _
            rw [q_X5_takeInt_31 (hy := hy)]
          have hwo : woS (goS S1) = woS S1 := by show ((goS S1).1 148 15).toInt = _; rw [go_j (by decide)]
          refine .inl ⟨T', goS S1, ?_, hr55, ?_, fc_t fc_tk t2, fs_t m2 fs_go, by rw [t6, tk_10, hv], by omega, fun z => absurd z t3⟩
          · rw [h14]
            rcases c_lt (S.1 153 t) x1 with ⟨e1, e2⟩ | ⟨e1, e2⟩
            · rw [e1, cond_true, h26]
            · rw [e1, cond_false, le_f (by omega), cond_false, h26]
          · refine cu_fs (S := goS S) hCt t2 ?_ t4 t5 ?_ ?_ (.inr ⟨t3, by rw [hwo]; exact p1⟩) g3
            · refine ⟨fun c j q => ?_, m2.2⟩
              rw [fs_go.1 c j q, m2.1 c j q]
              exact (fs_go.1 c j q).symm
            · have := go_tk a8
              have := go_tk m3
              omega
            · show ((goS S1).1 148 13).toInt = 0
              rw [go_j (by decide)]; exact m4
      · omega
    · rcases goesOn_x (d := dm) m3 m4t with ⟨g1, -⟩ | ⟨g1, S', g2, g3, g4, g5⟩
      · rcases c1 with c1 | c1
        · exact absurd hk3 c1
        · omega
      · refine .inr ⟨T', S', S.1 153 t, hc0 T' c2, ?_, c4, g4, g3.1⟩
        rw [m1, g2]
        show limK (RX (dm + 2)) (mdOf 218) 55 _ [] _ = _
        rw [q_X12_bounded_55]
  · rcases take_y (x := x) (d := d) hy a5 a3 (by omega) 3 with ⟨c1, c2, c3⟩ | ⟨c1, T', c2, c3, c4⟩
    · exact absurd (Int32.toInt_inj.mp (hkr.mp (by rw [c1]; rfl))) b1
    · obtain ⟨S', q1, q2, q3⟩ := fail_x (d := dm + 1) (m := 1) a8 (.inl rfl)
      refine .inr ⟨T', S', x1, hc0 T' c2, ?_, c4, q3, q2.1⟩
      rw [hrf, b2]
      show limK (RX (dm + 2)) (mdOf 218) 12 _ [.int 0] S = _
      rw [q_X12_bounded_12, show cmpB .ne (0 : Int32) 0 = false from rfl, cond_false, q_X12_bounded_15, q1]
      show limK (RX (dm + 2)) (mdOf 218) 20 _ [] _ = _
      rw [q_X12_bounded_20]
end TEL
end
