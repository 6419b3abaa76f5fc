/-! a law: branches -/
abbrev brS (S : WS) : Int := (S.1 148 38).toInt
abbrev htF (S : WS) (j : Nat) : Int := (S.1 173 j).toInt
abbrev tfF (S : WS) (j : Nat) : Int := (S.1 174 j).toInt
abbrev tmF (S : WS) (j : Nat) : Int := (S.1 175 j).toInt
abbrev ttF (S : WS) (j : Nat) : Int := (S.1 176 j).toInt
abbrev teF (S : WS) (j : Nat) : Int := (S.1 177 j).toInt
def mdLw : MDs := [(47, 11), (47, 12), (47, 13), (47, 14), (47, 44), (47, 48), (77, 1000), (78, 1000), (79, 1000), (47, 38), (72, 1000), (73, 1000), (74, 1000), (75, 1000), (76, 1000)]
def SegR (S : WS) (l f t : Int) : Prop := 0 ≤ l ∧ l ≤ f ∧ f ≤ t ∧ t ≤ f + 400 ∧ t ≤ l + 420 ∧ t ≤ cdS S ∧ vr (cdF S) (ciF S) (t - f).toNat f.toNat 0 1
def BR (S : WS) (l : Int) (b : Nat) : Prop := (htF S b ≠ 0 → SegR S l (tfF S b) (tmF S b) ∧ SegR S l (tmF S b) (ttF S b)) ∧ SegR S l (ttF S b) (teF S b)
def KC (S S' : WS) : Prop := cdS S ≤ cdS S' ∧ ∀ j : Nat, ((j : Int) < cdS S ∨ (cdS S' ≤ (j : Int) ∧ j < 840)) → cdF S' j = cdF S j ∧ ciF S' j = ciF S j
def RB (S S1 : WS) (j : Nat) : Prop := S1.1 173 j = S.1 173 j ∧ S1.1 174 j = S.1 174 j ∧ S1.1 175 j = S.1 175 j ∧ S1.1 176 j = S.1 176 j ∧ S1.1 177 j = S.1 177 j
def LI (S0 : WS) (l : Int) (n0 : Nat) (S : WS) (n : Nat) : Prop :=
  UPD mdLw S0 S ∧ brS S = (n : Int) ∧ n0 ≤ n ∧ tkS S0 ≤ tkS S ∧ KC S0 S ∧ cdS S ≤ l + tkS S + 1 ∧ (ftS S = 0 → cdS S ≤ l + tkS S ∧ opS' S = opS' S0 ∧ ftS S0 = 0) ∧ (∀ j : Nat, (j < n0 ∨ (n < j ∧ j < 260)) → RB S0 S j) ∧ (ftS S = 0 → ∀ b, n0 ≤ b → b < n → BR S l b)
section LAW
variable {S S0 S1 S2 : WS} {d n n0 : Nat} {l f t : Int} {x1 : Int32}
theorem kc_r (S : WS) : KC S S := ⟨Int.le_refl _, fun _ _ => ⟨rfl, rfl⟩⟩
theorem kc_t (h : KC S S1) (k : KC S1 S2) : KC S S2 := ⟨Int.le_trans h.1 k.1, fun j hj => ⟨(k.2 j (by have := h.1; have := k.1; omega)).1.trans (h.2 j (by have := h.1; have := k.1; omega)).1, (k.2 j (by have := h.1; have := k.1; omega)).2.trans (h.2 j (by have := h.1; have := k.1; omega)).2⟩⟩
theorem rb_t {j : Nat} (h : RB S S1 j) (k : RB S1 S2 j) : RB S S2 j := ⟨k.1.trans h.1, k.2.1.trans h.2.1, k.2.2.1.trans h.2.2.1, k.2.2.2.1.trans h.2.2.2.1, k.2.2.2.2.trans h.2.2.2.2⟩
theorem br259 (hw : wok EC (WD S)) : 0 ≤ brS S ∧ brS S ≤ 259 := wfd (a := .inl (0, 0)) hw rfl rfl rfl rfl
theorem sgR_k (h : SegR S l f t) (k : KC S S1) : SegR S1 l f t := by
  obtain ⟨a1, a2, a3, a4, a5, a6, a7⟩ := h
  have k1 := k.1
  exact ⟨a1, a2, a3, a4, a5, by omega, vr_congr _ _ _ _ (fun j j1 j2 => k.2 j (by omega)) a7⟩
theorem br_k {b : Nat} (h : BR S l b) (k : KC S S1) (r : RB S S1 b) : BR S1 l b := by
  obtain ⟨r1, r2, r3, r4, r5⟩ := r
  unfold BR htF tfF tmF ttF teF
  rw [r1, r2, r3, r4, r5]
  exact ⟨fun z => ⟨sgR_k (h.1 z).1 k, sgR_k (h.1 z).2 k⟩, sgR_k h.2 k⟩
theorem li_step (h : LI S0 l n0 S n) (hu : UPD mdLw S S1) (hb : brS S1 = brS S) (ht : tkS S ≤ tkS S1) (hk : KC S S1) (hc : cdS S1 ≤ l + tkS S1 + 1) (hf : ftS S1 = 0 → ftS S = 0 ∧ cdS S1 ≤ l + tkS S1 ∧ opS' S1 = opS' S) (hr : ∀ j, j < 260 → j ≠ n → RB S S1 j) : LI S0 l n0 S1 n := by
  obtain ⟨a1, a2, a3, a4, a5, a6, a7, a8, a9⟩ := h
  have h9 := br259 a1.1
  refine ⟨up_t a1 hu, by omega, a3, by omega, kc_t a5 hk, hc, fun z => ?_, fun j hj => rb_t (a8 j hj) (hr j (by omega) (by omega)), fun z b b1 b2 => ?_⟩
  · obtain ⟨g1, g2, g3⟩ := hf z
    exact ⟨g2, g3.trans (a7 g1).2.1, (a7 g1).2.2⟩
  · exact br_k (a9 (hf z).1 b b1 b2) hk (hr b (by omega) (by omega))
theorem kc_up {md : MDs} (hw : wok EC (WD S)) (hu : UPD md S S1) (h0 : mdF md 47 44 = false) (h1 : mdF md (ctyC 178) 1000 = false) (h2 : mdF md (ctyC 178) 1001 = false) (h3 : mdF md (ctyC 179) 1000 = false) (h4 : mdF md (ctyC 179) 1001 = false) : KC S S1 := by
  have h8 := cd839 hw
  have x44 : cdS S1 = cdS S := by show (S1.1 148 44).toInt = _; rw [up_fl hu rfl rfl h0]
  refine ⟨by omega, fun j hj => ⟨?_, ?_⟩⟩
  · show (S1.1 178 j).toInt = _
    rw [up_er (t := 0) (n := 840) hu rfl rfl h1 h2 (by omega)]
  · show (S1.1 179 j).toInt = _
    rw [up_er (t := 0) (n := 840) hu rfl rfl h3 h4 (by omega)]
theorem rb_ex {j : Nat} (hu : UPD mdEx S S1) (hj : j < 260) : RB S S1 j := ⟨up_er (t := 2) (n := 260) hu rfl rfl rfl rfl hj, up_er (t := 0) (n := 260) hu rfl rfl rfl rfl hj, up_er (t := 0) (n := 260) hu rfl rfl rfl rfl hj, up_er (t := 0) (n := 260) hu rfl rfl rfl rfl hj, up_er (t := 0) (n := 260) hu rfl rfl rfl rfl hj⟩
theorem li_n (h : LI S0 l n0 S n) : n ≤ 259 := by
  have := br259 h.1.1
  have := h.2.1
  omega
/-- a step of tokens and faults -/
theorem li_po (h : LI S0 l n0 S n) (hu : UPD mdPo S S1) (ht : tkS S ≤ tkS S1) (hf : ftS S1 = 0 → ftS S = 0) : LI S0 l n0 S1 n ∧ KC S S1 ∧ (∀ j, j ≤ n → RB S S1 j) := by
  have hn := li_n h
  have hk := kc_up h.1.1 hu rfl rfl rfl rfl rfl
  have x44 : cdS S1 = cdS S := by show (S1.1 148 44).toInt = _; rw [up_fl hu rfl rfl rfl]
  have x12 : opS' S1 = opS' S := by show (S1.1 148 12).toInt = _; rw [up_fl hu rfl rfl rfl]
  have x38 : brS S1 = brS S := by show (S1.1 148 38).toInt = _; rw [up_fl hu rfl rfl rfl]
  have hr : ∀ j, j < 260 → RB S S1 j := fun j hj => rb_ex (up_le rfl hu) hj
  refine ⟨li_step h (up_le rfl hu) x38 ht hk ?_ (fun z => ?_) (fun j hj _ => hr j hj), hk, fun j hj => hr j (by omega)⟩
  · have := h.2.2.2.2.2.1
    omega
  · have := (h.2.2.2.2.2.2.1 (hf z)).1
    exact ⟨hf z, by omega, x12⟩
theorem must_li {x : Int32} (h : LI S0 l n0 S n) : ∃ S', RX (d + 3) 209 [.ref 148, .int x] S = some (none, S') ∧ LI S0 l n0 S' n ∧ tkS S ≤ tkS S' ∧ (ftS S' = 0 → ftS S = 0 ∧ tkS S' = tkS S + 1) ∧ KC S S' ∧ cdS S' = cdS S ∧ (∀ j, j ≤ n → RB S S' j) := by
  obtain ⟨S', q1, q2, q3⟩ := must_rx (d := d) (x := x) h.1.1
  obtain ⟨g1, g2, g3⟩ := li_po h q2 (by omega) (fun z => by omega)
  exact ⟨S', q1, g1, by omega, fun z => by omega, g2, by show (S'.1 148 44).toInt = _; rw [up_fl q2 rfl rfl rfl], g3⟩
/-- a place of the branch under way is written -/
theorem li_wr {c : Nat} {x : Int32} (h : LI S0 l n0 S n) (hc : c = 173 ∨ c = 174 ∨ c = 175 ∨ c = 176 ∨ c = 177) (hu : UPD mdLw S (uI S c n x)) : LI S0 l n0 (uI S c n x) n ∧ KC S (uI S c n x) := by
  have hk : KC S (uI S c n x) := by
    refine ⟨?_, fun j hj => ⟨?_, ?_⟩⟩
    · show _ ≤ ((uI S c n x).1 148 44).toInt
      rw [uI_ne _ _ _ _ (by omega)]
      exact Int.le_refl _
    · show ((uI S c n x).1 178 j).toInt = _
      rw [uI_ne _ _ _ _ (by omega)]
    · show ((uI S c n x).1 179 j).toInt = _
      rw [uI_ne _ _ _ _ (by omega)]
  have f148 : ∀ j, (uI S c n x).1 148 j = S.1 148 j := fun j => uI_ne _ _ _ _ (by omega)
  refine ⟨li_step h hu (by show ((uI S c n x).1 148 38).toInt = _; rw [f148]) (by show _ ≤ ((uI S c n x).1 148 11).toInt; rw [f148]; exact Int.le_refl _) hk ?_ (fun z => ?_) (fun j _ hj => ?_), hk⟩
  · show ((uI S c n x).1 148 44).toInt ≤ l + ((uI S c n x).1 148 11).toInt + 1
    rw [f148, f148]
    exact h.2.2.2.2.2.1
  · have z : ((uI S c n x).1 148 13).toInt = 0 := z
    rw [f148] at z
    refine ⟨z, ?_, ?_⟩
    · show ((uI S c n x).1 148 44).toInt ≤ l + ((uI S c n x).1 148 11).toInt
      rw [f148, f148]
      exact (h.2.2.2.2.2.2.1 z).1
    · show ((uI S c n x).1 148 12).toInt = _
      rw [f148]
  · exact ⟨uI_no _ _ _ _ (by omega), uI_no _ _ _ _ (by omega), uI_no _ _ _ _ (by omega), uI_no _ _ _ _ (by omega), uI_no _ _ _ _ (by omega)⟩
/-- an expression within a branch -/
theorem expr_li (h : LI S0 l n0 S n) (hl : 0 ≤ l ∧ l ≤ 420) (hf : ftS S = 0) (ho : opS' S0 ≤ 6) (hlc : l ≤ cdS S) : ∃ S', RX (d + 4) 226 [.ref 148] S = some (none, S') ∧ LI S0 l n0 S' n ∧ tkS S ≤ tkS S' ∧ KC S S' ∧ (∀ j, j ≤ n → RB S S' j) ∧ (ftS S' = 0 → tkS S < tkS S' ∧ SegR S' l (cdS S) (cdS S')) := by
  have hn := li_n h
  obtain ⟨c1, c2⟩ := h.2.2.2.2.2.2.1 hf
  have h8 := cd839 h.1.1
  obtain ⟨S', q1, q2⟩ := expression_rx (d := d) h.1.1 (by omega) (fun _ => by omega)
  obtain ⟨a1, a2, a3, a4, a5, a6⟩ := q2
  have h4 := tk400 a1.1
  have h4' := tk400 h.1.1
  have hk : KC S S' := ⟨by omega, fun j hj => a5 j (by omega)⟩
  have hr : ∀ j, j ≤ n → RB S S' j := fun j hj => rb_ex a1 (by omega)
  have x38 : brS S' = brS S := by show (S'.1 148 38).toInt = _; rw [up_fl a1 rfl rfl rfl]
  refine ⟨S', q1, li_step h (up_le rfl a1) x38 a2 hk (by omega) (fun z => ?_) (fun j hj _ => rb_ex a1 hj), a2, hk, hr, fun z => ?_⟩
  · obtain ⟨g1, g2, -⟩ := a6 z
    exact ⟨hf, by omega, g1⟩
  · obtain ⟨g1, g2, g3⟩ := a6 z
    have e1 : (((cdS S).toNat : Nat) : Int) = cdS S := by omega
    rw [e1] at g3
    have hne : (cdS S' - cdS S).toNat ≠ 0 := fun q => by
      rw [q] at g3
      exact absurd g3 (by show ¬ (0 = 1); omega)
    exact ⟨by omega, hl.1, hlc, by omega, by omega, by omega, Int.le_refl _, g3⟩
end LAW
