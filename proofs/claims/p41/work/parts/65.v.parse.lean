/-! the parser's small steps -/
abbrev ftS (S : WS) : Int := (S.1 148 13).toInt
abbrev tkS (S : WS) : Int := (S.1 148 11).toInt
abbrev cdS (S : WS) : Int := (S.1 148 44).toInt
abbrev wtS (S : WS) : Int := (S.1 148 48).toInt
abbrev opS' (S : WS) : Int := (S.1 148 12).toInt
def mdPo : MDs := [(47, 11), (47, 13), (47, 14)]
section PAR
variable {S S0 S1 : WS} {d : Nat} {x : Int32}
theorem ft2 (hw : wok EC (WD S)) : 0 ≤ ftS S ∧ ftS S ≤ 2 := wfd (a := .inl (0, 0)) hw rfl rfl rfl rfl
theorem tk400 (hw : wok EC (WD S)) : 0 ≤ tkS S ∧ tkS S ≤ 400 := wfd (a := .inl (0, 0)) hw rfl rfl rfl rfl
theorem cd839 (hw : wok EC (WD S)) : 0 ≤ cdS S ∧ cdS S ≤ 839 := wfd (a := .inl (0, 0)) hw rfl rfl rfl rfl
theorem wt63 (hw : wok EC (WD S)) : 0 ≤ wtS S ∧ wtS S ≤ 63 := wfd (a := .inl (0, 0)) hw rfl rfl rfl rfl
theorem op7 (hw : wok EC (WD S)) : 0 ≤ opS' S ∧ opS' S ≤ 7 := wfd (a := .inl (0, 0)) hw rfl rfl rfl rfl
theorem int_tk (hw : wok EC (WD S)) : inR (S.1 148 11) 403 = true := by have := tk400 hw; exact inR_of (by show 0 ≤ tkS S; omega) (by show tkS S < _; omega)
theorem is_rx (hw : wok EC (WD S)) : ∃ r : Int32, RX (d + 1) 205 [.ref 148, .int x] S = some (some (.int r), S) ∧ ((r = 1 ∧ ftS S = 0 ∧ S.1 151 (S.1 148 11).toNatClampNeg = x) ∨ (r = 0 ∧ (ftS S ≠ 0 ∨ S.1 151 (S.1 148 11).toNatClampNeg ≠ x))) := by
  have h24 : limK (RX d) (mdOf 205) 24 [some (.ref 148), some (.int x)] [] S = some (some (.int 0), S) := by rw [q_X12_is_24, q_X12_is_25]; rfl
  have h25 : limK (RX d) (mdOf 205) 25 [some (.ref 148), some (.int x)] [.int (1 : Int32)] S = some (some (.int 1), S) := by rw [q_X12_is_25]; rfl
  rw [e_X12_is, q_X12_is_0, h24, h25, int_tk hw]
  rcases c_ne (S.1 148 13) 0 with ⟨a1, a2⟩ | ⟨a1, a2⟩
  · rw [a1, cond_true]; exact ⟨0, rfl, .inr ⟨rfl, .inl a2⟩⟩
  · rw [a1, cond_false, cond_true]
    rcases c_ne (S.1 151 (S.1 148 11).toNatClampNeg) x with ⟨b1, b2⟩ | ⟨b1, b2⟩
    · rw [b1, cond_true]; exact ⟨0, rfl, .inr ⟨rfl, .inr (fun e => b2 (by rw [e]))⟩⟩
    · rw [b1, cond_false]; exact ⟨1, rfl, .inl ⟨rfl, a2, Int32.toInt_inj.mp b2⟩⟩
theorem fail_rx (hw : wok EC (WD S)) (hx : x.toInt = 1 ∨ x.toInt = 2) : ∃ S', RX (d + 1) 206 [.ref 148, .int x] S = some (none, S') ∧ UPD [(47, 13), (47, 14)] S S' ∧ ftS S' ≠ 0 := by
  rw [e_X12_fail, q_X12_fail_0, int_tk hw]
  rcases c_le (S.1 148 13) 0 with ⟨a1, a2⟩ | ⟨a1, a2⟩
  · rw [a1, cond_true, cond_true]
    refine ⟨_, rfl, up_f (up_f (up_r hw) rfl rfl rfl rfl rfl ⟨by omega, by omega⟩) rfl rfl rfl rfl rfl (r32 _), ?_⟩
    show x.toInt ≠ 0
    omega
  · have a2 : 0 < ftS S := a2
    rw [a1, cond_false]
    exact ⟨S, rfl, up_r hw, by omega⟩
theorem goesOn_rx (hw : wok EC (WD S)) : ∃ S', RX (d + 2) 208 [.ref 148] S = some (none, S') ∧ UPD mdPo S S' ∧ ((tkS S < 400 ∧ tkS S' = tkS S + 1 ∧ ftS S' = ftS S) ∨ (tkS S' = tkS S ∧ ftS S' ≠ 0)) := by
  have ht := tk400 hw
  rw [e_X12_goesOn, q_X12_goesOn_0]
  rcases c_ne (S.1 148 11) 400 with ⟨a1, a2⟩ | ⟨a1, a2⟩
  · have a2 : tkS S ≠ 400 := a2
    have h1 : ((S.1 148 11) + 1).toInt = tkS S + 1 := ad_i (by show _ ≤ tkS S + 1; omega) (by show tkS S + 1 ≤ _; omega)
    rw [a1, cond_true, q_X12_goesOn_28]
    refine ⟨_, rfl, up_f (up_r hw) rfl rfl rfl rfl rfl ⟨by omega, by omega⟩, .inl ⟨by omega, ?_, rfl⟩⟩
    show ((S.1 148 11) + 1).toInt = _
    exact h1
  · obtain ⟨S', q1, q2, q3⟩ := fail_rx (d := d) (x := 2) hw (.inr rfl)
    rw [a1, cond_false, q1]
    show ∃ S', limK (RX (d + 1)) (mdOf 208) 15 _ [] _ = _ ∧ _
    rw [q_X12_goesOn_15, q_X12_goesOn_28]
    refine ⟨S', rfl, up_le rfl q2, .inr ⟨?_, q3⟩⟩
    show (S'.1 148 11).toInt = _
    rw [up_fl q2 rfl rfl rfl]
theorem must_rx (hw : wok EC (WD S)) : ∃ S', RX (d + 3) 209 [.ref 148, .int x] S = some (none, S') ∧ UPD mdPo S S' ∧ ((ftS S = 0 ∧ ftS S' = 0 ∧ tkS S' = tkS S + 1) ∨ (ftS S' ≠ 0 ∧ tkS S' = tkS S)) := by
  obtain ⟨r, r1, r2⟩ := is_rx (d := d + 1) (x := x) hw
  rw [e_X12_must, q_X12_must_0, r1]
  show ∃ S', limK (RX (d + 2)) (mdOf 209) 5 _ [.int r] S = _ ∧ _
  rw [q_X12_must_5]
  rcases r2 with ⟨e, e1, -⟩ | ⟨e, -⟩
  · obtain ⟨S', q1, q2, q3⟩ := goesOn_rx (d := d) hw
    rw [e, show cmpB .eq (1 : Int32) 0 = false from rfl, cond_false, q1]
    show ∃ S', limK (RX (d + 2)) (mdOf 209) 12 _ [] _ = _ ∧ _
    rw [q_X12_must_12, q_X12_must_20]
    refine ⟨S', rfl, q2, ?_⟩
    rcases q3 with ⟨g1, g2, g3⟩ | ⟨g1, g2⟩
    · exact .inl ⟨e1, by rw [g3]; exact e1, g2⟩
    · exact .inr ⟨g2, g1⟩
  · obtain ⟨S', q1, q2, q3⟩ := fail_rx (d := d + 1) (x := 1) hw (.inl rfl)
    rw [e, show cmpB .eq (0 : Int32) 0 = true from rfl, cond_true, q1]
    show ∃ S', limK (RX (d + 2)) (mdOf 209) 20 _ [] _ = _ ∧ _
    rw [q_X12_must_20]
    refine ⟨S', rfl, up_le rfl q2, .inr ⟨q3, ?_⟩⟩
    show (S'.1 148 11).toInt = _
    rw [up_fl q2 rfl rfl rfl]
end PAR
/-! runs of codes -/
def vr (cd ci : Nat → Int) : Nat → Nat → Nat → Nat → Prop
  | 0, _, d, d' => d = d'
  | n + 1, c, d, d' => (cd c < 2 ∧ (cd c = 1 → 0 ≤ ci c ∧ ci c ≤ 6) ∧ vr cd ci n (c + 1) (d + 1) d') ∨ (2 ≤ cd c ∧ 2 ≤ d ∧ vr cd ci n (c + 1) (d - 1) d')
theorem vr_vld {cd ci : Nat → Int} : ∀ (n c d d' : Nat), vr cd ci n c d d' → vld cd ci n c d
  | 0, _, _, _, _ => trivial
  | n + 1, c, d, d', h => by
    rcases h with ⟨h1, h2, h3⟩ | ⟨h1, h2, h3⟩
    · exact ⟨fun _ => ⟨h2, vr_vld n _ _ _ h3⟩, fun q => by omega⟩
    · exact ⟨fun q => by omega, fun _ => ⟨h2, vr_vld n _ _ _ h3⟩⟩
theorem vr_push {cd ci : Nat → Int} : ∀ (n c d d' : Nat), vr cd ci n c d d' → cd (c + n) < 2 → (cd (c + n) = 1 → 0 ≤ ci (c + n) ∧ ci (c + n) ≤ 6) → vr cd ci (n + 1) c d (d' + 1)
  | 0, c, d, d', h, h1, h2 => by
    have h : d = d' := h
    subst h
    exact .inl ⟨h1, h2, rfl⟩
  | n + 1, c, d, d', h, h1, h2 => by
    have e : c + (n + 1) = c + 1 + n := by omega
    rw [e] at h1 h2
    rcases h with ⟨g1, g2, g3⟩ | ⟨g1, g2, g3⟩
    · exact .inl ⟨g1, g2, vr_push n _ _ _ g3 h1 h2⟩
    · exact .inr ⟨g1, g2, vr_push n _ _ _ g3 h1 h2⟩
theorem vr_op {cd ci : Nat → Int} : ∀ (n c d d' : Nat), vr cd ci n c d d' → 2 ≤ cd (c + n) → 2 ≤ d' → vr cd ci (n + 1) c d (d' - 1)
  | 0, c, d, d', h, h1, h2 => by
    have h : d = d' := h
    subst h
    exact .inr ⟨h1, h2, rfl⟩
  | n + 1, c, d, d', h, h1, h2 => by
    have e : c + (n + 1) = c + 1 + n := by omega
    rw [e] at h1
    rcases h with ⟨g1, g2, g3⟩ | ⟨g1, g2, g3⟩
    · exact .inl ⟨g1, g2, vr_op n _ _ _ g3 h1 h2⟩
    · exact .inr ⟨g1, g2, vr_op n _ _ _ g3 h1 h2⟩
theorem vr_congr {cd ci cd' ci' : Nat → Int} : ∀ (n c d d' : Nat), (∀ j, c ≤ j → j < c + n → cd' j = cd j ∧ ci' j = ci j) → vr cd ci n c d d' → vr cd' ci' n c d d'
  | 0, _, _, _, _, h => h
  | n + 1, c, d, d', he, h => by
    obtain ⟨e1, e2⟩ := he c (Nat.le_refl _) (by omega)
    rcases h with ⟨g1, g2, g3⟩ | ⟨g1, g2, g3⟩
    · exact .inl ⟨by rw [e1]; exact g1, by rw [e1, e2]; exact g2, vr_congr n _ _ _ (fun j h1 h2 => he j (by omega) (by omega)) g3⟩
    · exact .inr ⟨by rw [e1]; exact g1, g2, vr_congr n _ _ _ (fun j h1 h2 => he j (by omega) (by omega)) g3⟩
/-! what waits: 6 opens; 8, 9 are weak, 10, 15 strong -/
def sgF (F : Nat → Int) : Nat → Nat
  | 0 => 0
  | w + 1 => if F w = 6 then 0 else if F w = 8 ∨ F w = 9 then 1 else if sgF F w = 1 then 3 else 2
def wfF (F : Nat → Int) : Nat → Prop
  | 0 => True
  | w + 1 => wfF F w ∧ (F w = 6 ∨ ((F w = 8 ∨ F w = 9) ∧ sgF F w = 0) ∨ ((F w = 10 ∨ F w = 15) ∧ (sgF F w = 0 ∨ sgF F w = 1)))
def nop (F : Nat → Int) : Nat → Nat
  | 0 => 0
  | w + 1 => nop F w + (if F w = 6 then 0 else 1)
def npn (F : Nat → Int) : Nat → Nat
  | 0 => 0
  | w + 1 => npn F w + (if F w = 6 then 1 else 0)
theorem sg_6 {F : Nat → Int} {w : Nat} (h : F w = 6) : sgF F (w + 1) = 0 ∧ nop F (w + 1) = nop F w ∧ npn F (w + 1) = npn F w + 1 := by
  refine ⟨?_, ?_, ?_⟩
  · rw [sgF, if_pos h]
  · rw [nop, if_pos h]; rfl
  · rw [npn, if_pos h]
theorem sg_w {F : Nat → Int} {w : Nat} (h : F w = 8 ∨ F w = 9) : sgF F (w + 1) = 1 ∧ nop F (w + 1) = nop F w + 1 ∧ npn F (w + 1) = npn F w := by
  have n6 : F w ≠ 6 := by rcases h with e | e <;> rw [e] <;> decide
  refine ⟨?_, ?_, ?_⟩
  · rw [sgF, if_neg n6, if_pos h]
  · rw [nop, if_neg n6]
  · rw [npn, if_neg n6]; rfl
theorem sg_s {F : Nat → Int} {w : Nat} (h : F w = 10 ∨ F w = 15) : sgF F (w + 1) = (if sgF F w = 1 then 3 else 2) ∧ nop F (w + 1) = nop F w + 1 ∧ npn F (w + 1) = npn F w := by
  have n6 : F w ≠ 6 := by rcases h with e | e <;> rw [e] <;> decide
  have n8 : ¬ (F w = 8 ∨ F w = 9) := by rcases h with e | e <;> rw [e] <;> decide
  refine ⟨?_, ?_, ?_⟩
  · rw [sgF, if_neg n6, if_neg n8]
  · rw [nop, if_neg n6]
  · rw [npn, if_neg n6]; rfl
/-- what a segment adds -/
def bdF (s : Nat) : Nat := if s = 0 then 0 else if s = 3 then 2 else 1
theorem bd2 (s : Nat) : bdF s ≤ 2 := by
  unfold bdF
  split
  · omega
  · split <;> omega
theorem wf_b (F : Nat → Int) : ∀ w, wfF F w → w ≤ 3 * npn F w + bdF (sgF F w)
  | 0, _ => Nat.zero_le _
  | w + 1, ⟨h1, h2⟩ => by
    have ih := wf_b F w h1
    rcases h2 with h2 | ⟨h2, h3⟩ | ⟨h2, h3⟩
    · obtain ⟨a, -, b⟩ := sg_6 h2
      rw [a, b]
      have := bd2 (sgF F w)
      omega
    · obtain ⟨a, -, b⟩ := sg_w h2
      rw [a, b]
      rw [h3] at ih
      have e0 : bdF 0 = 0 := rfl
      have e1 : bdF 1 = 1 := rfl
      omega
    · obtain ⟨a, -, b⟩ := sg_s h2
      rw [a, b]
      have e0 : bdF 0 = 0 := rfl
      have e1 : bdF 1 = 1 := rfl
      have e2 : bdF 2 = 1 := rfl
      have e3 : bdF 3 = 2 := rfl
      rcases h3 with h3 | h3
      · rw [h3] at ih ⊢
        rw [if_neg (by decide)]
        omega
      · rw [h3] at ih ⊢
        rw [if_pos rfl]
        omega
theorem sg_c {F F' : Nat → Int} : ∀ w, (∀ j, j < w → F' j = F j) → sgF F' w = sgF F w ∧ nop F' w = nop F w ∧ npn F' w = npn F w ∧ (wfF F w → wfF F' w)
  | 0, _ => ⟨rfl, rfl, rfl, fun h => h⟩
  | w + 1, h => by
    obtain ⟨h1, h2, h3, h4⟩ := sg_c w (fun j hj => h j (by omega))
    have e := h w (by omega)
    refine ⟨?_, ?_, ?_, fun q => ⟨h4 q.1, ?_⟩⟩
    · rw [sgF, sgF, e, h1]
    · rw [nop, nop, e, h2]
    · rw [npn, npn, e, h3]
    · rw [e, h1]
      exact q.2
def mdEm : MDs := [(47, 44), (77, 1000), (78, 1000)]
def mdCo : MDs := [(47, 44), (47, 48), (77, 1000), (78, 1000)]
abbrev cdF (S : WS) (j : Nat) : Int := (S.1 178 j).toInt
abbrev ciF (S : WS) (j : Nat) : Int := (S.1 179 j).toInt
abbrev waF (S : WS) (j : Nat) : Int := (S.1 180 j).toInt
section EMI
variable {S S0 S1 : WS} {d : Nat} {x : Int32}
theorem emit_rx {k v : Int32} (hw : wok EC (WD S)) (hk : 0 ≤ k.toInt ∧ k.toInt ≤ 5) (hc : cdS S ≤ 838) : ∃ S', RX (d + 1) 224 [.ref 148, .int k, .int v] S = some (none, S') ∧ UPD mdEm S S' ∧ cdS S' = cdS S + 1 ∧ cdF S' (cdS S).toNat = k.toInt ∧ ciF S' (cdS S).toNat = v.toInt ∧ (∀ j, j ≠ (cdS S).toNat → cdF S' j = cdF S j ∧ ciF S' j = ciF S j) ∧ S'.1 180 = S.1 180 ∧ S'.1 148 48 = S.1 148 48 := by
  have h8 := cd839 hw
  have h1 : ((S.1 148 44) + 1).toInt = cdS S + 1 := ad_i (by show _ ≤ cdS S + 1; omega) (by show cdS S + 1 ≤ _; omega)
  have hn : (S.1 148 44).toNatClampNeg = (cdS S).toNat := rfl
  rw [e_X12_emit, q_X12_emit_0, inR_of (n := 840) (by show 0 ≤ cdS S; omega) (by show cdS S < _; omega), cond_true, cond_true, hn]
  refine ⟨_, rfl, up_f (up_a (t := 0) (n := 840) (up_a (t := 0) (n := 840) (up_r hw) rfl rfl rfl (.inl rfl) hk) rfl rfl rfl (.inl rfl) (r32 v)) rfl rfl rfl rfl rfl ⟨by omega, by omega⟩, ?_, ?_, ?_, fun j hj => ⟨?_, ?_⟩, rfl, rfl⟩
  · show ((uI (uI (uI S 178 (cdS S).toNat k) 179 (cdS S).toNat v) 148 44 ((S.1 148 44) + 1)).1 148 44).toInt = _
    rw [uI_i]; exact h1
  · show ((uI (uI (uI S 178 (cdS S).toNat k) 179 (cdS S).toNat v) 148 44 ((S.1 148 44) + 1)).1 178 (cdS S).toNat).toInt = _
    rw [uI_ne _ _ _ _ (by decide), uI_ne _ _ _ _ (by decide), uI_i]
  · show ((uI (uI (uI S 178 (cdS S).toNat k) 179 (cdS S).toNat v) 148 44 ((S.1 148 44) + 1)).1 179 (cdS S).toNat).toInt = _
    rw [uI_ne _ _ _ _ (by decide), uI_i]
  · show ((uI (uI (uI S 178 (cdS S).toNat k) 179 (cdS S).toNat v) 148 44 ((S.1 148 44) + 1)).1 178 j).toInt = _
    rw [uI_ne _ _ _ _ (by decide), uI_ne _ _ _ _ (by decide), uI_j _ hj]
  · show ((uI (uI (uI S 178 (cdS S).toNat k) 179 (cdS S).toNat v) 148 44 ((S.1 148 44) + 1)).1 179 j).toInt = _
    rw [uI_ne _ _ _ _ (by decide), uI_j _ hj, uI_ne _ _ _ _ (by decide)]
/-- ops come out of what waits -/
theorem comesOut_0 {c0 : Nat} (x1 : Int32) (F : Nat → Int) : ∀ (w : Nat) (o2 : Option Value) (S : WS), UPD mdCo S0 S → waF S = F → wtS S = (w : Int) → wfF F w → cdS S + nop F w ≤ 839 → (c0 : Int) ≤ cdS S → vr (cdF S) (ciF S) (cdS S - c0).toNat c0 0 (nop F w + 1) →
    ∃ (S' : WS) (w' : Nat), limK (RX (d + 1)) (mdOf 225) 0 [some (.ref 148), some (.int x1), o2] [] S = some (none, S') ∧ UPD mdCo S0 S' ∧ waF S' = F ∧ wtS S' = (w' : Int) ∧ w' ≤ w ∧ wfF F w' ∧ npn F w' = npn F w ∧ cdS S' + nop F w' = cdS S + nop F w ∧ cdS S ≤ cdS S' ∧ (x1.toInt = 0 → sgF F w' = 0) ∧ (sgF F w' = 0 ∨ sgF F w' = 1) ∧ vr (cdF S') (ciF S') (cdS S' - c0).toNat c0 0 (nop F w' + 1) ∧ ∀ j : Nat, ((j : Int) < cdS S ∨ cdS S' ≤ (j : Int)) → cdF S' j = cdF S j ∧ ciF S' j = ciF S j := by
  intro w
  induction w with
  | zero =>
    intro o2 S hu hF hwt hwf hcap hc0 hv
    rw [q_X12_comesOut_0, le_t (by show wtS S ≤ 0; omega), cond_true]
    exact ⟨S, 0, rfl, hu, hF, hwt, Nat.le_refl _, hwf, rfl, rfl, Int.le_refl _, fun _ => rfl, .inl rfl, hv, fun _ _ => ⟨rfl, rfl⟩⟩
  | succ w ih =>
    intro o2 S hu hF hwt hwf hcap hc0 hv
    have hb := wt63 hu.1
    have h1 : ((S.1 148 48) - 1).toInt = (w : Int) := by
      rw [sb_i (by show _ ≤ wtS S - 1; omega) (by show wtS S - 1 ≤ _; omega)]
      show wtS S - 1 = _
      omega
    have eF : (S.1 180 w).toInt = F w := by rw [← hF]
    obtain ⟨wf1, wf2⟩ := hwf
    rw [q_X12_comesOut_0, le_f (by show 0 < wtS S; omega), cond_false, inR_of (n := 64) (by omega) (by omega), cond_true, tnc h1]
    -- stopping here
    have hstop : (x1.toInt = 0 → sgF F (w + 1) = 0) → (sgF F (w + 1) = 0 ∨ sgF F (w + 1) = 1) → ∃ (S' : WS) (w' : Nat), limK (RX (d + 1)) (mdOf 225) 41 [some (.ref 148), some (.int x1), some (.int (S.1 180 w))] [] S = some (none, S') ∧ UPD mdCo S0 S' ∧ waF S' = F ∧ wtS S' = (w' : Int) ∧ w' ≤ w + 1 ∧ wfF F w' ∧ npn F w' = npn F (w + 1) ∧ cdS S' + nop F w' = cdS S + nop F (w + 1) ∧ cdS S ≤ cdS S' ∧ (x1.toInt = 0 → sgF F w' = 0) ∧ (sgF F w' = 0 ∨ sgF F w' = 1) ∧ vr (cdF S') (ciF S') (cdS S' - c0).toNat c0 0 (nop F w' + 1) ∧ ∀ j : Nat, ((j : Int) < cdS S ∨ cdS S' ≤ (j : Int)) → cdF S' j = cdF S j ∧ ciF S' j = ciF S j := fun g1 g2 => by
      rw [q_X12_comesOut_41]
      exact ⟨S, w + 1, rfl, hu, hF, hwt, Nat.le_refl _, ⟨wf1, wf2⟩, rfl, rfl, Int.le_refl _, g1, g2, hv, fun _ _ => ⟨rfl, rfl⟩⟩
    -- one comes out
    have hpop : F w ≠ 6 → ∃ (S' : WS) (w' : Nat), limK (RX (d + 1)) (mdOf 225) 42 [some (.ref 148), some (.int x1), some (.int (S.1 180 w))] [] S = some (none, S') ∧ UPD mdCo S0 S' ∧ waF S' = F ∧ wtS S' = (w' : Int) ∧ w' ≤ w + 1 ∧ wfF F w' ∧ npn F w' = npn F (w + 1) ∧ cdS S' + nop F w' = cdS S + nop F (w + 1) ∧ cdS S ≤ cdS S' ∧ (x1.toInt = 0 → sgF F w' = 0) ∧ (sgF F w' = 0 ∨ sgF F w' = 1) ∧ vr (cdF S') (ciF S') (cdS S' - c0).toNat c0 0 (nop F w' + 1) ∧ ∀ j : Nat, ((j : Int) < cdS S ∨ cdS S' ≤ (j : Int)) → cdF S' j = cdF S j ∧ ciF S' j = ciF S j := fun n6 => by
      have en : nop F (w + 1) = nop F w + 1 := by rw [nop, if_neg n6]
      have ep : npn F (w + 1) = npn F w := by rw [npn, if_neg n6]; rfl
      rw [en] at hcap hv ⊢
      rw [ep]
      have h84 : ∀ y : Int32, 2 ≤ y.toInt → y.toInt ≤ 5 → ∃ (S' : WS) (w' : Nat), limK (RX (d + 1)) (mdOf 225) 84 [some (.ref 148), some (.int x1), some (.int (S.1 180 w))] [.int y, .ref 148] (uI S 148 48 ((S.1 148 48) - 1)) = some (none, S') ∧ UPD mdCo S0 S' ∧ waF S' = F ∧ wtS S' = (w' : Int) ∧ w' ≤ w + 1 ∧ wfF F w' ∧ npn F w' = npn F w ∧ cdS S' + nop F w' = cdS S + (nop F w + 1 : Nat) ∧ cdS S ≤ cdS S' ∧ (x1.toInt = 0 → sgF F w' = 0) ∧ (sgF F w' = 0 ∨ sgF F w' = 1) ∧ vr (cdF S') (ciF S') (cdS S' - c0).toNat c0 0 (nop F w' + 1) ∧ ∀ j : Nat, ((j : Int) < cdS S ∨ cdS S' ≤ (j : Int)) → cdF S' j = cdF S j ∧ ciF S' j = ciF S j := by
        intro y y2 y5
        have hu1 : UPD mdCo S0 (uI S 148 48 ((S.1 148 48) - 1)) := up_f hu rfl rfl rfl rfl rfl ⟨by omega, by omega⟩
        obtain ⟨S1, q1, q2, q3, q4, q5, q6, q7, q8⟩ := emit_rx (d := d) (k := y) (v := 0) hu1.1 ⟨by omega, y5⟩ (by show cdS S ≤ 838; omega)
        have q3 : cdS S1 = cdS S + 1 := q3
        have q4 : cdF S1 (cdS S).toNat = y.toInt := q4
        have q6 : ∀ j, j ≠ (cdS S).toNat → cdF S1 j = cdF S j ∧ ciF S1 j = ciF S j := q6
        have hc8 := cd839 hu.1
        have hn : (cdS S1 - c0).toNat = (cdS S - c0).toNat + 1 := by omega
        have hcc : c0 + (cdS S - c0).toNat = (cdS S).toNat := by omega
        have hv1 : vr (cdF S1) (ciF S1) (cdS S1 - c0).toNat c0 0 (nop F w + 1) := by
          rw [hn]
          have := vr_op (cd := cdF S1) (ci := ciF S1) _ _ _ _ (vr_congr _ _ _ _ (fun j j1 j2 => q6 j (by omega)) hv) (by rw [hcc, q4]; exact y2) (by omega)
          exact this
        rw [q_X12_comesOut_84, q1]
        show ∃ (S' : WS) (w' : Nat), limK (RX (d + 1)) (mdOf 225) 88 _ [] S1 = _ ∧ _
        rw [q_X12_comesOut_88]
        obtain ⟨S', w', p1, p2, p3, p4, p5, p6, p7, p8, p9, p10, p11, p12, p13⟩ := ih (some (.int (S.1 180 w))) S1 (up_t hu1 (up_le rfl q2)) (by funext j; show (S1.1 180 j).toInt = _; rw [q7, ← hF]; rfl) (by show (S1.1 148 48).toInt = _; rw [q8, uI_i]; exact h1) wf1 (by omega) (by omega) hv1
        refine ⟨S', w', p1, p2, p3, p4, by omega, p6, p7, by omega, by omega, p10, p11, p12, fun j hj => ?_⟩
        obtain ⟨g1, g2⟩ := p13 j (by omega)
        obtain ⟨g3, g4⟩ := q6 j (by omega)
        exact ⟨g1.trans g3, g2.trans g4⟩
      rw [q_X12_comesOut_42]
      cases cmpB .ne (S.1 180 w) 8 with
      | false => rw [cond_false]; exact h84 2 (by decide) (by decide)
      | true =>
        rw [cond_true]
        cases cmpB .ne (S.1 180 w) 9 with
        | false => rw [cond_false]; exact h84 3 (by decide) (by decide)
        | true =>
          rw [cond_true]
          cases cmpB .ne (S.1 180 w) 10 with
          | false => rw [cond_false]; exact h84 4 (by decide) (by decide)
          | true => rw [cond_true]; exact h84 5 (by decide) (by decide)
    have sg1 : F w = 6 → sgF F (w + 1) = 0 := fun e => (sg_6 e).1
    have sg2 : F w ≠ 6 → (F w = 8 ∨ F w = 9) → sgF F (w + 1) = 1 := fun _ e => (sg_w e).1
    rcases c_eq (S.1 180 w) 6 with ⟨a1, a2⟩ | ⟨a1, a2⟩
    · have a2 : F w = 6 := by rw [← eF]; exact a2
      rw [a1, cond_true]
      exact hstop (fun _ => sg1 a2) (.inl (sg1 a2))
    · have a2 : F w ≠ 6 := by rw [← eF]; exact a2
      rw [a1, cond_false]
      rcases c_eq x1 0 with ⟨b1, b2⟩ | ⟨b1, b2⟩
      · rw [b1, cond_true]; exact hpop a2
      · have b2 : x1.toInt ≠ 0 := b2
        rw [b1, cond_false]
        rcases c_eq (S.1 180 w) 8 with ⟨g1, g2⟩ | ⟨g1, g2⟩
        · rw [g1, cond_true]
          have e1 := sg2 a2 (.inl (by rw [← eF]; exact g2))
          exact hstop (fun h => absurd h b2) (.inr e1)
        · rw [g1, cond_false]
          rcases c_ne (S.1 180 w) 9 with ⟨k1, k2⟩ | ⟨k1, k2⟩
          · rw [k1, cond_true]; exact hpop a2
          · rw [k1, cond_false]
            have e1 := sg2 a2 (.inr (by rw [← eF]; exact k2))
            exact hstop (fun h => absurd h b2) (.inr e1)
end EMI
