/-! the checker's step: branches, constants -/
def tgA (pc : Nat) (off : Int) : Nat := ((pc : Int) + off).toNat
def brA (cd : ClassFile.Cond) (σ : AS) (a b : AV) (pt pf : Nat) : AOUT := match ivS σ.1 a, ivS σ.1 b with
  | some p, some q => some ((asmA cd σ a b p q).map (fun s => (pt, s)) ++ (asmA (negC cd) σ a b p q).map (fun s => (pf, s)))
  | _, _ => none
def if1A (cd : ClassFile.Cond) (off : Int) (σ : AS) (pc : Nat) : AOUT := bif decide (0 ≤ (pc : Int) + off) then (match σ.2.2.2.1 with
  | a :: r => brA cd (mkS σ r) a (vI 0 0) (tgA pc off) (pc + 3)
  | _ => none) else none
def if2A (cd : ClassFile.Cond) (off : Int) (σ : AS) (pc : Nat) : AOUT := bif decide (0 ≤ (pc : Int) + off) then (match σ.2.2.2.1 with
  | b :: a :: r => brA cd (mkS σ r) a b (tgA pc off) (pc + 3)
  | _ => none) else none
def gtA (off : Int) (σ : AS) (pc : Nat) : AOUT := bif decide (0 ≤ (pc : Int) + off) then one (tgA pc off) σ else none
def tbB (lo : Int) (σ : AS) (a : AV) (p : Int × Int) (pc : Nat) : List Int → List (Nat × AS)
  | [] => []
  | off :: offs => (asmA .eq σ a (vI lo lo) p (lo, lo)).map (fun s => (tgA pc off, s)) ++ tbB (lo + 1) σ a p pc offs
def tbA (df lo hi : Int) (offs : Array Int) (σ : AS) (pc : Nat) : AOUT := match σ.2.2.2.1 with
  | a :: r => (match ivS σ.1 a with
    | some p => bif decide (0 ≤ (pc : Int) + df) && offs.toList.all (fun o => decide (0 ≤ (pc : Int) + o)) && decide (hi = lo + offs.toList.length - 1) && (inB lo lo && inB hi hi) then
        some (tbB lo (mkS σ r) a p pc offs.toList ++ ((asmA .lt (mkS σ r) a (vI lo lo) p (lo, lo)).map (fun s => (tgA pc df, s)) ++ (asmA .gt (mkS σ r) a (vI hi hi) p (hi, hi)).map (fun s => (tgA pc df, s)))) else none
    | none => none)
  | _ => none
section ST3
variable {E : WE} {th : Nat} {ρ : List Int} {w : List AE} {lv : List (Nat × Value)} {st : List Value} {σ : AS} {md : Nat → Nat → Bool} {pc n i nL : Nat} {L : List (Nat × AS)}
theorem ok1_mem {σ' : AS} {o : Option ST} {pc' : Nat} {lv' : List (Nat × Value)} {st' : List Value} (hm : (pc', σ') ∈ L) (ho : o = some (pc', lv', st', w, 0, 0)) (hg : gS E th ρ σ' lv' st' w) (hw : wok E w) : OK1 E th md ρ w L o :=
  ⟨_, hm, [], lv', st', w, ho, by rw [List.append_nil]; exact hg, hw, agr.rf w⟩
theorem br_ok {cd : ClassFile.Cond} {a b : AV} {pt pf : Nat} {x y : Int32} (hS : gS E th ρ σ lv st w) (hw : wok E w) (ha : gv E th ρ a (.int x)) (hb : gv E th ρ b (.int y)) (h : brA cd σ a b pt pf = some L) : OK1 E th md ρ w L (cond (cmpB cd x y) (some ((pt, lv, st, w, 0, 0) : ST)) (some (pf, lv, st, w, 0, 0))) := by
  unfold brA at h
  split at h
  · rename_i p q hp hq
    cases h
    obtain ⟨x', e1, hp1⟩ := ivS_ok hS.1 ha hp
    cases e1
    obtain ⟨y', e2, hq1⟩ := ivS_ok hS.1 hb hq
    cases e2
    cases hc : cmpB cd x y with
    | true =>
      obtain ⟨σ', m1, m2⟩ := asm_ok hS ha hb hp1 hq1 hc
      exact ok1_mem (List.mem_append_left _ (List.mem_map_of_mem (f := fun s => (pt, s)) m1)) rfl m2 hw
    | false =>
      obtain ⟨σ', m1, m2⟩ := asm_ok (cd := negC cd) hS ha hb hp1 hq1 (by rw [cmp_neg, hc]; rfl)
      exact ok1_mem (List.mem_append_right _ (List.mem_map_of_mem (f := fun s => (pf, s)) m1)) rfl m2 hw
  · cases h
theorem gS_st {r : List AV} {vr : List Value} (hS : gS E th ρ σ lv st w) (hr : gvs E th ρ r vr) : gS E th ρ (mkS σ r) lv vr w := ⟨hS.1, hS.2.1, hr, hS.2.2.2⟩
theorem sn_if1 {cd : ClassFile.Cond} {off : Int} (hS : gS E th ρ σ lv st w) (hw : wok E w) (h : if1A cd off σ pc = some L) : OK1 E th md ρ w L (ifS cd off pc lv st w) := by
  unfold if1A at h
  cases ho : decide (0 ≤ (pc : Int) + off) with
  | false => rw [ho] at h; cases h
  | true =>
    rw [ho] at h
    simp only [cond_true] at h
    split at h
    · rename_i a r hr
      have h3 := hS.2.2.1
      rw [hr] at h3
      obtain ⟨va, vr, rfl, g1, g2⟩ := gvs_c h3
      have hI : ∃ x : Int32, va = .int x := by
        unfold brA at h
        split at h
        · rename_i p q hp hq
          obtain ⟨x, e1, -⟩ := ivS_ok (cs := σ.1) hS.1 g1 hp
          exact ⟨x, e1⟩
        · cases h
      obtain ⟨x, rfl⟩ := hI
      unfold ifS
      rw [if_pos (of_decide_eq_true ho)]
      exact br_ok (b := vI 0 0) (y := 0) (gS_st hS g2) hw g1 ⟨0, rfl, by decide, by decide⟩ h
    · cases h
theorem sn_if2 {cd : ClassFile.Cond} {off : Int} (hS : gS E th ρ σ lv st w) (hw : wok E w) (h : if2A cd off σ pc = some L) : OK1 E th md ρ w L (icmpS cd off pc lv st w) := by
  unfold if2A at h
  cases ho : decide (0 ≤ (pc : Int) + off) with
  | false => rw [ho] at h; cases h
  | true =>
    rw [ho] at h
    simp only [cond_true] at h
    split at h
    · rename_i b a r hr
      have h3 := hS.2.2.1
      rw [hr] at h3
      obtain ⟨vb, st1, rfl, g0, h4⟩ := gvs_c h3
      obtain ⟨va, vr, rfl, g1, g2⟩ := gvs_c h4
      have hI : (∃ x : Int32, va = .int x) ∧ ∃ y : Int32, vb = .int y := by
        unfold brA at h
        split at h
        · rename_i p q hp hq
          obtain ⟨x, e1, -⟩ := ivS_ok (cs := σ.1) hS.1 g1 hp
          obtain ⟨y, e2, -⟩ := ivS_ok (cs := σ.1) hS.1 g0 hq
          exact ⟨⟨x, e1⟩, ⟨y, e2⟩⟩
        · cases h
      obtain ⟨⟨x, rfl⟩, ⟨y, rfl⟩⟩ := hI
      unfold icmpS
      rw [if_pos (of_decide_eq_true ho)]
      exact br_ok (gS_st hS g2) hw g1 g0 h
    · cases h
theorem sn_goto {off : Int} (hS : gS E th ρ σ lv st w) (hw : wok E w) (h : gtA off σ pc = some L) : OK1 E th md ρ w L (tgS pc off lv st w) := by
  unfold gtA at h
  cases ho : decide (0 ≤ (pc : Int) + off) with
  | false => rw [ho] at h; cases h
  | true =>
    rw [ho] at h
    rw [one_in h]
    refine ok1_id (lv' := lv) (st' := st) ?_ hS hw
    unfold tgS
    rw [if_pos (of_decide_eq_true ho)]
    rfl
theorem tbB_ok {a : AV} {x : Int32} {p : Int × Int} (hS : gS E th ρ σ lv st w) (ha : gv E th ρ a (.int x)) (hp : inI p x.toInt) : ∀ (offs : List Int) (lo : Int) (k : Nat) (off : Int), x.toInt = lo + k → offs[k]? = some off → ∃ σ', (tgA pc off, σ') ∈ tbB lo σ a p pc offs ∧ gS E th ρ σ' lv st w
  | [], _, _, _, _, h => by cases h
  | o :: offs, lo, 0, off, hx, h => by
    cases h
    have hx : x.toInt = lo := by simpa using hx
    obtain ⟨σ', m1, m2⟩ := asm_ok (cd := .eq) (b := vI lo lo) (q := (lo, lo)) (y := x) hS ha ⟨x, rfl, by omega, by omega⟩ hp ⟨by show lo ≤ _; omega, by show _ ≤ lo; omega⟩ (decide_eq_true rfl)
    exact ⟨σ', List.mem_append_left _ (List.mem_map_of_mem (f := fun s => (tgA pc o, s)) m1), m2⟩
  | o :: offs, lo, k + 1, off, hx, h => by
    have h : offs[k]? = some off := h
    obtain ⟨σ', m1, m2⟩ := tbB_ok hS ha hp offs (lo + 1) k off (by omega) h
    exact ⟨σ', List.mem_append_right _ m1, m2⟩
theorem sn_tb {df lo hi : Int} {offs : Array Int} (hS : gS E th ρ σ lv st w) (hw : wok E w) (h : tbA df lo hi offs σ pc = some L) : OK1 E th md ρ w L (tbS df lo hi offs pc lv st w) := by
  unfold tbA at h
  split at h
  · rename_i a r hr
    split at h
    · rename_i p hp
      cases hb : decide (0 ≤ (pc : Int) + df) && offs.toList.all (fun o => decide (0 ≤ (pc : Int) + o)) && decide (hi = lo + offs.toList.length - 1) && (inB lo lo && inB hi hi) with
      | false => rw [hb] at h; cases h
      | true =>
        rw [hb] at h
        cases h
        simp only [Bool.and_eq_true, decide_eq_true_eq] at hb
        obtain ⟨⟨⟨b1, b2⟩, b3⟩, b4, b5⟩ := hb
        have b4 := inB_ok b4
        have b5 := inB_ok b5
        have h3 := hS.2.2.1
        rw [hr] at h3
        obtain ⟨va, vr, rfl, g1, g2⟩ := gvs_c h3
        obtain ⟨x, rfl, hx⟩ := ivS_ok hS.1 g1 hp
        have hS' := gS_st (r := r) hS g2
        have htg : ∀ off : Int, 0 ≤ (pc : Int) + off → tgS pc off lv vr w = some (tgA pc off, lv, vr, w, 0, 0) := fun off q => by
          unfold tgS
          rw [if_pos q]
          rfl
        by_cases hlo : x.toInt < lo
        · have hlo2 : (Int32.ofInt lo).toInt = lo := Int32.toInt_ofInt_of_le (by have := (r32 x).1; omega) (by omega)
          obtain ⟨σ', m1, m2⟩ := asm_ok (cd := .lt) (b := vI lo lo) (q := (lo, lo)) (y := Int32.ofInt lo) hS' g1 ⟨_, rfl, by omega, by omega⟩ hx ⟨by show lo ≤ _; omega, by show _ ≤ lo; omega⟩ (decide_eq_true (Int32.lt_iff_toInt_lt.mpr (by omega)))
          refine ok1_mem (List.mem_append_right _ (List.mem_append_left _ (List.mem_map_of_mem (f := fun s => (tgA pc df, s)) m1))) ?_ m2 hw
          show (if x.toInt < lo ∨ hi < x.toInt then tgS pc df lv vr w else _) = _
          rw [if_pos (Or.inl hlo)]
          exact htg df b1
        · by_cases hhi : hi < x.toInt
          · have hhi2 : (Int32.ofInt hi).toInt = hi := Int32.toInt_ofInt_of_le (by omega) (by have := (r32 x).2; omega)
            obtain ⟨σ', m1, m2⟩ := asm_ok (cd := .gt) (b := vI hi hi) (q := (hi, hi)) (y := Int32.ofInt hi) hS' g1 ⟨_, rfl, by omega, by omega⟩ hx ⟨by show hi ≤ _; omega, by show _ ≤ hi; omega⟩ (decide_eq_true (Int32.lt_iff_toInt_lt.mpr (by omega)))
            refine ok1_mem (List.mem_append_right _ (List.mem_append_right _ (List.mem_map_of_mem (f := fun s => (tgA pc df, s)) m1))) ?_ m2 hw
            show (if x.toInt < lo ∨ hi < x.toInt then tgS pc df lv vr w else _) = _
            rw [if_pos (Or.inr hhi)]
            exact htg df b1
          · have hk : (x.toInt - lo).toNat < offs.toList.length := by omega
            have hoff : offs.toList[(x.toInt - lo).toNat]? = some (offs.toList[(x.toInt - lo).toNat]'hk) := List.getElem?_eq_getElem hk
            obtain ⟨σ', m1, m2⟩ := tbB_ok (pc := pc) hS' g1 hx offs.toList lo (x.toInt - lo).toNat _ (by omega) hoff
            refine ok1_mem (List.mem_append_left _ m1) ?_ m2 hw
            show (if x.toInt < lo ∨ hi < x.toInt then tgS pc df lv vr w else (match offs[(x.toInt - lo).toNat]? with
              | some off => tgS pc off lv vr w
              | none => none)) = _
            rw [if_neg (by omega)]
            have e1 : offs[(x.toInt - lo).toNat]? = some (offs.toList[(x.toInt - lo).toNat]'hk) := by
              rw [← hoff, Array.getElem?_toList]
            rw [e1]
            exact htg _ (of_decide_eq_true (List.all_eq_true.mp b2 _ (List.getElem_mem hk)))
    · cases h
  · cases h
end ST3
