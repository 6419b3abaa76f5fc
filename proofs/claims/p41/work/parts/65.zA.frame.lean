/-! while a text is told: the half that lives stays -/
def mdTo : MDs := [(47, 11), (47, 12), (47, 13), (47, 14), (47, 15), (47, 16), (47, 20), (47, 38), (47, 44), (47, 48), (55, 1000), (56, 1000), (57, 1000), (58, 1000), (59, 1000), (60, 1000), (61, 1000), (62, 1000), (63, 1000), (64, 1000), (65, 1000), (66, 1000), (67, 1000), (68, 1000), (69, 1000), (70, 1000), (71, 1000), (72, 1000), (73, 1000), (74, 1000), (75, 1000), (76, 1000), (77, 1000), (78, 1000), (79, 1000)]
def FR (v : Nat) (S S' : WS) : Prop := UPD mdTo S S' ∧ S'.1 158 v = S.1 158 v ∧ S'.1 168 v = S.1 168 v ∧ (∀ j : Nat, 10 * v ≤ j → j < 10 * v + 10 → S'.1 161 j = S.1 161 j) ∧ (∀ j : Nat, 40 * v ≤ j → j < 40 * v + 40 → S'.1 162 j = S.1 162 j) ∧ (∀ j : Nat, 6 * v ≤ j → j < 6 * v + 6 → S'.1 171 j = S.1 171 j ∧ S'.1 172 j = S.1 172 j) ∧ (∀ j : Nat, 130 * v ≤ j → j < 130 * v + 130 → RB S S' j) ∧ (∀ j : Nat, 420 * v ≤ j → j < 420 * v + 420 → cdF S' j = cdF S j ∧ ciF S' j = ciF S j)
theorem mfl {L md : MDs} (h : L.all (fun q => !(mdF md q.1 q.2)) = true) {q : Nat × Nat} (hq : q ∈ L) : mdF md q.1 q.2 = false := by simpa using List.all_eq_true.mp h q hq
theorem vld_c {cd ci cd' ci' : Nat → Int} : ∀ (n c d : Nat), (∀ j, c ≤ j → j < c + n → cd' j = cd j ∧ ci' j = ci j) → vld cd ci n c d → vld cd' ci' n c d
  | 0, _, _, _, _ => trivial
  | n + 1, c, d, he, h => by
    obtain ⟨e1, e2⟩ := he c (Nat.le_refl _) (by omega)
    refine ⟨fun q => ?_, fun q => ?_⟩
    · rw [e1] at q
      obtain ⟨g1, g2⟩ := h.1 q
      exact ⟨by rw [e1, e2]; exact g1, vld_c n _ _ (fun j j1 j2 => he j (by omega) (by omega)) g2⟩
    · rw [e1] at q
      obtain ⟨g1, g2⟩ := h.2 q
      exact ⟨g1, vld_c n _ _ (fun j j1 j2 => he j (by omega) (by omega)) g2⟩
theorem seg_c {cd ci cd' ci' : Nat → Int} {l f t : Int} (hl : 0 ≤ l) (he : ∀ j : Nat, l ≤ (j : Int) → (j : Int) < l + 420 → cd' j = cd j ∧ ci' j = ci j) (h : Seg cd ci l f t) : Seg cd' ci' l f t := by
  obtain ⟨a1, a2, a3, a4, a5⟩ := h
  exact ⟨a1, a2, a3, a4, vld_c _ _ _ (fun j j1 j2 => he j (by omega) (by omega)) a5⟩
section FRA
variable {S S' S1 S2 : WS} {u v : Nat}
theorem ei_q {c j t n : Nat} (hc : Nat.blt c 200 = true) (hs : shC c = (1, t, n)) (h : j < n → S'.1 c j = S.1 c j) : ei (WD S') c j = ei (WD S) c j := by
  by_cases hj : j < n
  · rw [ei_wd hc hs hj, ei_wd hc hs hj, h hj]
  · have e : ∀ T : WS, ea (WD T) c j = none := fun T => by
      unfold ea
      rw [wd_get, hc]
      show (match some (cellK T c) with
        | some (.inl (_, l)) => l[j]?
        | _ => none) = _
      rw [cell_i hs]
      exact rng_no _ hj
    unfold ei
    rw [e, e]
theorem fr_t (h : FR v S S1) (k : FR v S1 S2) : FR v S S2 := by
  obtain ⟨a1, a2, a3, a4, a5, a6, a7, a8⟩ := h
  obtain ⟨b1, b2, b3, b4, b5, b6, b7, b8⟩ := k
  exact ⟨up_t a1 b1, b2.trans a2, b3.trans a3, fun j j1 j2 => (b4 j j1 j2).trans (a4 j j1 j2), fun j j1 j2 => (b5 j j1 j2).trans (a5 j j1 j2), fun j j1 j2 => ⟨(b6 j j1 j2).1.trans (a6 j j1 j2).1, (b6 j j1 j2).2.trans (a6 j j1 j2).2⟩, fun j j1 j2 => rb_t (a7 j j1 j2) (b7 j j1 j2), fun j j1 j2 => ⟨(b8 j j1 j2).1.trans (a8 j j1 j2).1, (b8 j j1 j2).2.trans (a8 j j1 j2).2⟩⟩
def fpL : MDs := [(57, 1000), (57, 1001), (67, 1000), (67, 1001), (60, 1000), (60, 1001), (61, 1000), (61, 1001), (70, 1000), (70, 1001), (71, 1000), (71, 1001), (72, 1000), (72, 1001), (73, 1000), (73, 1001), (74, 1000), (74, 1001), (75, 1000), (75, 1001), (76, 1000), (76, 1001), (77, 1000), (77, 1001), (78, 1000), (78, 1001)]
theorem fr_up {md : MDs} (hv : v ≤ 1) (hu : UPD md S S') (hs : subM md mdTo = true) (hm : fpL.all (fun q => !(mdF md q.1 q.2)) = true) : FR v S S' := by
  have h : ∀ q ∈ fpL, mdF md q.1 q.2 = false := fun q hq => mfl hm hq
  refine ⟨up_le hs hu, up_er (t := 0) (n := 2) hu rfl rfl (h (57, 1000) (by decide)) (h (57, 1001) (by decide)) (by omega), up_er (t := 0) (n := 2) hu rfl rfl (h (67, 1000) (by decide)) (h (67, 1001) (by decide)) (by omega), fun j j1 j2 => up_er (t := 0) (n := 20) hu rfl rfl (h (60, 1000) (by decide)) (h (60, 1001) (by decide)) (by omega), fun j j1 j2 => up_er (t := 0) (n := 80) hu rfl rfl (h (61, 1000) (by decide)) (h (61, 1001) (by decide)) (by omega), fun j j1 j2 => ⟨up_er (t := 0) (n := 12) hu rfl rfl (h (70, 1000) (by decide)) (h (70, 1001) (by decide)) (by omega), up_er (t := 0) (n := 12) hu rfl rfl (h (71, 1000) (by decide)) (h (71, 1001) (by decide)) (by omega)⟩, fun j j1 j2 => ⟨up_er (t := 2) (n := 260) hu rfl rfl (h (72, 1000) (by decide)) (h (72, 1001) (by decide)) (by omega), up_er (t := 0) (n := 260) hu rfl rfl (h (73, 1000) (by decide)) (h (73, 1001) (by decide)) (by omega), up_er (t := 0) (n := 260) hu rfl rfl (h (74, 1000) (by decide)) (h (74, 1001) (by decide)) (by omega), up_er (t := 0) (n := 260) hu rfl rfl (h (75, 1000) (by decide)) (h (75, 1001) (by decide)) (by omega), up_er (t := 0) (n := 260) hu rfl rfl (h (76, 1000) (by decide)) (h (76, 1001) (by decide)) (by omega)⟩, fun j j1 j2 => ⟨?_, ?_⟩⟩
  · show (S'.1 178 j).toInt = _
    rw [up_er (c := 178) (t := 0) (n := 840) hu rfl rfl (h (77, 1000) (by decide)) (h (77, 1001) (by decide)) (by omega)]
  · show (S'.1 179 j).toInt = _
    rw [up_er (c := 179) (t := 0) (n := 840) hu rfl rfl (h (78, 1000) (by decide)) (h (78, 1001) (by decide)) (by omega)]
theorem fr_r (hv : v ≤ 1) (hw : wok EC (WD S)) : FR v S S := fr_up (md := []) hv (up_r hw) rfl rfl
theorem fr_jm (h : FR v S S') (hv : v ≤ 1) (h18 : (S.1 148 18).toInt = (v : Int)) (hJ : JM (WD S)) : JM (WD S') := by
  obtain ⟨hl, hA, hB, hC, hD, hE⟩ := hJ
  obtain ⟨a1, a2, a3, a4, a5, a6, a7, a8⟩ := h
  have hw := a1.1
  have g18 : fi (WD S) 18 = (v : Int) := by rw [fi_wd rfl rfl]; exact h18
  have f18 : fi (WD S') 18 = (v : Int) := by rw [fi_wd rfl rfl, up_fl a1 rfl rfl rfl]; exact h18
  have f60 : fi (WD S') 60 = fi (WD S) 60 := by rw [fi_wd rfl rfl, fi_wd rfl rfl, up_fl a1 rfl rfl rfl]
  have f70 : fi (WD S') 70 = fi (WD S) 70 := by rw [fi_wd rfl rfl, fi_wd rfl rfl, up_fl a1 rfl rfl rfl]
  rw [g18] at hA hB hC hD hE
  have e158 : ei (WD S') 158 v = ei (WD S) 158 v := ei_q (t := 0) (n := 2) rfl rfl (fun _ => a2)
  have e168 : ei (WD S') 168 v = ei (WD S) 168 v := ei_q (t := 0) (n := 2) rfl rfl (fun _ => a3)
  have b158 : ei (WD S') 158 v ≤ 10 := by
    rw [ei_wd (t := 0) (n := 2) rfl rfl (by omega)]
    exact (wel (c := 158) (j := v) (t := 0) (n := 2) (el := .inl (0, 10)) hw rfl rfl rfl (by decide) (by omega)).2
  have e161 : ∀ s : Nat, s < 10 → ei (WD S') 161 (10 * v + s) = ei (WD S) 161 (10 * v + s) := fun s hs => ei_q (t := 0) (n := 20) rfl rfl (fun _ => a4 _ (by omega) (by omega))
  have b161 : ∀ s : Nat, s < 10 → ei (WD S') 161 (10 * v + s) ≤ 4 := fun s hs => by
    rw [ei_wd (t := 0) (n := 20) rfl rfl (by omega)]
    exact (wel (c := 161) (j := 10 * v + s) (t := 0) (n := 20) (el := .inl (0, 4)) hw rfl rfl rfl (by decide) (by omega)).2
  refine ⟨wd_len, ?_⟩
  rw [f18, f60, f70, ei_up a1 (c := 183) rfl rfl, ei_up a1 (c := 187) rfl rfl, ei_up a1 (c := 199) rfl rfl, ei_up a1 (c := 198) rfl rfl, ei_up a1 (c := 196) rfl rfl]
  refine ⟨fun s k hs hk => ?_, ?_, ?_, fun i hi => ?_, fun a ha b b1 b2 => ?_⟩
  · have hs : (s : Int) < ei (WD S') 158 v := hs
    have hk : (k : Int) < ei (WD S') 161 (10 * v + s) := hk
    have hb := b161 s (by omega)
    have e162 : ei (WD S') 162 (4 * (10 * v + s) + k) = ei (WD S) 162 (4 * (10 * v + s) + k) := ei_q (t := 0) (n := 80) rfl rfl (fun _ => a5 _ (by omega) (by omega))
    show 0 ≤ ei (WD S') 162 (4 * (10 * v + s) + k) ∧ ei (WD S') 162 (4 * (10 * v + s) + k) < ei (WD S') 158 v
    rw [e162, e158]
    rw [e158] at hs
    rw [e161 s (by omega)] at hk
    exact hA s k hs hk
  · show ei (WD S') 158 v = 0 ∨ ei (WD S') 168 v < ei (WD S') 158 v
    rw [e158, e168]
    exact hB
  · show ei (WD S') 158 v = 0 ∨ _
    have hC : ei (WD S) 158 v = 0 ∨ ((0 ≤ ei (WD S) 183 0 ∧ ei (WD S) 183 0 < ei (WD S) 158 v) ∧ (∀ i : Nat, (i : Int) < fi (WD S) 60 → 0 ≤ ei (WD S) 187 (96 * i) ∧ ei (WD S) 187 (96 * i) < ei (WD S) 158 v) ∧ ∀ s : Nat, s < 3 → ei (WD S) 198 s ≠ 0 → 0 ≤ ei (WD S) 199 (1296 * s) ∧ ei (WD S) 199 (1296 * s) < ei (WD S) 158 v) := hC
    rw [← e158] at hC
    exact hC
  · show 0 < ei (WD S') 161 (10 * v + (ei (WD S) 196 i).toNat)
    have hD := hD i hi
    have hD : 0 < ei (WD S) 161 (10 * v + (ei (WD S) 196 i).toNat) := hD
    have hb : (ei (WD S) 196 i).toNat < 10 := by
      rw [← ei_up a1 (c := 196) rfl rfl]
      by_cases h20 : i < 20
      · rw [ei_wd (t := 0) (n := 20) rfl rfl h20]
        have : 0 ≤ (S'.1 196 i).toInt ∧ (S'.1 196 i).toInt ≤ 9 := wel (c := 196) (j := i) (t := 0) (n := 20) hw rfl rfl rfl (by decide) h20
        omega
      · have e : ei (WD S') 196 i = 0 := by
          unfold ei ea
          rw [wd_get]
          show (match (match some (cellK S' 196) with
            | some (.inl (_, l)) => l[i]?
            | _ => none) with
            | some x => x.toInt
            | none => 0) = 0
          rw [cell_i (show shC 196 = (1, 0, 20) from rfl)]
          show (match ((List.range 20).map (S'.1 196))[i]? with
            | some x => x.toInt
            | none => 0) = 0
          rw [rng_no _ h20]
        rw [e]
        decide
    rw [e161 _ hb]
    exact hD
  · have c1 : ei (WD S') 171 (6 * v + a) = ei (WD S) 171 (6 * v + a) := ei_q (t := 0) (n := 12) rfl rfl (fun _ => (a6 _ (by omega) (by omega)).1)
    have c2 : ei (WD S') 172 (6 * v + a) = ei (WD S) 172 (6 * v + a) := ei_q (t := 0) (n := 12) rfl rfl (fun _ => (a6 _ (by omega) (by omega)).2)
    have b1 : ei (WD S') 171 (6 * v + a) ≤ (b : Int) := b1
    have b2 : (b : Int) < ei (WD S') 172 (6 * v + a) := b2
    rw [c1] at b1
    rw [c2] at b2
    obtain ⟨hb, hT, hE2⟩ := hE a ha b b1 b2
    have hr : RB S S' b := a7 b (by omega) (by omega)
    have r1 : ei (WD S') 173 b = ei (WD S) 173 b := ei_q (t := 2) (n := 260) rfl rfl (fun _ => hr.1)
    have r2 : ei (WD S') 174 b = ei (WD S) 174 b := ei_q (t := 0) (n := 260) rfl rfl (fun _ => hr.2.1)
    have r3 : ei (WD S') 175 b = ei (WD S) 175 b := ei_q (t := 0) (n := 260) rfl rfl (fun _ => hr.2.2.1)
    have r4 : ei (WD S') 176 b = ei (WD S) 176 b := ei_q (t := 0) (n := 260) rfl rfl (fun _ => hr.2.2.2.1)
    have r5 : ei (WD S') 177 b = ei (WD S) 177 b := ei_q (t := 0) (n := 260) rfl rfl (fun _ => hr.2.2.2.2)
    have hc : ∀ j : Nat, 420 * (v : Int) ≤ (j : Int) → (j : Int) < 420 * (v : Int) + 420 → ei (WD S') 178 j = ei (WD S) 178 j ∧ ei (WD S') 179 j = ei (WD S) 179 j := fun j j1 j2 => by
      obtain ⟨q1, q2⟩ := a8 j (by omega) (by omega)
      exact ⟨ei_q (t := 0) (n := 840) rfl rfl (fun _ => Int32.toInt_inj.mp q1), ei_q (t := 0) (n := 840) rfl rfl (fun _ => Int32.toInt_inj.mp q2)⟩
    rw [r1, r2, r3, r4, r5]
    exact ⟨hb, fun z => ⟨seg_c (by omega) hc (hT z).1, seg_c (by omega) hc (hT z).2⟩, seg_c (by omega) hc hE2⟩
end FRA
