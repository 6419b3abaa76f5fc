/-! changes of a world of numbers -/
def UPD (md : MDs) (S S' : WS) : Prop := wok EC (WD S') ∧ agr EC (mdF md) (WD S) (WD S')
theorem mdx {b1 b2 : Bool} (h1 : b1 = true) (h2 : b1 = false) : b2 = true := by rw [h1] at h2; cases h2
section UPS
variable {md : MDs} {S0 S : WS} {c j t n : Nat} {el : (Int × Int) ⊕ (Nat → Int × Int)} {x : Int32}
theorem up_r (hw : wok EC (WD S)) : UPD md S S := ⟨hw, agr.rf _⟩
theorem up_t {S1 S2 : WS} (h : UPD md S0 S1) (k : UPD md S1 S2) : UPD md S0 S2 := ⟨k.1, agr.tr h.2 k.2⟩
theorem up_le {md' : MDs} (hs : subM md md' = true) (h : UPD md S0 S) : UPD md' S0 S := ⟨h.1, agr.le (subM_ok hs) h.2⟩
theorem up_a (h : UPD md S0 S) (hc : Nat.blt c 200 = true) (hs : shC c = (1, t, n)) (hd : dclC (ctyC c) = .inr (.inl (t, n, el))) (hm : mdF md (ctyC c) 1000 = true ∨ (mdF md (ctyC c) 1001 = true ∧ mdF md (ctyC c) (2000 + j) = true)) (hx : (elI el j).1 ≤ x.toInt ∧ x.toInt ≤ (elI el j).2) : UPD md S0 (uI S c j x) := by
  have hset := set_I (S := S) (i := j) (x := x) hc hs
  have hl : c < (WD S).length := by rw [wd_len]; exact Nat.le_of_ble_eq_true hc
  have hat : (WD S)[c]? = some (.inl (t, (List.range n).map (S.1 c))) := by
    rw [wd_get, hc]
    show some (cellK S c) = _
    rw [cell_i hs]
  rw [UPD, ← hset]
  refine ⟨wok_set h.1 hl (fun h0 => ?_), agr.tr h.2 ⟨List.length_set, fun c' j' hq => ?_, fun c' q1 q2 => ?_, fun c' j' q1 q2 => ?_⟩⟩
  · show okE EC c (dclC (ctyC c)) _
    rw [hd]
    refine ⟨_, rfl, by rw [List.length_set, rng_len], fun i y hy => ?_⟩
    by_cases hi : j = i
    · subst hi
      by_cases hjn : j < n
      · rw [List.getElem?_set_self (by rw [rng_len]; exact hjn)] at hy
        cases hy
        exact hx
      · rw [List.getElem?_eq_none (by rw [List.length_set, rng_len]; omega)] at hy
        cases hy
    · rw [List.getElem?_set_ne hi] at hy
      obtain ⟨e, e1, e2⟩ := h.1.2 c h0
      have e2 : okE EC c (dclC (ctyC c)) e := e2
      rw [hat] at e1
      cases e1
      rw [hd] at e2
      obtain ⟨l, e3, e4, e5⟩ := e2
      cases e3
      exact e5 i y hy
  · by_cases hcc : c' = c
    · subst hcc
      unfold fa
      rw [st_self hl, hat]
    · unfold fa
      rw [st_ne (fun q => hcc q.symm)]
  · by_cases hcc : c' = c
    · subst hcc
      exfalso
      rcases hm with hm | hm
      · exact absurd hm (by show ¬ (mdF md (EC.1 c') 1000 = true); rw [q1]; decide)
      · exact absurd hm.1 (by show ¬ (mdF md (EC.1 c') 1001 = true); rw [q2]; decide)
    · unfold ra
      rw [st_ne (fun q => hcc q.symm)]
  · by_cases hcc : c' = c
    · subst hcc
      by_cases hjj : j' = j
      · subst hjj
        exfalso
        rcases hm with hm | hm
        · exact absurd hm (by show ¬ (mdF md (EC.1 c') 1000 = true); rw [q1]; decide)
        · exact absurd hm.2 (by show ¬ (mdF md (EC.1 c') (2000 + j') = true); rw [q2]; decide)
      · unfold ea
        rw [st_self hl, hat]
        exact List.getElem?_set_ne (fun q => hjj q.symm)
    · unfold ea
      rw [st_ne (fun q => hcc q.symm)]
theorem up_f {avs : List AV} {lo hi : Int} (h : UPD md S0 S) (hk : Nat.beq ((flK 12).getD j 9) 0 = true) (hj : Nat.blt j 76 = true) (hd : dclC (ctyC 148) = .inl (12, avs)) (ha : avs[j]? = some (.inl (lo, hi))) (hm : mdF md 47 j = true) (hx : lo ≤ x.toInt ∧ x.toInt ≤ hi) : UPD md S0 (uI S 148 j x) := by
  have hset : (WD S).set 148 (.inr (.inr (.inr (12, ((List.range (flK 12).length).map (fun j => fvK 12 j 148 S)).set j (.int x))))) = WD (uI S 148 j x) := set_o (n := 0) rfl rfl (by unfold fvK; rw [hk, uI_i]; rfl) (uI_no S x) (fun _ _ _ => rfl) (fun _ _ _ => rfl)
  have hat : (WD S)[148]? = some (.inr (.inr (.inr (12, (List.range (flK 12).length).map (fun j => fvK 12 j 148 S))))) := by
    rw [wd_get]
    show some (cellK S 148) = _
    rw [cell_o (show shC 148 = (0, 12, 0) from rfl)]
  rw [UPD, ← hset]
  refine ⟨wok_put (t := 47) (a := .inl (lo, hi)) h.1 rfl (by decide) ?_ hat ⟨x, rfl, hx⟩, agr.tr h.2 ⟨List.length_set, fun c' j' hq => put_fa hat c' j' (fun e => ?_), fun c' _ _ => put_ra hat c', fun c' j' _ _ => put_ea hat c' j'⟩⟩
  · show dO EC 47 12 j = some (.inl (lo, hi))
    unfold dO
    have hd : EC.2.1 47 = .inl (12, avs) := hd
    rw [hd]
    exact ha
  · rw [e.1, e.2] at hq
    have hq : mdF md 47 j = false := hq
    rw [hm] at hq
    cases hq
/-- what isn't written is as it was -/
theorem up_el (h : UPD md S0 S) (hc : Nat.blt c 200 = true) (hs : shC c = (1, t, n)) (h1 : mdF md (ctyC c) 1000 = false) (h2 : mdF md (ctyC c) (2000 + j) = false) (hj : j < n) : S.1 c j = S0.1 c j := by
  have := h.2.2.2.2 c j h1 h2
  rw [ea_wd hc hs hj, ea_wd hc hs hj] at this
  exact Option.some.inj this
theorem up_fl (h : UPD md S0 S) (hk : Nat.beq ((flK 12).getD j 9) 0 = true) (hj : Nat.blt j 76 = true) (h1 : mdF md 47 j = false) : S.1 148 j = S0.1 148 j := by
  have := h.2.2.1 148 j h1
  rw [fa_wd hj hk, fa_wd hj hk] at this
  have this := Option.some.inj this
  injection this
theorem up_jm (h : UPD md S0 S) (hm : fpM.all (fun q => !(mdF md q.1 q.2)) = true) (hJ : JM (WD S0)) : JM (WD S) := js_ofM hm _ _ h.2 hJ
end UPS
theorem gvs_nn {E : WE} {th : Nat} {ρ : List Int} : ∀ {as : List AV} {vs : List Value}, gvs E th ρ as vs → nnS vs
  | [], [], _ => fun q => by cases q
  | a :: as, v :: vs, h => nn_c (fun q => by
      subst q
      have h1 := h.1
      match a, h1 with
      | .inl (lo, hi), ⟨x, e, _⟩ => cases e
      | .inr (.inl (k, d)), ⟨x, z, e, _⟩ => cases e
      | .inr (.inr (.inl (lo, hi, b))), ⟨x, e, _⟩ => cases e
      | .inr (.inr (.inr (.inl (lo, hi)))), ⟨x, e, _⟩ => cases e
      | .inr (.inr (.inr (.inr (.inl t)))), ⟨x, e, _⟩ => cases e
      | .inr (.inr (.inr (.inr (.inr (.inl sl))))), e => cases e
      | .inr (.inr (.inr (.inr (.inr (.inr n))))), e => cases e) (gvs_nn h.2)
  | [], _ :: _, h => h.elim
  | _ :: _, [], h => h.elim
theorem sat_rx {b d : Nat} {c : Ctr} (hb : okB b = true) (hc : c.1 = 47) (h : ∀ (av : List Value) (S : WS), wok EC (WD S) → JM (WD S) → gvs EC 148 [] c.2.1 av → gfs EC 148 [] c.2.2.1.1 (WD S) → ges EC 148 [] c.2.2.1.2 (WD S) → ∃ r S', RX d b av S = some (r, S') ∧ CPost EC JM 148 (WD S) c r (WD S')) : Sat EC JM d b c := fun th av w a1 a2 a3 a4 a5 a6 a7 => by
  have e : th = 148 := cty_one 47 148 (by decide +kernel) (by decide) th (by rw [← hc]; exact a1)
  subst e
  obtain ⟨S, rfl⟩ := wd_of a3 a4.1
  obtain ⟨r, S', h1, h2⟩ := h av S a3 a4 a5 a6 a7
  exact RX_mex hb (gvs_nn a5) h1 h2
theorem rx_sat {b d : Nat} {c : Ctr} {av : List Value} {S : WS} (hb : okB b = true) (h : Sat EC JM d b c) (hc : c.1 = 47) (hw : wok EC (WD S)) (hJ : JM (WD S)) (ha : gvs EC 148 [] c.2.1 av) (hf : gfs EC 148 [] c.2.2.1.1 (WD S)) (he : ges EC 148 [] c.2.2.1.2 (WD S)) : ∃ r S', RX d b av S = some (r, S') ∧ CPost EC JM 148 (WD S) c r (WD S') := mex_RX hb (gvs_nn ha) (h 148 av (WD S) (by rw [hc]; rfl) (by rw [hc]; decide) hw hJ ha hf he)
