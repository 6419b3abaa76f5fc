/-! the checker: calls and runs -/
def amB (E : WE) (tt : Nat) (cs : List (Nat × CE)) (a d : AV) : Bool := match d with
  | .inl p => (match ivS cs a with
    | some q => decide (p.1 ≤ q.1) && decide (q.2 ≤ p.2)
    | none => false)
  | .inr (.inr (.inr (.inl p))) => (match a with
    | .inr (.inr (.inr (.inl q))) => decide (p.1 ≤ q.1) && decide (q.2 ≤ p.2)
    | _ => false)
  | .inr (.inr (.inr (.inr (.inl t)))) => (match a with
    | .inr (.inr (.inr (.inr (.inl t')))) => Nat.beq t' t
    | .inr (.inr (.inr (.inr (.inr (.inr n))))) => Nat.beq n 0 && Nat.beq tt t
    | .inr (.inr (.inr (.inr (.inr (.inl sl))))) => (match atyA E tt (vA sl) with
      | some t' => Nat.beq t' t
      | none => false)
    | _ => false)
  | _ => false
def amsB (E : WE) (tt : Nat) (cs : List (Nat × CE)) : List AV → List AV → Bool
  | [], [] => true
  | a :: as, d :: ds => amB E tt cs a d && amsB E tt cs as ds
  | _, _ => false
def flB : AV → Bool
  | .inl _ => true
  | .inr (.inr (.inr (.inl _))) => true
  | .inr (.inr (.inr (.inr (.inl _)))) => true
  | _ => false
def sbB (cs : List (Nat × CE)) (o : Option AV) (d : AV) : Bool := match o, d with
  | some b, .inl p => (match ivS cs b with
    | some q => decide (p.1 ≤ q.1) && decide (q.2 ≤ p.2)
    | none => false)
  | some (.inr (.inr (.inr (.inl q)))), .inr (.inr (.inr (.inl p))) => decide (p.1 ≤ q.1) && decide (q.2 ≤ p.2)
  | _, _ => false
def cxB : AV → Bool
  | .inl p => decide (p.1 = p.2)
  | _ => false
/-- the facts fx hold in σ -/
def fxB (σ : AS) (fx : FX) : Bool := fx.1.all (fun q => sbB σ.1 (alg σ.2.2.2.2.1 q.1) q.2) && fx.2.all (fun q => cxB q.2.1 && sbB σ.1 (esg σ.2.2.2.2.2 (q.1, q.2.1)) q.2.2)
def fxC (fx : FX) : Bool := fx.1.all (fun q => flB q.2) && fx.2.all (fun q => cxB q.2.1 && flB q.2.2)
def noF (fx : FX) : Bool := fx.1.isEmpty && fx.2.isEmpty
def psB (c : Ctr) : Bool := c.2.2.2.2.all (fun o => (match o.1 with
  | none => true
  | some a => flB a) && fxC o.2)
noncomputable def kpE (E : WE) (tt : Nat) (cs : List (Nat × CE)) (m : MDs) (q : Nat × AV × AV) : Bool := match atyA E tt (vA q.1), ivS cs q.2.1 with
  | some t, some p => !(mdF m t 1000) && (!(mdF m t 1001) || (decide (0 ≤ p.1) && rgB (fun i => !(mdF m t (2000 + i))) (p.2 - p.1).toNat p.1.toNat))
  | _, _ => false
noncomputable def cpo (E : WE) (tt : Nat) (σ : AS) (rest : List AV) (m : MDs) (same : Bool) (o : Option AV × FX) : AS :=
  (σ.1, σ.2.1, σ.2.2.1, o.1.toList ++ rest, (bif same then o.2.1 else []) ++ σ.2.2.2.2.1.filter (fun q => !(mdF m tt q.1)), (bif same then o.2.2 else []) ++ σ.2.2.2.2.2.filter (kpE E tt σ.1 m))
noncomputable def callC (E : WE) (tt : Nat) (m : MDs) (σ : AS) (rest : List AV) (inst : Bool) (args : List AV) (c : Ctr) : Option (List AS) := bif inst then (match args, c.2.1 with
    | a :: as, .inr (.inr (.inr (.inr (.inr (.inr k))))) :: ds => (match a with
      | .inr (.inr (.inr (.inr (.inr (.inr n))))) => bif Nat.beq k 0 && Nat.beq n 0 && Nat.beq tt c.1 && amsB E tt σ.1 as ds && fxB σ c.2.2.1 && subM c.2.2.2.1 m && psB c then some (c.2.2.2.2.map (cpo E tt σ rest c.2.2.2.1 true)) else none
      | .inr (.inr (.inr (.inr (.inl t)))) => bif Nat.beq k 0 && Nat.beq t c.1 && amsB E tt σ.1 as ds && noF c.2.2.1 && subM c.2.2.2.1 m && psB c then some (c.2.2.2.2.map (cpo E tt σ rest c.2.2.2.1 false)) else none
      | _ => none)
    | _, _ => none) else
  bif Nat.beq (E.1 0) c.1 && !(Nat.beq c.1 0) && amsB E tt σ.1 args c.2.1 && noF c.2.2.1 && subM c.2.2.2.1 m && psB c then some (c.2.2.2.2.map (cpo E tt σ rest c.2.2.2.1 false)) else none
def tryC (f : Ctr → Option (List AS)) : List Ctr → Option (List AS)
  | [] => none
  | c :: cs => (match f c with
    | some r => some r
    | none => tryC f cs)
section EX1
variable {E : WE} {J : List AE → Prop} {th tt d b0 : Nat} {ρ : List Int} {w : List AE} {lv : List (Nat × Value)} {st : List Value} {σ : AS} {pc n i : Nat} {m : MDs}
theorem am_ok {th' : Nat} {a dd : AV} {v : Value} {cs : List (Nat × CE)} (hc : gcs ρ cs n) (hw : wok E w) (hth : E.1 th = tt) (htt : tt ≠ 0) (hg : gv E th ρ a v) (h : amB E tt cs a dd = true) : gv E th' [] dd v := by
  unfold amB at h
  split at h
  · rename_i p
    split at h
    · rename_i q hq
      simp only [Bool.and_eq_true, decide_eq_true_eq] at h
      obtain ⟨x, rfl, x1, x2⟩ := ivS_ok hc hg hq
      exact ⟨x, rfl, by omega, by omega⟩
    · cases h
  · rename_i p
    split at h
    · rename_i q
      simp only [Bool.and_eq_true, decide_eq_true_eq] at h
      obtain ⟨x, rfl, x1, x2⟩ := hg
      exact ⟨x, rfl, by omega, by omega⟩
    · cases h
  · rename_i t
    split at h
    · rename_i t'
      have e := Nat.eq_of_beq_eq_true h
      subst e
      exact hg
    · rename_i n0
      simp only [Bool.and_eq_true] at h
      have hg : v = .ref (bif Nat.beq n0 0 then th else n0) := hg
      rw [h.1] at hg
      exact ⟨th, hg, by rw [hth]; exact Nat.eq_of_beq_eq_true h.2, by rw [← Nat.eq_of_beq_eq_true h.2]; exact htt⟩
    · rename_i sl
      split at h
      · rename_i t' ht'
        obtain ⟨k, e1, e2, e3, -⟩ := aty_ok hw hth htt hg ht'
        have e := Nat.eq_of_beq_eq_true h
        subst e
        exact ⟨k, e1, e2, e3⟩
      · cases h
    · cases h
  · cases h
theorem ams_ok {th' : Nat} {cs : List (Nat × CE)} (hc : gcs ρ cs n) (hw : wok E w) (hth : E.1 th = tt) (htt : tt ≠ 0) : ∀ {as ds : List AV} {vs : List Value}, gvs E th ρ as vs → amsB E tt cs as ds = true → gvs E th' [] ds vs
  | [], [], [], _, _ => trivial
  | a :: as, dd :: ds, v :: vs, h, k => by
    have k : (amB E tt cs a dd && amsB E tt cs as ds) = true := k
    simp only [Bool.and_eq_true] at k
    exact ⟨am_ok hc hw hth htt h.1 k.1, ams_ok hc hw hth htt h.2 k.2⟩
  | [], _ :: _, _, _, k => by cases k
  | _ :: _, [], _, _, k => by cases k
  | [], [], _ :: _, h, _ => h.elim
  | _ :: _, _ :: _, [], h, _ => h.elim
theorem fl_ok {th' : Nat} {ρ' : List Int} {a : AV} {v : Value} (h : flB a = true) (hg : gv E th' ρ' a v) : gv E th ρ a v := by
  match a, h, hg with
  | .inl p, _, hg => exact hg
  | .inr (.inr (.inr (.inl p))), _, hg => exact hg
  | .inr (.inr (.inr (.inr (.inl t)))), _, hg => exact hg
  | .inr (.inl _), h, _ => cases h
  | .inr (.inr (.inl _)), h, _ => cases h
  | .inr (.inr (.inr (.inr (.inr _)))), h, _ => cases h
theorem cx_gi {ρ' : List Int} {a : AV} {j : Nat} (h : cxB a = true) (hg : gi ρ' a j) : gi ρ a j := by
  match a, h, hg with
  | .inl p, _, hg => exact hg
  | .inr _, h, _ => cases h
theorem sb_ok {cs : List (Nat × CE)} {b dd : AV} {v : Value} (hc : gcs ρ cs n) (hg : gv E th ρ b v) (h : sbB cs (some b) dd = true) : gv E th [] dd v := by
  unfold sbB at h
  split at h
  · rename_i b' p e
    cases e
    split at h
    · rename_i q hq
      simp only [Bool.and_eq_true, decide_eq_true_eq] at h
      obtain ⟨x, rfl, x1, x2⟩ := ivS_ok hc hg hq
      exact ⟨x, rfl, by omega, by omega⟩
    · cases h
  · rename_i q p e
    cases e
    simp only [Bool.and_eq_true, decide_eq_true_eq] at h
    obtain ⟨x, rfl, x1, x2⟩ := hg
    exact ⟨x, rfl, by omega, by omega⟩
  · cases h
theorem fx_ok {fx : FX} (hS : gS E th ρ σ lv st w) (h : fxB σ fx = true) : gfs E th [] fx.1 w ∧ ges E th [] fx.2 w := by
  unfold fxB at h
  simp only [Bool.and_eq_true] at h
  refine ⟨fun q hq => ?_, fun q hq => ?_⟩
  · have h1 := List.all_eq_true.mp h.1 q hq
    cases ha : alg σ.2.2.2.2.1 q.1 with
    | none => rw [ha] at h1; cases h1
    | some b =>
      rw [ha] at h1
      obtain ⟨v, k1, k2⟩ := hS.2.2.2.1 _ (alg_mem ha)
      exact ⟨v, k1, sb_ok hS.1 k2 h1⟩
  · have h1 := List.all_eq_true.mp h.2 q hq
    simp only [Bool.and_eq_true] at h1
    cases ha : esg σ.2.2.2.2.2 (q.1, q.2.1) with
    | none => rw [ha] at h1; cases h1.2
    | some b =>
      rw [ha] at h1
      unfold esg at ha
      cases hf : σ.2.2.2.2.2.find? (fun z => Nat.beq z.1 q.1 && idxB z.2.1 q.2.1) with
      | none => rw [hf] at ha; cases ha
      | some z =>
        rw [hf] at ha
        have e1 : z.2.2 = b := Option.some.inj ha
        have h3 := List.find?_some hf
        simp only [Bool.and_eq_true] at h3
        obtain ⟨j, x, k1, k2, k3⟩ := hS.2.2.2.2 z (List.mem_of_find?_eq_some hf)
        rw [idxB_eq h3.2] at k1
        rw [Nat.eq_of_beq_eq_true h3.1] at k2
        rw [e1] at k3
        exact ⟨j, x, cx_gi h1.1 k1, k2, sb_ok hS.1 k3 h1.2⟩
theorem no_ok {fx : FX} (h : noF fx = true) : gfs E th ρ fx.1 w ∧ ges E th ρ fx.2 w := by
  unfold noF at h
  simp only [Bool.and_eq_true, List.isEmpty_iff] at h
  rw [h.1, h.2]
  exact ⟨fun q hq => (by cases hq), fun q hq => (by cases hq)⟩
/-- facts of the caller's own object behind a call -/
theorem keepF {w' : List AE} {fs : List (Nat × AV)} (hS : gfs E th ρ fs w) (hth : E.1 th = tt) (ha : agr E (mdF m) w w') : gfs E th ρ (fs.filter (fun q => !(mdF m tt q.1))) w' := fun q hq => by
  obtain ⟨h1, h2⟩ := List.mem_filter.mp hq
  obtain ⟨v, k1, k2⟩ := hS q h1
  refine ⟨v, ?_, k2⟩
  rw [ha.2.1 th q.1 (by rw [hth]; simpa using h2)]
  exact k1
theorem ea_ra {w' : List AE} {c j : Nat} {x : Int32} (h : ra w' c = ra w c) (hx : ea w c j = some x) : ea w' c j = some x := by
  unfold ea at hx
  cases hc : w[c]? with
  | none => rw [hc] at hx; cases hx
  | some e =>
    rw [hc] at hx
    match e, hx, hc with
    | .inl (t, l), hx, hc =>
      have h1 : ra w c = some (.inl (t, l)) := by
        unfold ra
        rw [hc]
      rw [h1] at h
      unfold ra at h
      have h2 : w'[c]? = some (.inl (t, l)) := by
        cases hc' : w'[c]? with
        | none => rw [hc'] at h; cases h
        | some e' =>
          rw [hc'] at h
          match e', h with
          | .inl q, h => exact h
          | .inr (.inl q), h => cases h
          | .inr (.inr (.inl q)), h => cases h
          | .inr (.inr (.inr q)), h => cases h
      unfold ea
      rw [h2]
      exact hx
    | .inr (.inl _), hx, _ => cases hx
    | .inr (.inr (.inl _)), hx, _ => cases hx
    | .inr (.inr (.inr _)), hx, _ => cases hx
theorem keepG {w' : List AE} {es : List (Nat × AV × AV)} {cs : List (Nat × CE)} {n : Nat} {ρ0 t0 : List Int} (hρ : ρ = ρ0 ++ t0) (hc : gcs ρ0 cs n) (hS0 : ges E th ρ0 es w) (hw : wok E w) (hth : E.1 th = tt) (htt : tt ≠ 0) (ha : agr E (mdF m) w w') : ges E th ρ (es.filter (kpE E tt cs m)) w' := fun q hq => by
  subst hρ
  obtain ⟨h1, h2⟩ := List.mem_filter.mp hq
  obtain ⟨j, x, k0, k1, k2⟩ := hS0 q h1
  refine ⟨j, x, gi_ap t0 k0, ?_, gv_ap t0 k2⟩
  unfold kpE at h2
  split at h2
  · rename_i t p ht hp
    obtain ⟨k, e1, e2, -⟩ := aty_ok (ρ := ρ0) (a := vA q.1) (v := .ref (E.2.2 th q.1)) hw hth htt rfl ht
    cases e1
    simp only [Bool.and_eq_true, Bool.or_eq_true, Bool.not_eq_true', decide_eq_true_eq] at h2
    rcases h2.2 with h3 | h3
    · exact ea_ra (ha.2.2.1 _ (by rw [e2]; exact h2.1) (by rw [e2]; exact h3)) k1
    · have h4 := gi_iv hc k0 hp
      have h5 := rgB_ok (fun i => !(mdF m t (2000 + i))) _ _ j h3.2 (by omega) (by omega)
      have h5 : (!(mdF m t (2000 + j))) = true := h5
      rw [ha.2.2.2 _ j (by rw [e2]; exact h2.1) (by rw [e2]; simpa using h5)]
      exact k1
  · cases h2
theorem gfs_app {fs fs' : List (Nat × AV)} (h : gfs E th ρ fs w) (k : gfs E th ρ fs' w) : gfs E th ρ (fs ++ fs') w := fun q hq => (List.mem_append.mp hq).elim (h q) (k q)
theorem ges_app {fs fs' : List (Nat × AV × AV)} (h : ges E th ρ fs w) (k : ges E th ρ fs' w) : ges E th ρ (fs ++ fs') w := fun q hq => (List.mem_append.mp hq).elim (h q) (k q)
theorem res_ok {r : Option Value} {o : Option AV} {rest : List AV} {vr : List Value} (h : gvo E th ρ o r) (k : gvs E th ρ rest vr) : gvs E th ρ (o.toList ++ rest) (r.toList ++ vr) := by
  match o, r, h with
  | none, none, _ => exact k
  | some a, some v, h => exact ⟨h, k⟩
/-- behind a call by contract -/
theorem cpo_ok {th' : Nat} {same : Bool} {r : Option Value} {w' : List AE} {c : Ctr} {rest : List AV} {vr : List Value} (hS : gS E th ρ σ lv st w) (hw : wok E w) (hth : E.1 th = tt) (htt : tt ≠ 0) (hr : gvs E th ρ rest vr) (hps : psB c = true) (hsame : same = true → th' = th)
    (hp : CPost E J th' w c r w') : ∃ σ' ∈ c.2.2.2.2.map (cpo E tt σ rest c.2.2.2.1 same), gS E th ρ σ' lv (r.toList ++ vr) w' := by
  obtain ⟨p1, p2, p3, o, o1, o2, o3, o4⟩ := hp
  have hfl := List.all_eq_true.mp hps o o1
  simp only [Bool.and_eq_true] at hfl
  refine ⟨_, List.mem_map_of_mem (f := cpo E tt σ rest c.2.2.2.1 same) o1, hS.1, hS.2.1, ?_, ?_, ?_⟩
  · refine res_ok ?_ hr
    match ho : o.1, r, o2 with
    | none, none, _ => exact trivial
    | some a, some v, o2 =>
      rw [ho] at hfl
      exact fl_ok hfl.1 o2
  · refine gfs_app ?_ (keepF hS.2.2.2.1 hth p3)
    cases same with
    | false => exact fun q hq => (by cases hq)
    | true =>
      have e := hsame rfl
      subst e
      intro q hq
      obtain ⟨v, k1, k2⟩ := o3 q hq
      have hf2 := hfl.2
      unfold fxC at hf2
      simp only [Bool.and_eq_true] at hf2
      exact ⟨v, k1, fl_ok (List.all_eq_true.mp hf2.1 q hq) k2⟩
  · refine ges_app ?_ (keepG (t0 := []) (List.append_nil ρ).symm hS.1 hS.2.2.2.2 hw hth htt p3)
    cases same with
    | false => exact fun q hq => (by cases hq)
    | true =>
      have e := hsame rfl
      subst e
      intro q hq
      obtain ⟨j, x, k0, k1, k2⟩ := o4 q hq
      have hf2 := hfl.2
      unfold fxC at hf2
      simp only [Bool.and_eq_true] at hf2
      have hf3 := List.all_eq_true.mp hf2.2 q hq
      simp only [Bool.and_eq_true] at hf3
      exact ⟨j, x, cx_gi hf3.1 k0, k1, fl_ok hf3.2 k2⟩
/-- what holds behind a call -/
def PostL (E : WE) (J : List AE → Prop) (th : Nat) (m : MDs) (ρ : List Int) (lv : List (Nat × Value)) (vr : List Value) (w : List AE) (Ls : List AS) (r : Option Value) (w' : List AE) : Prop :=
  wok E w' ∧ J w' ∧ agr E (mdF m) w w' ∧ ∃ σ' ∈ Ls, ∃ t, gS E th (ρ ++ t) σ' lv (r.toList ++ vr) w'
theorem post_l {th' : Nat} {same : Bool} {c : Ctr} {rest : List AV} {vr : List Value} {av : List Value} (hS : gS E th ρ σ lv st w) (hw : wok E w) (hth : E.1 th = tt) (htt : tt ≠ 0) (hr : gvs E th ρ rest vr) (hps : psB c = true) (hsame : same = true → th' = th) (hsub : subM c.2.2.2.1 m = true)
    (h : MEx d b0 av w (CPost E J th' w c)) : MEx d b0 av w (PostL E J th m ρ lv vr w (c.2.2.2.2.map (cpo E tt σ rest c.2.2.2.1 same))) :=
  mex_post h (fun r w' q => by
    obtain ⟨σ', s1, s2⟩ := cpo_ok (same := same) hS hw hth htt hr hps hsame q
    exact ⟨q.1, q.2.1, agr.le (subM_ok hsub) q.2.2.1, σ', s1, [], by rw [List.append_nil]; exact s2⟩)
theorem callC_ok {inst : Bool} {args rest : List AV} {av vr : List Value} {c : Ctr} {Ls : List AS} (hsat : Sat E J d b0 c) (hS : gS E th ρ σ lv st w) (hw : wok E w) (hJ : J w) (hth : E.1 th = tt) (htt : tt ≠ 0) (hav : gvs E th ρ args av) (hr : gvs E th ρ rest vr) (h : callC E tt m σ rest inst args c = some Ls) : MEx d b0 av w (PostL E J th m ρ lv vr w Ls) := by
  unfold callC at h
  cases inst with
  | true =>
    simp only [cond_true] at h
    split at h
    · rename_i a as k ds hca
      split at h
      · rename_i n0
        cases hb : (Nat.beq k 0 && Nat.beq n0 0 && Nat.beq tt c.1 && amsB E tt σ.1 as ds && fxB σ c.2.2.1 && subM c.2.2.2.1 m && psB c) with
        | false => rw [hb] at h; cases h
        | true =>
          rw [hb] at h
          cases h
          simp only [Bool.and_eq_true] at hb
          obtain ⟨⟨⟨⟨⟨⟨b0', b1⟩, b2⟩, b3⟩, b4⟩, b5⟩, b6⟩ := hb
          have e := Nat.eq_of_beq_eq_true b2
          obtain ⟨v, vs, rfl, g1, g2⟩ := gvs_c hav
          have g1 : v = .ref (bif Nat.beq n0 0 then th else n0) := g1
          rw [b1] at g1
          obtain ⟨f1, f2⟩ := fx_ok hS b4
          have ek := Nat.eq_of_beq_eq_true b0'
          subst ek
          exact post_l (same := true) hS hw hth htt hr b6 (fun _ => rfl) b5 (hsat th _ w (by rw [hth]; exact e) (by rw [← e]; exact htt) hw hJ (by rw [hca]; exact ⟨g1, ams_ok hS.1 hw hth htt g2 b3⟩) f1 f2)
      · rename_i t
        cases hb : (Nat.beq k 0 && Nat.beq t c.1 && amsB E tt σ.1 as ds && noF c.2.2.1 && subM c.2.2.2.1 m && psB c) with
        | false => rw [hb] at h; cases h
        | true =>
          rw [hb] at h
          cases h
          simp only [Bool.and_eq_true] at hb
          obtain ⟨⟨⟨⟨⟨b0', b2⟩, b3⟩, b4⟩, b5⟩, b6⟩ := hb
          have e := Nat.eq_of_beq_eq_true b2
          obtain ⟨v, vs, rfl, g1, g2⟩ := gvs_c hav
          obtain ⟨o, rfl, ho, ht⟩ := g1
          have ek := Nat.eq_of_beq_eq_true b0'
          subst ek
          obtain ⟨f1, f2⟩ := no_ok (E := E) (th := o) (ρ := []) (w := w) b4
          exact post_l (same := false) hS hw hth htt hr b6 (fun q => by cases q) b5 (hsat o _ w (by rw [ho]; exact e) (by rw [← e]; exact ht) hw hJ (by rw [hca]; exact ⟨rfl, ams_ok hS.1 hw hth htt g2 b3⟩) f1 f2)
      · cases h
    · cases h
  | false =>
    simp only [cond_false] at h
    cases hb : (Nat.beq (E.1 0) c.1 && !(Nat.beq c.1 0) && amsB E tt σ.1 args c.2.1 && noF c.2.2.1 && subM c.2.2.2.1 m && psB c) with
    | false => rw [hb] at h; cases h
    | true =>
      rw [hb] at h
      cases h
      simp only [Bool.and_eq_true] at hb
      obtain ⟨⟨⟨⟨⟨b1, b2⟩, b3⟩, b4⟩, b5⟩, b6⟩ := hb
      obtain ⟨f1, f2⟩ := no_ok (E := E) (th := 0) (ρ := []) (w := w) b4
      exact post_l (same := false) (th' := 0) hS hw hth htt hr b6 (fun q => by cases q) b5 (hsat 0 _ w (Nat.eq_of_beq_eq_true b1) (nb b2) hw hJ (ams_ok hS.1 hw hth htt hav b3) f1 f2)
theorem tryC_ok {f : Ctr → Option (List AS)} {Ls : List AS} : ∀ {cs : List Ctr}, tryC f cs = some Ls → ∃ c ∈ cs, f c = some Ls
  | [], h => by cases h
  | c :: cs, h => by
    have h : (match f c with
      | some r => some r
      | none => tryC f cs) = some Ls := h
    split at h
    · rename_i r hr
      cases h
      exact ⟨c, List.mem_cons_self, hr⟩
    · obtain ⟨c', h1, h2⟩ := tryC_ok h
      exact ⟨c', List.mem_cons_of_mem _ h1, h2⟩
end EX1
