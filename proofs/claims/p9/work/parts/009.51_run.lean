section
/-! the checker: opened calls and runs -/
def namL (cs : List (Nat × CE)) (n : Nat) : List AV → List (Nat × CE) × Nat × List AV
  | [] => (cs, n, [])
  | a :: as => ((namL (namA cs n a).1 (namA cs n a).2.1 as).1, (namL (namA cs n a).1 (namA cs n a).2.1 as).2.1, (namA cs n a).2.2 :: (namL (namA cs n a).1 (namA cs n a).2.1 as).2.2)
def trV (E : WE) (tt : Nat) (a : AV) : Option AV := match a with
  | .inr (.inr (.inr (.inr (.inr (.inr n))))) => bif Nat.beq n 0 then some (vR tt) else some (vX n)
  | .inr (.inr (.inr (.inr (.inr (.inl sl))))) => (match atyA E tt (vA sl) with
    | some t => some (vR t)
    | none => none)
  | a => some a
def trL (E : WE) (tt : Nat) : List AV → Option (List AV)
  | [] => some []
  | a :: as => (match trV E tt a, trL E tt as with
    | some b, some bs => some (b :: bs)
    | _, _ => none)
def trO (E : WE) (tt : Nat) : Option AV → Option (Option AV)
  | none => some none
  | some a => (match trV E tt a with
    | some b => some (some b)
    | none => none)
abbrev RET : Type := Option AV × AS
abbrev CAL : Type := Nat → Nat → MDs → MDs → List (Nat × CE) → Nat → List AV → FX → Option (List RET)
def fmM (mi m : MDs) : MDs := m.filter (fun q => mdF mi q.1 q.2)
def mapO {α β : Type} (f : α → Option β) : List α → Option (List β)
  | [] => some []
  | a :: as => (match f a, mapO f as with
    | some b, some bs => some (b :: bs)
    | _, _ => none)
def bkS (σ : AS) (rest : List AV) (p : RET) : AS := (p.2.1, p.2.2.1, σ.2.2.1, p.1.toList ++ rest, p.2.2.2.2.2)
noncomputable def bkD (E : WE) (tt tt' : Nat) (σ : AS) (rest : List AV) (m : MDs) (p : RET) : Option AS := match trO E tt' p.1 with
  | some o => some (p.2.1, p.2.2.1, σ.2.2.1, o.toList ++ rest, σ.2.2.2.2.1.filter (fun q => !(mdF m tt q.1)), σ.2.2.2.2.2.filter (kpE E tt σ.1 m))
  | none => none
noncomputable def inD (E : WE) (cal : CAL) (tt tt' : Nat) (mi m0 m : MDs) (σ : AS) (rest : List AV) (b : Nat) (cs : List (Nat × CE)) (n : Nat) (args : Option (List AV)) : Option (List AS) := match args with
  | none => none
  | some as => bif Nat.beq tt' 0 then none else (match cal b tt' (fmM mi m0) (fmM mi m) cs n as ([], []) with
    | some rets => mapO (bkD E tt tt' σ rest (fmM mi m)) rets
    | none => none)
noncomputable def inlC (E : WE) (cal : CAL) (tt : Nat) (mi m0 m : MDs) (σ : AS) (rest : List AV) (inst : Bool) (b : Nat) (args : List AV) : Option (List AS) :=
  bif inst then (match (namL σ.1 σ.2.1 args).2.2 with
    | .inr (.inr (.inr (.inr (.inr (.inr n))))) :: as => bif Nat.beq n 0 then (match cal b tt m0 m (namL σ.1 σ.2.1 args).1 (namL σ.1 σ.2.1 args).2.1 (vX 0 :: as) σ.2.2.2.2 with
        | some rets => some (rets.map (bkS σ rest))
        | none => none)
      else inD E cal tt (E.1 0) mi m0 m σ rest b (namL σ.1 σ.2.1 args).1 (namL σ.1 σ.2.1 args).2.1 ((trL E tt as).map (fun l => vX n :: l))
    | .inr (.inr (.inr (.inr (.inl t)))) :: as => inD E cal tt t mi m0 m σ rest b (namL σ.1 σ.2.1 args).1 (namL σ.1 σ.2.1 args).2.1 ((trL E tt as).map (fun l => vX 0 :: l))
    | _ => none) else inD E cal tt (E.1 0) mi m0 m σ rest b (namL σ.1 σ.2.1 args).1 (namL σ.1 σ.2.1 args).2.1 (trL E tt (namL σ.1 σ.2.1 args).2.2)
def JS (E : WE) (J : List AE → Prop) (m0 : MDs) : Prop := ∀ w w', agr E (mdF m0) w w' → J w → J w'
def SB (m0 m : MDs) : Prop := ∀ t j, mdF m0 t j = true → mdF m t j = true
def CalOK (E : WE) (J : List AE → Prop) (d : Nat) (cal : CAL) : Prop := ∀ (b tt : Nat) (m0 m : MDs) (cs : List (Nat × CE)) (n : Nat) (args : List AV) (fx : FX) (rets : List RET), cal b tt m0 m cs n args fx = some rets → JS E J m0 → SB m0 m →
  ∀ (th : Nat) (ρ : List Int) (av : List Value) (w : List AE), E.1 th = tt → tt ≠ 0 → wok E w → J w → gcs ρ cs n → gvs E th ρ args av → gfs E th ρ fx.1 w → ges E th ρ fx.2 w →
    MEx d b av w (fun r w' => wok E w' ∧ J w' ∧ agr E (mdF m) w w' ∧ ∃ p ∈ rets, ∃ t, gvo E th (ρ ++ t) p.1 r ∧ gcs (ρ ++ t) p.2.1 p.2.2.1 ∧ gfs E th (ρ ++ t) p.2.2.2.2.2.1 w' ∧ ges E th (ρ ++ t) p.2.2.2.2.2.2 w')
section RU1
variable {E : WE} {J : List AE → Prop} {th tt d b0 : Nat} {ρ : List Int} {w : List AE} {lv : List (Nat × Value)} {st : List Value} {σ : AS} {pc n i : Nat} {m m0 mi : MDs}
theorem namL_ok : ∀ {as : List AV} {vs : List Value} {ρ : List Int} {cs : List (Nat × CE)} {n : Nat}, gcs ρ cs n → gvs E th ρ as vs → ∃ t, gcs (ρ ++ t) (namL cs n as).1 (namL cs n as).2.1 ∧ gvs E th (ρ ++ t) (namL cs n as).2.2 vs
  | [], [], ρ, cs, n, hc, _ => ⟨[], by rw [List.append_nil]; exact hc, trivial⟩
  | a :: as, v :: vs, ρ, cs, n, hc, h => by
    obtain ⟨t, t1, t2⟩ := namA_ok hc h.1
    obtain ⟨s, s1, s2⟩ := namL_ok t1 (gvs_ap t h.2)
    refine ⟨t ++ s, ?_, ?_⟩
    · rw [← List.append_assoc]
      exact s1
    · rw [← List.append_assoc]
      exact ⟨gv_ap s t2, s2⟩
  | [], _ :: _, _, _, _, _, h => h.elim
  | _ :: _, [], _, _, _, _, h => h.elim
theorem trV_ok {th' : Nat} {a b : AV} {v : Value} (hw : wok E w) (hth : E.1 th = tt) (htt : tt ≠ 0) (hg : gv E th ρ a v) (h : trV E tt a = some b) : gv E th' ρ b v := by
  unfold trV at h
  split at h
  · rename_i n0
    have hg : v = .ref (bif Nat.beq n0 0 then th else n0) := hg
    subst hg
    cases hn : Nat.beq n0 0 with
    | true => rw [hn] at h; cases h; exact ⟨th, rfl, hth, htt⟩
    | false =>
      rw [hn] at h
      cases h
      show Value.ref _ = Value.ref (bif Nat.beq n0 0 then th' else n0)
      rw [hn]
      rfl
  · rename_i sl
    split at h
    · rename_i t ht
      cases h
      obtain ⟨k, e1, e2, e3, -⟩ := aty_ok hw hth htt hg ht
      exact ⟨k, e1, e2, e3⟩
    · cases h
  · rename_i h1 h2
    cases h
    match a, hg, h1, h2 with
    | .inl p, hg, _, _ => exact hg
    | .inr (.inl _), hg, _, _ => exact hg
    | .inr (.inr (.inl _)), hg, _, _ => exact hg
    | .inr (.inr (.inr (.inl _))), hg, _, _ => exact hg
    | .inr (.inr (.inr (.inr (.inl _)))), hg, _, _ => exact hg
    | .inr (.inr (.inr (.inr (.inr (.inl sl))))), _, _, h2 => exact absurd rfl (h2 sl)
    | .inr (.inr (.inr (.inr (.inr (.inr n))))), _, h1, _ => exact absurd rfl (h1 n)
theorem trL_ok {th' : Nat} (hw : wok E w) (hth : E.1 th = tt) (htt : tt ≠ 0) : ∀ {as bs : List AV} {vs : List Value}, gvs E th ρ as vs → trL E tt as = some bs → gvs E th' ρ bs vs
  | [], bs, [], _, h => by cases h; trivial
  | a :: as, bs, v :: vs, hg, h => by
    have h : (match trV E tt a, trL E tt as with
      | some b, some bs => some (b :: bs)
      | _, _ => none) = some bs := h
    split at h
    · rename_i b bs' hb hbs
      cases h
      exact ⟨trV_ok hw hth htt hg.1 hb, trL_ok hw hth htt hg.2 hbs⟩
    · cases h
  | [], _, _ :: _, hg, _ => hg.elim
  | _ :: _, _, [], hg, _ => hg.elim
theorem fmM_js (h : JS E J m0) : JS E J (fmM mi m0) := fun w w' q => h w w' (agr.le (fun t j z => fltM t j z) q)
theorem fmM_sb (h : SB m0 m) : SB (fmM mi m0) (fmM mi m) := fun t j hq => by
  unfold mdF fmM at hq ⊢
  obtain ⟨q, h1, h2⟩ := List.any_eq_true.mp hq
  obtain ⟨h3, h4⟩ := List.mem_filter.mp h1
  simp only [Bool.and_eq_true] at h2
  have e1 := Nat.eq_of_beq_eq_true h2.1
  have e2 := Nat.eq_of_beq_eq_true h2.2
  have h5 := h t j (by unfold mdF; exact List.any_eq_true.mpr ⟨q, h3, by simp only [Bool.and_eq_true]; exact h2⟩)
  unfold mdF at h5
  obtain ⟨z, z1, z2⟩ := List.any_eq_true.mp h5
  refine List.any_eq_true.mpr ⟨z, List.mem_filter.mpr ⟨z1, ?_⟩, z2⟩
  simp only [Bool.and_eq_true] at z2
  rw [Nat.eq_of_beq_eq_true z2.1, Nat.eq_of_beq_eq_true z2.2, ← e1, ← e2]
  exact h4
theorem mapO_mem {α β : Type} {f : α → Option β} : ∀ {l : List α} {r : List β}, mapO f l = some r → ∀ a ∈ l, ∃ b ∈ r, f a = some b
  | [], _, _, a, ha => by cases ha
  | x :: l, r, h, a, ha => by
    have h : (match f x, mapO f l with
      | some b, some bs => some (b :: bs)
      | _, _ => none) = some r := h
    split at h
    · rename_i b bs hb hbs
      cases h
      rcases List.mem_cons.mp ha with rfl | ha
      · exact ⟨b, List.mem_cons_self, hb⟩
      · obtain ⟨b', k1, k2⟩ := mapO_mem hbs a ha
        exact ⟨b', List.mem_cons_of_mem _ k1, k2⟩
    · cases h
theorem inD_ok {cal : CAL} {tt' th' : Nat} {rest : List AV} {vr av : List Value} {cs : List (Nat × CE)} {n : Nat} {args : Option (List AV)} {Ls : List AS} {t0 : List Int} (hcal : CalOK E J d cal) (hJS : JS E J m0) (hSB : SB m0 m) (hS : gS E th ρ σ lv st w) (hw : wok E w) (hJ : J w) (hth : E.1 th = tt) (htt : tt ≠ 0) (hth' : E.1 th' = tt') (hr : gvs E th ρ rest vr)
    (hc : gcs (ρ ++ t0) cs n) (hav : ∀ as, args = some as → gvs E th' (ρ ++ t0) as av) (h : inD E cal tt tt' mi m0 m σ rest b0 cs n args = some Ls) : MEx d b0 av w (PostL E J th m ρ lv vr w Ls) := by
  unfold inD at h
  split at h
  · cases h
  · rename_i as'
    cases hz : Nat.beq tt' 0 with
    | true => rw [hz] at h; cases h
    | false =>
      rw [hz] at h
      simp only [cond_false] at h
      have htt' : tt' ≠ 0 := fun e => by rw [e] at hz; cases hz
      split at h
      · rename_i rets hrets
        refine mex_post (hcal b0 tt' _ _ cs n as' ([], []) rets hrets (fmM_js hJS) (fmM_sb hSB) th' (ρ ++ t0) av w hth' htt' hw hJ hc (hav as' rfl) (fun q hq => by cases hq) (fun q hq => by cases hq)) (fun r w' q => ?_)
        obtain ⟨q1, q2, q3, p, p1, t, p2, p3, p4, p5⟩ := q
        obtain ⟨σ', s1, s2⟩ := mapO_mem h p p1
        refine ⟨q1, q2, agr.le (fun t j z => fltM t j z) q3, σ', s1, t0 ++ t, ?_⟩
        unfold bkD at s2
        split at s2
        · rename_i o ho
          cases s2
          rw [← List.append_assoc]
          refine ⟨p3, glv_ap t (glv_ap t0 hS.2.1), res_ok ?_ (gvs_ap t (gvs_ap t0 hr)), keepF (gfs_ap t (gfs_ap t0 hS.2.2.2.1)) hth q3, keepG (ρ0 := ρ) (t0 := t0 ++ t) (List.append_assoc ρ t0 t) hS.1 hS.2.2.2.2 hw hth htt q3⟩
          match hp1 : p.1, r, p2 with
          | none, none, _ =>
            rw [hp1] at ho
            cases ho
            trivial
          | some a, some v, p2 =>
            rw [hp1] at ho
            have ho : (match trV E tt' a with
              | some b => some (some b)
              | none => none) = some o := ho
            split at ho
            · rename_i b hb
              cases ho
              exact trV_ok q1 hth' htt' p2 hb
            · cases ho
        · cases s2
      · cases h
theorem inlC_ok {cal : CAL} {inst : Bool} {rest args : List AV} {vr av : List Value} {Ls : List AS} (hcal : CalOK E J d cal) (hJS : JS E J m0) (hSB : SB m0 m) (hS : gS E th ρ σ lv st w) (hw : wok E w) (hJ : J w) (hth : E.1 th = tt) (htt : tt ≠ 0) (hav : gvs E th ρ args av) (hr : gvs E th ρ rest vr)
    (h : inlC E cal tt mi m0 m σ rest inst b0 args = some Ls) : MEx d b0 av w (PostL E J th m ρ lv vr w Ls) := by
  obtain ⟨t0, n1, n2⟩ := namL_ok hS.1 hav
  unfold inlC at h
  cases inst with
  | true =>
    simp only [cond_true] at h
    split at h
    · rename_i n0 as hn
      rw [hn] at n2
      obtain ⟨v, vs, rfl, g1, g2⟩ := gvs_c n2
      have g1 : v = .ref (bif Nat.beq n0 0 then th else n0) := g1
      cases hb : Nat.beq n0 0 with
      | true =>
        rw [hb] at h g1
        simp only [cond_true] at h
        split at h
        · rename_i rets hrets
          cases h
          refine mex_post (hcal b0 tt m0 m _ _ (vX 0 :: as) σ.2.2.2.2 rets hrets hJS hSB th (ρ ++ t0) (v :: vs) w hth htt hw hJ n1 ⟨g1, g2⟩ (gfs_ap t0 hS.2.2.2.1) (ges_ap t0 hS.2.2.2.2)) (fun r w' q => ?_)
          obtain ⟨q1, q2, q3, p, p1, t, p2, p3, p4, p5⟩ := q
          refine ⟨q1, q2, q3, bkS σ rest p, List.mem_map_of_mem p1, t0 ++ t, ?_⟩
          rw [← List.append_assoc]
          exact ⟨p3, glv_ap t (glv_ap t0 hS.2.1), res_ok p2 (gvs_ap t (gvs_ap t0 hr)), p4, p5⟩
        · cases h
      | false =>
        rw [hb] at h g1
        simp only [cond_false] at h
        refine inD_ok (th' := 0) hcal hJS hSB hS hw hJ hth htt rfl hr n1 (fun as' e => ?_) h
        cases ht : trL E tt as with
        | none => rw [ht] at e; cases e
        | some l =>
          rw [ht] at e
          cases e
          refine ⟨?_, trL_ok hw hth htt g2 ht⟩
          show v = .ref (bif Nat.beq n0 0 then 0 else n0)
          rw [hb]
          exact g1
    · rename_i t as hn
      rw [hn] at n2
      obtain ⟨v, vs, rfl, g1, g2⟩ := gvs_c n2
      obtain ⟨o, rfl, ho, ht0⟩ := g1
      refine inD_ok (th' := o) hcal hJS hSB hS hw hJ hth htt ho hr n1 (fun as' e => ?_) h
      cases ht : trL E tt as with
      | none => rw [ht] at e; cases e
      | some l =>
        rw [ht] at e
        cases e
        exact ⟨rfl, trL_ok hw hth htt g2 ht⟩
    · cases h
  | false =>
    simp only [cond_false] at h
    exact inD_ok (th' := 0) hcal hJS hSB hS hw hJ hth htt rfl hr n1 (fun as' e => trL_ok hw hth htt n2 e) h
end RU1
abbrev EXT : Type := RET ⊕ (Nat × AS)
def joinM {α : Type} (f : α → Option (List EXT)) : List α → Option (List EXT)
  | [] => some []
  | a :: as => (match f a with
    | some x => (match joinM f as with
      | some y => some (x ++ y)
      | none => none)
    | none => none)
theorem joinM_mem {α : Type} {f : α → Option (List EXT)} : ∀ {l : List α} {r : List EXT}, joinM f l = some r → ∀ a ∈ l, ∃ x, f a = some x ∧ ∀ e ∈ x, e ∈ r
  | [], _, _, a, ha => by cases ha
  | b :: l, r, h, a, ha => by
    have h : (match f b with
      | some x => (match joinM f l with
        | some y => some (x ++ y)
        | none => none)
      | none => none) = some r := h
    split at h
    · rename_i x hx
      split at h
      · rename_i y hy
        cases h
        rcases List.mem_cons.mp ha with rfl | ha
        · exact ⟨x, hx, fun e he => List.mem_append_left _ he⟩
        · obtain ⟨z, z1, z2⟩ := joinM_mem hy a ha
          exact ⟨z, z1, fun e he => List.mem_append_right _ (z2 e he)⟩
      · cases h
    · cases h
/-- contracts of the methods, what an opened method writes -/
abbrev XE : Type := (Nat → List Ctr) × (Nat → MDs)
noncomputable def dcA (E : WE) (X : XE) (cal : CAL) (tt : Nat) (m0 m : MDs) (σ : AS) (q : Nat × Bool × List AV × List AV) : Option (List AS) := match X.1 q.1 with
  | [] => inlC E cal tt (X.2 q.1) m0 m σ q.2.2.2 q.2.1 q.1 q.2.2.1
  | cs => tryC (callC E tt m σ q.2.2.2 q.2.1 q.2.2.1) cs
noncomputable def exB (E : WE) (X : XE) (cal : CAL) (tt : Nat) (m0 m : MDs) (M : MD) (stp : Nat → AS → Bool) (n : Nat) : Bool → Nat → AS → Option (List EXT) :=
  Nat.rec (fun _ _ _ => none) (fun _ ih first pc σ => bif !first && stp pc σ then some [.inr (pc, σ)] else (match md_i M pc with
    | none => none
    | some x => match rtA M x σ with
      | some r => some [.inl (r, σ)]
      | none => match clA E tt x σ.2.2.2.1 with
        | some q => (match dcA E X cal tt m0 m σ q with
          | none => none
          | some Ls => joinM (fun s => ih false (pc + 3) s) Ls)
        | none => (match astep E tt (mdF m0) M x pc σ with
          | none => none
          | some L => joinM (fun p => ih false p.1 p.2) L))) n
def allR : List EXT → Option (List RET)
  | [] => some []
  | .inl r :: es => (match allR es with
    | some rs => some (r :: rs)
    | none => none)
  | .inr _ :: _ => none
noncomputable def exM (E : WE) (X : XE) (fu d : Nat) : CAL :=
  Nat.rec (fun _ _ _ _ _ _ _ _ => none) (fun _ ih b tt m0 m cs n args fx => bif Nat.ble (catA args) (md_n (mdOf b)) then (match exB E X ih tt m0 m (mdOf b) (fun _ _ => false) fu true 0 (cs, n, aargs 0 args, [], fx) with
    | some ex => allR ex
    | none => none) else none) d
theorem allR_in : ∀ {es : List EXT} {rs : List RET}, allR es = some rs → (∀ r, (.inl r : EXT) ∈ es → r ∈ rs) ∧ ∀ q, ¬ (.inr q : EXT) ∈ es
  | [], _, h => ⟨fun r hr => (by cases hr), fun q hq => (by cases hq)⟩
  | .inl r :: es, rs, h => by
    have h : (match allR es with
      | some rs => some (r :: rs)
      | none => none) = some rs := h
    split at h
    · rename_i rs' hrs
      cases h
      obtain ⟨k1, k2⟩ := allR_in hrs
      refine ⟨fun r' hr => ?_, fun q hq => ?_⟩
      · rcases List.mem_cons.mp hr with e | hr
        · cases e
          exact List.mem_cons_self
        · exact List.mem_cons_of_mem _ (k1 r' hr)
      · rcases List.mem_cons.mp hq with e | hq
        · cases e
        · exact k2 q hq
    · cases h
  | .inr _ :: _, _, h => by cases h
section RU2
variable {E : WE} {J : List AE → Prop} {X : XE} {th tt d : Nat} {m m0 : MDs} {M : MD} {cal : CAL} {stp : Nat → AS → Bool} {P : Option Value → List AE → Prop}
theorem dcA_ok {q : Nat × Bool × List AV × List AV} {ρ : List Int} {σ : AS} {lv : List (Nat × Value)} {st av vr : List Value} {w : List AE} {Ls : List AS} (hcal : CalOK E J d cal) (hX : ∀ b, ∀ c ∈ X.1 b, Sat E J d b c) (hJS : JS E J m0) (hSB : SB m0 m) (hS : gS E th ρ σ lv st w) (hw : wok E w) (hJ : J w) (hth : E.1 th = tt) (htt : tt ≠ 0) (hav : gvs E th ρ q.2.2.1 av) (hr : gvs E th ρ q.2.2.2 vr)
    (h : dcA E X cal tt m0 m σ q = some Ls) : MEx d q.1 av w (PostL E J th m ρ lv vr w Ls) := by
  unfold dcA at h
  split at h
  · exact inlC_ok hcal hJS hSB hS hw hJ hth htt hav hr h
  · obtain ⟨c, c1, c2⟩ := tryC_ok h
    exact callC_ok (hX q.1 c c1) hS hw hJ hth htt hav hr c2
theorem exB_sound (hcal : CalOK E J d cal) (hX : ∀ b, ∀ c ∈ X.1 b, Sat E J d b c) (hJS : JS E J m0) (hSB : SB m0 m) (hth : E.1 th = tt) (htt : tt ≠ 0) :
    ∀ (n : Nat) (first : Bool) (pc : Nat) (σ : AS) (ρ : List Int) (lv : List (Nat × Value)) (st : List Value) (w : List AE) (ex : List EXT), exB E X cal tt m0 m M stp n first pc σ = some ex → gS E th ρ σ lv st w → wok E w → J w →
      (∀ p : RET, (.inl p : EXT) ∈ ex → ∀ (t : List Int) (r : Option Value) (w' : List AE), gvo E th (ρ ++ t) p.1 r → gcs (ρ ++ t) p.2.1 p.2.2.1 → gfs E th (ρ ++ t) p.2.2.2.2.2.1 w' → ges E th (ρ ++ t) p.2.2.2.2.2.2 w' → wok E w' → J w' → agr E (mdF m) w w' → P r w') →
      (∀ p : Nat × AS, (.inr p : EXT) ∈ ex → stp p.1 p.2 = true → ∀ (t : List Int) (lv' : List (Nat × Value)) (st' : List Value) (w' : List AE), gS E th (ρ ++ t) p.2 lv' st' w' → wok E w' → J w' → agr E (mdF m) w w' → Ex d M p.1 lv' st' w' P) →
      Ex d M pc lv st w P := by
  intro n
  induction n with
  | zero => intro first pc σ ρ lv st w ex h; cases h
  | succ n ih =>
    intro first pc σ ρ lv st w ex h hS hw hJ hret hjmp
    have h : (bif !first && stp pc σ then some [.inr (pc, σ)] else (match md_i M pc with
      | none => none
      | some x => match rtA M x σ with
        | some r => some [.inl (r, σ)]
        | none => match clA E tt x σ.2.2.2.1 with
          | some q => (match dcA E X cal tt m0 m σ q with
            | none => none
            | some Ls => joinM (fun s => exB E X cal tt m0 m M stp n false (pc + 3) s) Ls)
          | none => (match astep E tt (mdF m0) M x pc σ with
            | none => none
            | some L => joinM (fun p => exB E X cal tt m0 m M stp n false p.1 p.2) L))) = some ex := h
    cases hst : (!first && stp pc σ) with
    | true =>
      rw [hst] at h
      cases h
      simp only [Bool.and_eq_true] at hst
      exact hjmp (pc, σ) (List.mem_singleton.mpr rfl) hst.2 [] lv st w (by rw [List.append_nil]; exact hS) hw hJ (agr.rf w)
    | false =>
      rw [hst] at h
      simp only [cond_false] at h
      cases hi : md_i M pc with
      | none => rw [hi] at h; cases h
      | some x =>
        rw [hi] at h
        simp only at h
        cases hrt : rtA M x σ with
        | some r =>
          rw [hrt] at h
          cases h
          obtain ⟨k1, r', k2, k3⟩ := rt_ok (pc := pc) hS hrt
          exact ex_ret hi k1 k2 (hret (r, σ) (List.mem_singleton.mpr rfl) [] r' w (by rw [List.append_nil]; exact k3) (by rw [List.append_nil]; exact hS.1) (by rw [List.append_nil]; exact hS.2.2.2.1) (by rw [List.append_nil]; exact hS.2.2.2.2) hw hJ (agr.rf w))
        | none =>
          rw [hrt] at h
          simp only at h
          have hgo : ∀ (t : List Int) (pc' : Nat) (σ' : AS) (lv' : List (Nat × Value)) (st' : List Value) (w' : List AE) (ex' : List EXT), exB E X cal tt m0 m M stp n false pc' σ' = some ex' → (∀ e ∈ ex', e ∈ ex) → gS E th (ρ ++ t) σ' lv' st' w' → wok E w' → J w' → agr E (mdF m) w w' → Ex d M pc' lv' st' w' P := by
            intro t pc' σ' lv' st' w' ex' e1 e2 e3 e4 e5 e6
            refine ih false pc' σ' (ρ ++ t) lv' st' w' ex' e1 e3 e4 e5 (fun p hp t' r w2 a1 a2 a3 a4 a5 a6 a7 => ?_) (fun p hp hs t' lv2 st2 w2 a1 a2 a3 a4 => ?_)
            · rw [List.append_assoc] at a1 a2 a3 a4
              exact hret p (e2 _ hp) (t ++ t') r w2 a1 a2 a3 a4 a5 a6 (agr.tr e6 a7)
            · rw [List.append_assoc] at a1
              exact hjmp p (e2 _ hp) hs (t ++ t') lv2 st2 w2 a1 a2 a3 (agr.tr e6 a4)
          cases hcl : clA E tt x σ.2.2.2.1 with
          | some q =>
            rw [hcl] at h
            simp only at h
            cases hdc : dcA E X cal tt m0 m σ q with
            | none => rw [hdc] at h; cases h
            | some Ls =>
              rw [hdc] at h
              simp only at h
              obtain ⟨k1, k2, av, vr, k3, k4, k5⟩ := cl_ok2 (M := M) (pc := pc) hS hw hth htt hcl
              refine ex_call hi k1 k2 k3 (dcA_ok hcal hX hJS hSB hS hw hJ hth htt k4 k5 hdc) (fun r w' q => ?_)
              obtain ⟨q1, q2, q3, σ', s1, t, s2⟩ := q
              obtain ⟨ex', x1, x2⟩ := joinM_mem h σ' s1
              exact ⟨q3.1, hgo t (pc + 3) σ' lv (r.toList ++ vr) w' ex' x1 x2 s2 q1 q2 q3⟩
          | none =>
            rw [hcl] at h
            simp only at h
            cases has : astep E tt (mdF m0) M x pc σ with
            | none => rw [has] at h; cases h
            | some L =>
              rw [has] at h
              simp only at h
              obtain ⟨p, p1, t, lv', st', w', o1, o2, o3, o4⟩ := ast_sound (M := M) hS hw hth htt has
              obtain ⟨ex', x1, x2⟩ := joinM_mem h p p1
              exact ex_step hi o1 (hgo t p.1 p.2 lv' st' w' ex' x1 x2 o2 o3 (hJS w w' o4 hJ) (agr.le hSB o4))
theorem exM_ok (hX : ∀ b, ∀ c ∈ X.1 b, Sat E J d b c) (fu : Nat) : ∀ k : Nat, CalOK E J (d + k) (exM E X fu k) := by
  intro k
  induction k with
  | zero => intro b tt m0 m cs n args fx rets h; cases h
  | succ k ih =>
    intro b tt m0 m cs n args fx rets h hJS hSB th ρ av w hth htt hw hJ hc hav hf he
    have h : (bif Nat.ble (catA args) (md_n (mdOf b)) then (match exB E X (exM E X fu k) tt m0 m (mdOf b) (fun _ _ => false) fu true 0 (cs, n, aargs 0 args, [], fx) with
      | some ex => allR ex
      | none => none) else none) = some rets := h
    cases hb : Nat.ble (catA args) (md_n (mdOf b)) with
    | false => rw [hb] at h; cases h
    | true =>
      rw [hb] at h
      simp only [cond_true] at h
      split at h
      · rename_i ex hex
        obtain ⟨r1, r2⟩ := allR_in h
        refine mex_of (by rw [sl_cat, cat_ok hav]; exact Nat.le_of_ble_eq_true hb) ?_
        refine exB_sound ih (fun b c hc' => fun th av w a1 a2 a3 a4 a5 a6 a7 => mex_up (Nat.le_add_right d k) (hX b c hc' th av w a1 a2 a3 a4 a5 a6 a7)) hJS hSB hth htt fu true 0 _ ρ (lv_args 0 av) [] w ex hex ⟨hc, glv_args 0 hav, trivial, hf, he⟩ hw hJ (fun p hp t r w' a1 a2 a3 a4 a5 a6 a7 => ?_) (fun p hp => absurd hp (r2 p))
        exact ⟨a5, a6, a7, p, r1 p hp, t, a1, a2, a3, a4⟩
      · cases h
end RU2
end
section
/-! the checker: loops -/
/-- a state at a loop's head; where each symbol stands (a local; 100 + a field); the rank: a number and coefficients of symbols -/
abbrev ANN : Type := AS × List Nat × Int × List (Nat × Int)
def atL (σ : AS) (l : Nat) : Option AV := bif Nat.blt l 100 then alg σ.2.2.1 l else bif Nat.blt l 1000 then alg σ.2.2.2.2.1 (l - 100) else esg σ.2.2.2.2.2 ((l - 1000) / 5000, vI (((l - 1000) % 5000 : Nat) : Int) (((l - 1000) % 5000 : Nat) : Int))
def eqV (cs : List (Nat × CE)) (b b0 : AV) (d : Int) : Bool := match b, b0 with
  | .inr (.inl p), .inr (.inl q) => Nat.beq p.1 q.1 && decide (p.2 = q.2 + d)
  | _, _ => (match ivS cs b, ivS cs b0 with
    | some p, some q => decide (p.1 = p.2) && decide (q.1 = q.2) && decide (p.1 = q.1 + d)
    | _, _ => false)
def okV (tt : Nat) (σ : AS) (rp : List Nat) (o : Option AV) (a : AV) : Bool := match o with
  | none => false
  | some b => (match a with
    | .inl p => (match ivS σ.1 b with
      | some q => decide (p.1 ≤ q.1) && decide (q.2 ≤ p.2)
      | none => false)
    | .inr (.inl (k, d)) => (match rp[k]? with
      | some l => (match atL σ l with
        | some b0 => (ivS σ.1 b0).isSome && eqV σ.1 b b0 d
        | none => false)
      | none => false)
    | .inr (.inr (.inr (.inl p))) => (match b with
      | .inr (.inr (.inr (.inl q))) => decide (p.1 ≤ q.1) && decide (q.2 ≤ p.2)
      | _ => false)
    | .inr (.inr (.inr (.inr (.inl t)))) => (match b with
      | .inr (.inr (.inr (.inr (.inl t')))) => Nat.beq t' t
      | .inr (.inr (.inr (.inr (.inr (.inr n))))) => Nat.beq n 0 && Nat.beq tt t
      | _ => false)
    | .inr (.inr (.inr (.inr (.inr (.inl sl))))) => (match b with
      | .inr (.inr (.inr (.inr (.inr (.inl sl'))))) => Nat.beq sl' sl
      | _ => false)
    | .inr (.inr (.inr (.inr (.inr (.inr n))))) => (match b with
      | .inr (.inr (.inr (.inr (.inr (.inr n'))))) => Nat.beq n' n
      | _ => false)
    | _ => false)
def symB (σ : AS) (rp : List Nat) (q : Nat × CE) : Bool := match rp[q.1]? with
  | some l => (match atL σ l with
    | some b => (match ivS σ.1 b with
      | some p => decide (q.2.1 ≤ p.1) && decide (p.2 ≤ q.2.2.1) && !q.2.2.2.1 && q.2.2.2.2.isNone
      | none => false)
    | none => false)
  | none => false
def inclB (tt : Nat) (σ : AS) (A : AS) (rp : List Nat) : Bool :=
  σ.2.2.2.1.isEmpty && A.2.2.2.1.isEmpty && Nat.beq rp.length A.2.1 && A.1.all (symB σ rp) && A.2.2.1.all (fun q => okV tt σ rp (alg σ.2.2.1 q.1) q.2) && A.2.2.2.2.1.all (fun q => okV tt σ rp (alg σ.2.2.2.2.1 q.1) q.2) && A.2.2.2.2.2.all (fun q => cxB q.2.1 && okV tt σ rp (esg σ.2.2.2.2.2 (q.1, q.2.1)) q.2.2)
def intV : Option Value → Int
  | some (.int x) => x.toInt
  | _ => 0
def valL (E : WE) (lv : List (Nat × Value)) (w : List AE) (th l : Nat) : Int := bif Nat.blt l 100 then intV (lvget lv l) else bif Nat.blt l 1000 then intV (fa w th (l - 100)) else intV ((ea w (E.2.2 th ((l - 1000) / 5000)) ((l - 1000) % 5000)).map Value.int)
section CK1
variable {E : WE} {J : List AE → Prop} {th tt d b0 : Nat} {ρ : List Int} {w : List AE} {lv : List (Nat × Value)} {st : List Value} {σ A : AS} {rp : List Nat}
theorem esg_at {es : List (Nat × AV × AV)} {k : Nat × AV} {b : AV} (hE : ges E th ρ es w) (h : esg es k = some b) : ∃ j x, gi ρ k.2 j ∧ ea w (E.2.2 th k.1) j = some x ∧ gv E th ρ b (.int x) := by
  unfold esg at h
  cases hf : es.find? (fun q => Nat.beq q.1 k.1 && idxB q.2.1 k.2) with
  | none => rw [hf] at h; cases h
  | some q =>
    rw [hf] at h
    have h1 : q.2.2 = b := Option.some.inj h
    have h3 := List.find?_some hf
    simp only [Bool.and_eq_true] at h3
    obtain ⟨j, x, k1, k2, k3⟩ := hE q (List.mem_of_find?_eq_some hf)
    rw [idxB_eq h3.2] at k1
    rw [Nat.eq_of_beq_eq_true h3.1] at k2
    rw [h1] at k3
    exact ⟨j, x, k1, k2, k3⟩
theorem atL_ok {l : Nat} {b : AV} {p : Int × Int} (hS : gS E th ρ σ lv st w) (h : atL σ l = some b) (hp : ivS σ.1 b = some p) : ∃ x : Int32, gv E th ρ b (.int x) ∧ valL E lv w th l = x.toInt ∧ p.1 ≤ x.toInt ∧ x.toInt ≤ p.2 := by
  unfold atL at h
  unfold valL
  cases hl : Nat.blt l 100 with
  | true =>
    rw [hl] at h
    obtain ⟨v, h1, h2⟩ := hS.2.1 l b h
    obtain ⟨x, rfl, hx⟩ := ivS_ok hS.1 h2 hp
    exact ⟨x, h2, by rw [cond_true, h1]; rfl, hx⟩
  | false =>
    rw [hl] at h
    simp only [cond_false] at h ⊢
    cases hl2 : Nat.blt l 1000 with
    | true =>
      rw [hl2] at h
      obtain ⟨v, h1, h2⟩ := hS.2.2.2.1 _ (alg_mem h)
      obtain ⟨x, rfl, hx⟩ := ivS_ok hS.1 h2 hp
      exact ⟨x, h2, by rw [cond_true, h1]; rfl, hx⟩
    | false =>
      rw [hl2] at h
      simp only [cond_false] at h ⊢
      obtain ⟨j, x, k1, k2, k3⟩ := esg_at hS.2.2.2.2 h
      have e : (l - 1000) % 5000 = j := by
        have := k1.1
        omega
      obtain ⟨x', e1, hx⟩ := ivS_ok hS.1 k3 hp
      cases e1
      have k2 : ea w (E.2.2 th ((l - 1000) / 5000)) j = some x := k2
      exact ⟨x, k3, by rw [e, k2]; rfl, hx⟩
theorem eqV_ok {cs : List (Nat × CE)} {n : Nat} {b c : AV} {dd : Int} {v : Value} {y : Int32} (hc : gcs ρ cs n) (hb : gv E th ρ b v) (hq : gv E th ρ c (.int y)) (h : eqV cs b c dd = true) : ∃ x : Int32, v = .int x ∧ x.toInt = y.toInt + dd := by
  unfold eqV at h
  split at h
  · rename_i p q
    simp only [Bool.and_eq_true, decide_eq_true_eq] at h
    obtain ⟨x, z, rfl, e2, e3⟩ := hb
    obtain ⟨y', z', e4, e5, e6⟩ := hq
    cases e4
    rw [Nat.eq_of_beq_eq_true h.1, e5] at e2
    cases e2
    exact ⟨x, rfl, by omega⟩
  · split at h
    · rename_i p q hp hq'
      simp only [Bool.and_eq_true, decide_eq_true_eq] at h
      obtain ⟨x, rfl, hx⟩ := ivS_ok hc hb hp
      obtain ⟨y', e1, hy⟩ := ivS_ok hc hq hq'
      cases e1
      exact ⟨x, rfl, by omega⟩
    · cases h
theorem okV_ok {a : AV} {o : Option AV} {v : Value} (hS : gS E th ρ σ lv st w) (hth : E.1 th = tt) (htt : tt ≠ 0) (hB0 : ∀ b, o = some b → gv E th ρ b v) (h : okV tt σ rp o a = true) : gv E th (rp.map (valL E lv w th)) a v := by
  unfold okV at h
  split at h
  · cases h
  · rename_i b
    have hb := hB0 b rfl
    clear hB0
    split at h
    · rename_i p
      split at h
      · rename_i q hq
        simp only [Bool.and_eq_true, decide_eq_true_eq] at h
        obtain ⟨x, rfl, hx⟩ := ivS_ok hS.1 hb hq
        exact ⟨x, rfl, by omega, by omega⟩
      · cases h
    · rename_i k dd
      split at h
      · rename_i l hl
        split at h
        · rename_i c hc
          simp only [Bool.and_eq_true] at h
          obtain ⟨p, hp⟩ := Option.isSome_iff_exists.mp h.1
          obtain ⟨y, y1, y2, -⟩ := atL_ok hS hc hp
          obtain ⟨x, rfl, hx⟩ := eqV_ok hS.1 hb y1 h.2
          refine ⟨x, y.toInt, rfl, ?_, hx⟩
          rw [List.getElem?_map, hl, ← y2]
          rfl
        · cases h
      · cases h
    · rename_i p
      split at h
      · rename_i q
        simp only [Bool.and_eq_true, decide_eq_true_eq] at h
        obtain ⟨x, rfl, hx⟩ := hb
        exact ⟨x, rfl, by omega, by omega⟩
      · cases h
    · rename_i t
      split at h
      · rename_i t'
        have e := Nat.eq_of_beq_eq_true h
        subst e
        exact hb
      · rename_i n0
        simp only [Bool.and_eq_true] at h
        have hb : v = .ref (bif Nat.beq n0 0 then th else n0) := hb
        rw [h.1] at hb
        exact ⟨th, hb, by rw [hth]; exact Nat.eq_of_beq_eq_true h.2, by rw [← Nat.eq_of_beq_eq_true h.2]; exact htt⟩
      · cases h
    · rename_i sl
      split at h
      · rename_i sl'
        have e := Nat.eq_of_beq_eq_true h
        subst e
        exact hb
      · cases h
    · rename_i n0
      split at h
      · rename_i n'
        have e := Nat.eq_of_beq_eq_true h
        subst e
        exact hb
      · cases h
    · cases h
theorem csg_mem {cs : List (Nat × CE)} {k : Nat} {e : CE} (h : csg cs k = some e) : (k, e) ∈ cs := by
  unfold csg at h
  cases hf : cs.find? (fun q => Nat.beq q.1 k) with
  | none => rw [hf] at h; cases h
  | some q =>
    rw [hf] at h
    have h1 : q.2 = e := Option.some.inj h
    have h2 := List.mem_of_find?_eq_some hf
    have h3 : q.1 = k := Nat.eq_of_beq_eq_true (by have := List.find?_some hf; simpa using this)
    rw [← h1, ← h3]
    exact h2
theorem incl_ok (hS : gS E th ρ σ lv st w) (hth : E.1 th = tt) (htt : tt ≠ 0) (h : inclB tt σ A rp = true) : gS E th (rp.map (valL E lv w th)) A lv st w := by
  unfold inclB at h
  simp only [Bool.and_eq_true, List.isEmpty_iff] at h
  obtain ⟨⟨⟨⟨⟨⟨h1, h2⟩, h3⟩, h4⟩, h5⟩, h6⟩, h7⟩ := h
  refine ⟨⟨by rw [List.length_map]; exact Nat.eq_of_beq_eq_true h3, fun k e hk => ?_⟩, fun i a hi => ?_, ?_, fun q hq => ?_, fun q hq => ?_⟩
  · have h8 := List.all_eq_true.mp h4 _ (csg_mem hk)
    unfold symB at h8
    split at h8
    · rename_i l hl
      split at h8
      · rename_i b hb
        split at h8
        · rename_i p hp
          simp only [Bool.and_eq_true, decide_eq_true_eq, Bool.not_eq_true', Option.isNone_iff_eq_none] at h8
          obtain ⟨⟨⟨z1, z2⟩, z3⟩, z4⟩ := h8
          obtain ⟨x, x1, x2, x3⟩ := atL_ok hS hb hp
          refine ⟨x.toInt, ?_, by omega, by omega, fun q => (by rw [z3] at q; cases q), fun c q => (by rw [z4] at q; cases q)⟩
          have hl : rp[k]? = some l := hl
          rw [List.getElem?_map, hl, ← x2]
          rfl
        · cases h8
      · cases h8
    · cases h8
  · have h8 := List.all_eq_true.mp h5 _ (alg_mem hi)
    have h8 : okV tt σ rp (alg σ.2.2.1 i) a = true := h8
    cases hb : alg σ.2.2.1 i with
    | none => rw [hb] at h8; cases h8
    | some b =>
      rw [hb] at h8
      obtain ⟨v, v1, v2⟩ := hS.2.1 i b hb
      exact ⟨v, v1, okV_ok hS hth htt (fun b' e => by cases e; exact v2) h8⟩
  · rw [h2]
    have h8 := hS.2.2.1
    rw [h1] at h8
    rw [gvs_nil h8]
    trivial
  · have h8 := List.all_eq_true.mp h6 q hq
    have h8 : okV tt σ rp (alg σ.2.2.2.2.1 q.1) q.2 = true := h8
    cases hb : alg σ.2.2.2.2.1 q.1 with
    | none => rw [hb] at h8; cases h8
    | some b =>
      rw [hb] at h8
      obtain ⟨v, v1, v2⟩ := hS.2.2.2.1 _ (alg_mem hb)
      exact ⟨v, v1, okV_ok hS hth htt (fun b' e => by cases e; exact v2) h8⟩
  · have h8 := List.all_eq_true.mp h7 q hq
    simp only [Bool.and_eq_true] at h8
    cases ha : esg σ.2.2.2.2.2 (q.1, q.2.1) with
    | none => rw [ha] at h8; cases h8.2
    | some b =>
      rw [ha] at h8
      unfold esg at ha
      cases hf : σ.2.2.2.2.2.find? (fun z => Nat.beq z.1 q.1 && idxB z.2.1 q.2.1) with
      | none => rw [hf] at ha; cases ha
      | some z =>
        rw [hf] at ha
        have e1 : z.2.2 = b := Option.some.inj ha
        have h9 := List.find?_some hf
        simp only [Bool.and_eq_true] at h9
        obtain ⟨j, x, k1, k2, k3⟩ := hS.2.2.2.2 z (List.mem_of_find?_eq_some hf)
        rw [idxB_eq h9.2] at k1
        rw [Nat.eq_of_beq_eq_true h9.1] at k2
        rw [e1] at k3
        exact ⟨j, x, cx_gi h8.1 k1, k2, okV_ok hS hth htt (fun b' e => by cases e; exact k3) h8.2⟩
end CK1
/-! ranks -/
def sumT (ρ : List Int) : List (Nat × Int) → Int
  | [] => 0
  | q :: T => q.2 * ρ.getD q.1 0 + sumT ρ T
def coefT (k : Nat) : List (Nat × Int) → Int
  | [] => 0
  | q :: T => (bif Nat.beq q.1 k then q.2 else 0) + coefT k T
theorem sumT_split (ρ : List Int) (k : Nat) : ∀ T : List (Nat × Int), sumT ρ T = coefT k T * ρ.getD k 0 + sumT ρ (T.filter (fun q => !(Nat.beq q.1 k)))
  | [] => by simp [sumT, coefT]
  | q :: T => by
    have ih := sumT_split ρ k T
    show q.2 * ρ.getD q.1 0 + sumT ρ T = ((bif Nat.beq q.1 k then q.2 else 0) + coefT k T) * ρ.getD k 0 + sumT ρ ((q :: T).filter _)
    rw [List.filter_cons]
    cases hb : Nat.beq q.1 k with
    | true =>
      rw [Nat.eq_of_beq_eq_true hb]
      simp only [Bool.not_true, Bool.false_eq_true, if_false, cond_true]
      rw [ih, Int.add_mul, Int.add_assoc]
    | false =>
      simp only [Bool.not_false, if_true, cond_false, Int.zero_add]
      show _ = _ + (q.2 * ρ.getD q.1 0 + sumT ρ _)
      rw [ih]
      omega
theorem mul_mx {c z lo hi : Int} (h1 : lo ≤ z) (h2 : z ≤ hi) : c * z ≤ mxI (c * lo) (c * hi) := by
  by_cases hc : 0 ≤ c
  · exact Int.le_trans (Int.mul_le_mul_of_nonneg_left h2 hc) (le_mx2 _ _)
  · exact Int.le_trans (Int.mul_le_mul_of_nonpos_left (by omega) h1) (le_mx1 _ _)
theorem mn_mul {c z lo hi : Int} (h1 : lo ≤ z) (h2 : z ≤ hi) : mnI (c * lo) (c * hi) ≤ c * z := by
  by_cases hc : 0 ≤ c
  · exact Int.le_trans (mn_le1 _ _) (Int.mul_le_mul_of_nonneg_left h1 hc)
  · exact Int.le_trans (mn_le2 _ _) (Int.mul_le_mul_of_nonpos_left (by omega) h2)
noncomputable def ubT (cs : List (Nat × CE)) (fu : Nat) : List (Nat × Int) → Option Int :=
  Nat.rec (fun _ => none) (fun _ ih T => match T with
    | [] => some 0
    | q :: T => (match csg cs q.1 with
      | none => none
      | some e => (match e.2.2.2, decide (q.2 + coefT q.1 T < 0) with
        | some (b1, dd, some b2), _ => (match ih ((b1, q.2 + coefT q.1 T) :: (b2, q.2 + coefT q.1 T) :: T.filter (fun z => !(Nat.beq z.1 q.1))) with
          | some u => some (u + (q.2 + coefT q.1 T) * dd)
          | none => none)
        | some (b1, dd, none), true => (match ih ((b1, q.2 + coefT q.1 T) :: T.filter (fun z => !(Nat.beq z.1 q.1))) with
          | some u => some (u + (q.2 + coefT q.1 T) * dd)
          | none => none)
        | _, _ => (match ih (T.filter (fun z => !(Nat.beq z.1 q.1))) with
          | some u => some (u + mxI ((q.2 + coefT q.1 T) * e.1) ((q.2 + coefT q.1 T) * e.2.1))
          | none => none)))) fu
theorem getD_at {ρ : List Int} {k : Nat} {z : Int} (h : ρ[k]? = some z) : ρ.getD k 0 = z := by
  rw [List.getD_eq_getElem?_getD, h]
  rfl
theorem ubT_ok {ρ : List Int} {cs : List (Nat × CE)} {n : Nat} (hc : gcs ρ cs n) : ∀ (fu : Nat) (T : List (Nat × Int)) (u : Int), ubT cs fu T = some u → sumT ρ T ≤ u
  | 0, _, _, h => by cases h
  | fu + 1, [], u, h => by
    cases h
    exact Int.le_refl _
  | fu + 1, q :: T, u, h => by
    have h : (match csg cs q.1 with
      | none => none
      | some e => (match e.2.2.2, decide (q.2 + coefT q.1 T < 0) with
        | some (b1, dd, some b2), _ => (match ubT cs fu ((b1, q.2 + coefT q.1 T) :: (b2, q.2 + coefT q.1 T) :: T.filter (fun z => !(Nat.beq z.1 q.1))) with
          | some u => some (u + (q.2 + coefT q.1 T) * dd)
          | none => none)
        | some (b1, dd, none), true => (match ubT cs fu ((b1, q.2 + coefT q.1 T) :: T.filter (fun z => !(Nat.beq z.1 q.1))) with
          | some u => some (u + (q.2 + coefT q.1 T) * dd)
          | none => none)
        | _, _ => (match ubT cs fu (T.filter (fun z => !(Nat.beq z.1 q.1))) with
          | some u => some (u + mxI ((q.2 + coefT q.1 T) * e.1) ((q.2 + coefT q.1 T) * e.2.1))
          | none => none))) = some u := h
    have hsum : sumT ρ (q :: T) = (q.2 + coefT q.1 T) * ρ.getD q.1 0 + sumT ρ (T.filter (fun z => !(Nat.beq z.1 q.1))) := by
      show q.2 * ρ.getD q.1 0 + sumT ρ T = _
      rw [sumT_split ρ q.1 T, Int.add_mul, Int.add_assoc]
    split at h
    · cases h
    · rename_i e he
      obtain ⟨z, z1, z2, z3, z4, z5⟩ := hc.2 _ _ he
      have hz := getD_at z1
      rw [hsum, hz]
      split at h
      · rename_i _ b1 dd b2 hb
        split at h
        · rename_i u' hu
          cases h
          have ih := ubT_ok hc fu _ _ hu
          obtain ⟨y1, y2, w1, w2, w3⟩ := z5 _ hb
          have w1 : ρ[b1]? = some y1 := w1
          have w3 : z = y1 + y2 + dd := w3
          have ih : (q.2 + coefT q.1 T) * ρ.getD b1 0 + ((q.2 + coefT q.1 T) * ρ.getD b2 0 + sumT ρ (T.filter (fun z => !(Nat.beq z.1 q.1)))) ≤ u' := ih
          rw [getD_at w1, getD_at w2] at ih
          rw [w3, Int.mul_add, Int.mul_add]
          omega
        · cases h
      · rename_i b1 dd hb hneg
        have hneg := of_decide_eq_true hneg
        split at h
        · rename_i u' hu
          cases h
          have ih := ubT_ok hc fu _ _ hu
          obtain ⟨z', y1, y2⟩ := z5 _ hb
          have y1 : ρ[b1]? = some z' := y1
          have y2 : z' + dd ≤ z := y2
          have ih : (q.2 + coefT q.1 T) * ρ.getD b1 0 + sumT ρ (T.filter (fun z => !(Nat.beq z.1 q.1))) ≤ u' := ih
          rw [getD_at y1] at ih
          have h9 := Int.mul_le_mul_of_nonpos_left (a := q.2 + coefT q.1 T) (by omega) y2
          rw [Int.mul_add] at h9
          omega
        · cases h
      · split at h
        · rename_i u' hu
          cases h
          have ih := ubT_ok hc fu _ _ hu
          have h9 := mul_mx (c := q.2 + coefT q.1 T) z2 z3
          omega
        · cases h
def lnT (σ : AS) (rp : List Nat) : List (Nat × Int) → Option (Int × List (Nat × Int))
  | [] => some (0, [])
  | q :: R => (match rp[q.1]? with
    | some l => (match atL σ l, lnT σ rp R with
      | some b, some s => (match ivS σ.1 b with
        | some p => (match b with
          | .inr (.inl (k, d)) => some (s.1 + q.2 * d, (k, q.2) :: s.2)
          | _ => some (s.1 + mxI (q.2 * p.1) (q.2 * p.2), s.2))
        | none => none)
      | _, _ => none)
    | none => none)
theorem lnT_ok {E : WE} {th : Nat} {ρ : List Int} {w : List AE} {lv : List (Nat × Value)} {st : List Value} {σ : AS} {rp : List Nat} (hS : gS E th ρ σ lv st w) : ∀ (R : List (Nat × Int)) (s : Int × List (Nat × Int)), lnT σ rp R = some s → sumT (rp.map (valL E lv w th)) R ≤ s.1 + sumT ρ s.2
  | [], s, h => by
    cases h
    exact Int.le_refl _
  | q :: R, s, h => by
    have h : (match rp[q.1]? with
      | some l => (match atL σ l, lnT σ rp R with
        | some b, some s => (match ivS σ.1 b with
          | some p => (match b with
            | .inr (.inl (k, d)) => some (s.1 + q.2 * d, (k, q.2) :: s.2)
            | _ => some (s.1 + mxI (q.2 * p.1) (q.2 * p.2), s.2))
          | none => none)
        | _, _ => none)
      | none => none) = some s := h
    show q.2 * (rp.map (valL E lv w th)).getD q.1 0 + sumT (rp.map (valL E lv w th)) R ≤ _
    split at h
    · rename_i l hl
      have hv : (rp.map (valL E lv w th)).getD q.1 0 = valL E lv w th l := getD_at (by rw [List.getElem?_map, hl]; rfl)
      rw [hv]
      split at h
      · rename_i b s' hb hs
        have ih := lnT_ok hS R s' hs
        split at h
        · rename_i p hp
          obtain ⟨x, x1, x2, x3⟩ := atL_ok hS hb hp
          rw [x2]
          split at h
          · rename_i k dd
            cases h
            obtain ⟨x', z, e1, e2, e3⟩ := x1
            cases e1
            show _ ≤ s'.1 + q.2 * dd + (q.2 * ρ.getD k 0 + sumT ρ s'.2)
            rw [getD_at e2, e3, Int.mul_add]
            omega
          · cases h
            have h9 := mul_mx (c := q.2) x3.1 x3.2
            show _ ≤ s'.1 + mxI (q.2 * p.1) (q.2 * p.2) + sumT ρ s'.2
            omega
        · cases h
      · cases h
    · cases h
def lbT (cs : List (Nat × CE)) : List (Nat × Int) → Option Int
  | [] => some 0
  | q :: R => (match csg cs q.1, lbT cs R with
    | some e, some s => some (mnI (q.2 * e.1) (q.2 * e.2.1) + s)
    | _, _ => none)
theorem lbT_ok {ρ : List Int} {cs : List (Nat × CE)} {n : Nat} (hc : gcs ρ cs n) : ∀ (R : List (Nat × Int)) (s : Int), lbT cs R = some s → s ≤ sumT ρ R
  | [], s, h => by
    cases h
    exact Int.le_refl _
  | q :: R, s, h => by
    have h : (match csg cs q.1, lbT cs R with
      | some e, some s => some (mnI (q.2 * e.1) (q.2 * e.2.1) + s)
      | _, _ => none) = some s := h
    split at h
    · rename_i e s' he hs
      cases h
      have ih := lbT_ok hc R s' hs
      obtain ⟨z, z1, z2, z3, -⟩ := hc.2 _ _ he
      show _ ≤ q.2 * ρ.getD q.1 0 + sumT ρ R
      rw [getD_at z1]
      have := mn_mul (c := q.2) z2 z3
      omega
    · cases h
def negT (R : List (Nat × Int)) : List (Nat × Int) := R.map (fun q => (q.1, -q.2))
theorem sumT_neg (ρ : List Int) : ∀ R : List (Nat × Int), sumT ρ (negT R) = - sumT ρ R
  | [] => rfl
  | q :: R => by
    have ih := sumT_neg ρ R
    show -q.2 * ρ.getD q.1 0 + sumT ρ (negT R) = -(q.2 * ρ.getD q.1 0 + sumT ρ R)
    rw [ih, Int.neg_mul]
    omega
theorem sumT_app (ρ : List Int) : ∀ R S : List (Nat × Int), sumT ρ (R ++ S) = sumT ρ R + sumT ρ S
  | [], S => by simp [sumT]
  | q :: R, S => by
    have ih := sumT_app ρ R S
    show q.2 * ρ.getD q.1 0 + sumT ρ (R ++ S) = q.2 * ρ.getD q.1 0 + sumT ρ R + sumT ρ S
    rw [ih]
    omega
theorem sumT_ap (ρ t : List Int) : ∀ R : List (Nat × Int), (∀ q ∈ R, q.1 < ρ.length) → sumT (ρ ++ t) R = sumT ρ R
  | [], _ => rfl
  | q :: R, h => by
    have ih := sumT_ap ρ t R (fun z hz => h z (List.mem_cons_of_mem _ hz))
    show q.2 * (ρ ++ t).getD q.1 0 + sumT (ρ ++ t) R = q.2 * ρ.getD q.1 0 + sumT ρ R
    have hq := h q List.mem_cons_self
    rw [ih, List.getD_eq_getElem?_getD, List.getD_eq_getElem?_getD, List.getElem?_append_left hq]
/-- from the head A to the head B, at the state σ: the rank falls -/
noncomputable def decB (σ : AS) (A B : ANN) : Bool := match lnT σ B.2.1 B.2.2.2 with
  | some s => (match ubT σ.1 100 (s.2 ++ negT A.2.2.2) with
    | some u => decide (B.2.2.1 + s.1 + u - A.2.2.1 < 0)
    | none => false)
  | none => false
def rkV (ρ : List Int) (A : ANN) : Int := A.2.2.1 + sumT ρ A.2.2.2
def lowB (A : ANN) : Bool := (match lbT A.1.1 A.2.2.2 with
  | some s => decide (0 ≤ A.2.2.1 + s)
  | none => false) && A.2.2.2.all (fun q => Nat.blt q.1 A.1.2.1)
def annF (as : List (Nat × ANN)) (pc : Nat) : Option ANN := (as.find? (fun q => Nat.beq q.1 pc)).map (fun q => q.2)
def stpB (tt : Nat) (as : List (Nat × ANN)) (pc : Nat) (σ : AS) : Bool := match annF as pc with
  | some A => inclB tt σ A.1 A.2.1
  | none => false
def resB (E : WE) (tt : Nat) (cs : List (Nat × CE)) : Option AV → Option AV → Bool
  | none, none => true
  | some a, some d => amB E tt cs a d
  | _, _ => false
def postB (E : WE) (c : Ctr) (p : RET) : Bool := c.2.2.2.2.any (fun o => resB E c.1 p.2.1 p.1 o.1 && fxB p.2 o.2)
def entS (c : Ctr) : AS := ((namL [] 0 c.2.1).1, (namL [] 0 c.2.1).2.1, aargs 0 (namL [] 0 c.2.1).2.2, [], c.2.2.1)
noncomputable def runB (E : WE) (X : XE) (fu k b0 : Nat) (c : Ctr) (m0 : MDs) (as : List (Nat × ANN)) (first : Bool) (pc : Nat) (σ : AS) : Option (List EXT) := exB E X (exM E X fu k) c.1 m0 c.2.2.2.1 (mdOf b0) (stpB c.1 as) fu first pc σ
noncomputable def ex0B (E : WE) (c : Ctr) (o : Option (List EXT)) : Bool := match o with
  | some ex => ex.all (fun e => match e with
    | .inl p => postB E c p
    | .inr _ => true)
  | none => false
noncomputable def ex1B (E : WE) (c : Ctr) (as : List (Nat × ANN)) (A : ANN) (o : Option (List EXT)) : Bool := match o with
  | some ex => ex.all (fun e => match e with
    | .inl p => postB E c p
    | .inr p => (match annF as p.1 with
      | some B => decB p.2 A B
      | none => false))
  | none => false
noncomputable def chk (E : WE) (X : XE) (fu k b0 : Nat) (c : Ctr) (m0 : MDs) (as : List (Nat × ANN)) : Bool :=
  subM m0 c.2.2.2.1 && Nat.ble (catA (namL [] 0 c.2.1).2.2) (md_n (mdOf b0)) && ex0B E c (runB E X fu k b0 c m0 as false 0 (entS c)) && as.all (fun q => lowB q.2 && ex1B E c as q.2 (runB E X fu k b0 c m0 as true q.1 q.2.1))
section CK2
variable {E : WE} {J : List AE → Prop} {X : XE} {th d b0 fu k : Nat} {c : Ctr} {m0 : MDs} {as : List (Nat × ANN)}
theorem annF_mem {pc : Nat} {A : ANN} (h : annF as pc = some A) : (pc, A) ∈ as := by
  unfold annF at h
  cases hf : as.find? (fun q => Nat.beq q.1 pc) with
  | none => rw [hf] at h; cases h
  | some q =>
    rw [hf] at h
    have h1 : q.2 = A := Option.some.inj h
    have h2 := List.mem_of_find?_eq_some hf
    have h3 : q.1 = pc := Nat.eq_of_beq_eq_true (by have := List.find?_some hf; simpa using this)
    rw [← h1, ← h3]
    exact h2
theorem post_ok {p : RET} {ρ : List Int} {r : Option Value} {w w' : List AE} (hth : E.1 th = c.1) (htt : c.1 ≠ 0) (h1 : gvo E th ρ p.1 r) (h2 : gcs ρ p.2.1 p.2.2.1) (h3 : gfs E th ρ p.2.2.2.2.2.1 w') (h4 : ges E th ρ p.2.2.2.2.2.2 w') (h5 : wok E w') (h6 : J w') (h7 : agr E (mdF c.2.2.2.1) w w') (h : postB E c p = true) : CPost E J th w c r w' := by
  unfold postB at h
  obtain ⟨o, o1, o2⟩ := List.any_eq_true.mp h
  simp only [Bool.and_eq_true] at o2
  have hS : gS E th ρ (p.2.1, p.2.2.1, [], [], p.2.2.2.2.2) [] [] w' := ⟨h2, fun i a hi => (by cases hi), trivial, h3, h4⟩
  obtain ⟨f1, f2⟩ := fx_ok hS o2.2
  refine ⟨h5, h6, h7, o, o1, ?_, f1, f2⟩
  match hp : p.1, ho : o.1, r, h1 with
  | none, none, none, _ => trivial
  | some a, some dd, some v, h1 =>
    have h8 := o2.1
    rw [hp, ho] at h8
    exact am_ok h2 h5 hth htt h1 h8
  | none, some dd, none, _ =>
    have h8 := o2.1
    rw [hp, ho] at h8
    cases h8
  | some a, none, some v, _ =>
    have h8 := o2.1
    rw [hp, ho] at h8
    cases h8
theorem chk_ok (hX : ∀ b, ∀ c ∈ X.1 b, Sat E J d b c) (hJS : JS E J m0) (h : chk E X fu k b0 c m0 as = true) : Sat E J (d + k + 1) b0 c := by
  unfold chk at h
  simp only [Bool.and_eq_true] at h
  obtain ⟨⟨⟨h1, h2⟩, h3⟩, h4⟩ := h
  have hSB : SB m0 c.2.2.2.1 := subM_ok h1
  have hX' : ∀ b, ∀ c ∈ X.1 b, Sat E J (d + k) b c := fun b c hc th av w a1 a2 a3 a4 a5 a6 a7 => mex_up (Nat.le_add_right d k) (hX b c hc th av w a1 a2 a3 a4 a5 a6 a7)
  intro th av w hth htt hw hJ hav hf he
  have hnn : ∀ (pc : Nat) (A : ANN), (pc, A) ∈ as → ∀ ρ : List Int, gcs ρ A.1.1 A.1.2.1 → 0 ≤ rkV ρ A := by
    intro pc A hA ρ hc
    have h5 := List.all_eq_true.mp h4 _ hA
    simp only [Bool.and_eq_true] at h5
    obtain ⟨hlow, -⟩ := h5
    unfold lowB at hlow
    simp only [Bool.and_eq_true] at hlow
    obtain ⟨hl1, -⟩ := hlow
    split at hl1
    · rename_i s hs
      have := lbT_ok hc _ _ hs
      have := of_decide_eq_true hl1
      unfold rkV
      omega
    · cases hl1
  have hloop : ∀ (N : Nat) (pc : Nat) (A : ANN), (pc, A) ∈ as → ∀ (ρ : List Int) (lv : List (Nat × Value)) (st : List Value) (w1 : List AE), gS E th ρ A.1 lv st w1 → wok E w1 → J w1 → agr E (mdF c.2.2.2.1) w w1 → (rkV ρ A).toNat < N → Ex (d + k) (mdOf b0) pc lv st w1 (CPost E J th w c) := by
    intro N
    induction N with
    | zero => intro pc A _ ρ lv st w1 _ _ _ _ hN; omega
    | succ N ih =>
      intro pc A hA ρ lv st w1 hS hw1 hJ1 hag hN
      have h5 := List.all_eq_true.mp h4 _ hA
      simp only [Bool.and_eq_true] at h5
      obtain ⟨hlow, h6⟩ := h5
      unfold lowB at hlow
      simp only [Bool.and_eq_true] at hlow
      obtain ⟨hl1, hl2⟩ := hlow
      have hpos : 0 ≤ rkV ρ A := hnn pc A hA ρ hS.1
      have hlen : ∀ q ∈ A.2.2.2, q.1 < ρ.length := fun q hq => by
        rw [hS.1.1]
        exact blt_lt (List.all_eq_true.mp hl2 q hq)
      unfold ex1B at h6
      split at h6
      · rename_i ex hex
        refine exB_sound (exM_ok hX fu k) hX' hJS hSB hth htt fu true pc A.1 ρ lv st w1 ex hex hS hw1 hJ1 (fun p hp t r w' a1 a2 a3 a4 a5 a6 a7 => ?_) (fun p hp hs t lv' st' w' a1 a2 a3 a4 => ?_)
        · exact post_ok hth htt a1 a2 a3 a4 a5 a6 (agr.tr hag a7) (List.all_eq_true.mp h6 _ hp)
        · have h7 := List.all_eq_true.mp h6 _ hp
          have h7 : (match annF as p.1 with
            | some B => decB p.2 A B
            | none => false) = true := h7
          unfold stpB at hs
          split at h7
          · rename_i B hB
            rw [hB] at hs
            have hincl := incl_ok a1 hth htt hs
            have hposB := hnn p.1 B (annF_mem hB) _ hincl.1
            refine ih p.1 B (annF_mem hB) _ lv' st' w' hincl a2 a3 (agr.tr hag a4) ?_
            unfold decB at h7
            split at h7
            · rename_i s hs'
              split at h7
              · rename_i u hu
                have h8 := of_decide_eq_true h7
                have h9 := ubT_ok a1.1 _ _ _ hu
                have h10 := lnT_ok a1 _ _ hs'
                rw [sumT_app, sumT_neg, sumT_ap ρ t _ hlen] at h9
                unfold rkV at hN hpos hposB ⊢
                show (B.2.2.1 + sumT (B.2.1.map (valL E lv' w' th)) B.2.2.2).toNat < N
                omega
              · cases h7
            · cases h7
          · cases h7
      · cases h6
  obtain ⟨t0, n1, n2⟩ := namL_ok (ρ := []) (cs := []) (n := 0) (E := E) (th := th) ⟨rfl, fun kk e hk => by cases hk⟩ hav
  rw [List.nil_append] at n1 n2
  refine mex_of (by rw [sl_cat, cat_ok n2]; exact Nat.le_of_ble_eq_true h2) ?_
  have hS0 : gS E th t0 (entS c) (lv_args 0 av) [] w := ⟨n1, glv_args 0 n2, trivial, fun q hq => by
      have := gfs_ap t0 hf q hq
      rw [List.nil_append] at this
      exact this, fun q hq => by
      have := ges_ap t0 he q hq
      rw [List.nil_append] at this
      exact this⟩
  unfold ex0B at h3
  split at h3
  · rename_i ex hex
    refine exB_sound (exM_ok hX fu k) hX' hJS hSB hth htt fu false 0 (entS c) t0 (lv_args 0 av) [] w ex hex hS0 hw hJ (fun p hp t r w' a1 a2 a3 a4 a5 a6 a7 => ?_) (fun p hp hs t lv' st' w' a1 a2 a3 a4 => ?_)
    · exact post_ok hth htt a1 a2 a3 a4 a5 a6 a7 (List.all_eq_true.mp h3 _ hp)
    · unfold stpB at hs
      split at hs
      · rename_i B hB
        exact hloop _ p.1 B (annF_mem hB) _ lv' st' w' (incl_ok a1 hth htt hs) a2 a3 a4 (Nat.lt_succ_self _)
      · cases hs
  · cases h3
end CK2
end
section
/-! contracts put together -/
def mkX (l : List (Nat × List Ctr)) (mi : List (Nat × MDs)) : XE := (fun b => match l.find? (fun q => Nat.beq q.1 b) with
  | some q => q.2
  | none => [], fun b => match mi.find? (fun q => Nat.beq q.1 b) with
  | some q => q.2
  | none => [])
def ASat (E : WE) (J : List AE → Prop) (d : Nat) : List (Nat × List Ctr) → Prop
  | [] => True
  | q :: l => (∀ c ∈ q.2, Sat E J d q.1 c) ∧ ASat E J d l
section SA
variable {E : WE} {J : List AE → Prop} {d d' b0 : Nat}
theorem sat_up {c : Ctr} (hd : d ≤ d') (h : Sat E J d b0 c) : Sat E J d' b0 c := fun th av w a1 a2 a3 a4 a5 a6 a7 => mex_up hd (h th av w a1 a2 a3 a4 a5 a6 a7)
theorem sat1 {c : Ctr} (h : Sat E J d b0 c) : ∀ c' ∈ [c], Sat E J d b0 c' := fun c' hc => by
  rw [List.mem_singleton.mp hc]
  exact h
theorem sat2 {c1 c2 : Ctr} (h1 : Sat E J d b0 c1) (h2 : Sat E J d b0 c2) : ∀ c' ∈ [c1, c2], Sat E J d b0 c' := fun c' hc => by
  rcases List.mem_cons.mp hc with e | hc
  · rw [e]
    exact h1
  · rw [List.mem_singleton.mp hc]
    exact h2
theorem asat_in : ∀ {l : List (Nat × List Ctr)}, ASat E J d l → ∀ q ∈ l, ∀ c ∈ q.2, Sat E J d q.1 c
  | [], _, q, hq => by cases hq
  | q0 :: l, h, q, hq => by
    rcases List.mem_cons.mp hq with e | hq
    · rw [e]
      exact h.1
    · exact asat_in h.2 q hq
theorem mkX_ok {l : List (Nat × List Ctr)} {mi : List (Nat × MDs)} (h : ASat E J d l) : ∀ b, ∀ c ∈ (mkX l mi).1 b, Sat E J d b c := fun b c hc => by
  have hc : c ∈ (match l.find? (fun q => Nat.beq q.1 b) with
    | some q => q.2
    | none => []) := hc
  cases hf : l.find? (fun q => Nat.beq q.1 b) with
  | none => rw [hf] at hc; cases hc
  | some q =>
    rw [hf] at hc
    have h3 : q.1 = b := Nat.eq_of_beq_eq_true (by have := List.find?_some hf; simpa using this)
    rw [← h3]
    exact asat_in h q (List.mem_of_find?_eq_some hf) c hc
theorem chk_ok2 {l : List (Nat × List Ctr)} {mi : List (Nat × MDs)} {fu k : Nat} {c : Ctr} {m0 : MDs} {as : List (Nat × ANN)} (hl : ASat E J d l) (hJS : JS E J m0) (h : chk E (mkX l mi) fu k b0 c m0 as = true) : Sat E J (d + k + 1) b0 c := chk_ok (mkX_ok hl) hJS h
end SA
def la (w : List AE) (c j : Nat) : Option Int64 := match w[c]? with
  | some (.inr (.inl l)) => l[j]?
  | _ => none
theorem ea_of {w w' : List AE} {c j : Nat} (h : ra w' c = ra w c) : ea w' c j = ea w c j := by
  have e : ∀ w : List AE, ea w c j = (match ra w c with
    | some (.inl (_, l)) => l[j]?
    | _ => none) := fun w => by
    unfold ea ra
    cases w[c]? with
    | none => rfl
    | some e =>
      match e with
      | .inl _ => rfl
      | .inr (.inl _) => rfl
      | .inr (.inr (.inl _)) => rfl
      | .inr (.inr (.inr _)) => rfl
  rw [e, e, h]
theorem la_of {w w' : List AE} {c j : Nat} (h : ra w' c = ra w c) : la w' c j = la w c j := by
  have e : ∀ w : List AE, la w c j = (match ra w c with
    | some (.inr (.inl l)) => l[j]?
    | _ => none) := fun w => by
    unfold la ra
    cases w[c]? with
    | none => rfl
    | some e =>
      match e with
      | .inl _ => rfl
      | .inr (.inl _) => rfl
      | .inr (.inr (.inl _)) => rfl
      | .inr (.inr (.inr _)) => rfl
  rw [e, e, h]
end
section
/-! the world of an object of the class and one of the reference: types of cells -/
def ctyL : List Nat := [1, 2, 3, 4, 5, 6, 7, 8, 9, 10, 11, 12, 13, 14, 15, 16, 17, 18, 19, 20, 21, 22, 23, 11, 12, 13, 14, 15, 16, 17, 18, 19, 20, 21, 22, 23, 24, 25, 26, 27, 28, 29, 30, 31, 32, 24, 25, 24, 25, 24, 25, 24, 25, 24, 25, 24, 25, 24, 25, 24, 25, 24, 25, 24, 25, 24, 25, 24, 25, 24, 25, 24, 25, 24, 25, 24, 25, 24, 25, 24, 25, 24, 25, 24, 25, 24, 25, 24, 25, 24, 25, 24, 25, 24, 25, 24, 25, 24, 25, 24, 25, 24, 25, 24, 25, 24, 25, 26, 27, 24, 25, 26, 27, 24, 25, 26, 27, 33, 34, 35, 36, 37, 24, 25, 38, 39, 40, 41, 42, 43, 24, 25, 24, 25, 24, 25, 24, 25, 24, 25, 24, 25, 24, 25, 44, 45, 46, 46, 47, 48, 49, 50, 51, 52, 53, 54, 55, 56, 57, 58, 59, 60, 61, 62, 63, 64, 65, 66, 67, 68, 69, 70, 71, 72, 73, 74, 75, 76, 77, 78, 79, 80, 81, 82, 83, 84, 85, 86, 87, 88, 89, 90, 91, 92, 93, 94, 95, 96, 97, 98]
def ctyC (c : Nat) : Nat := ctyL.getD c 0
def rowT (i : Nat) : Int × Int := cond (Nat.beq i 0) ((-2), 9) (cond (Nat.beq i 1) ((-2), 5) (cond (Nat.beq i 2) (0, 600) ((-2147483648), 2147483647)))
def histT (i : Nat) : Int × Int := rowT (i % 96)
def heldT (i : Nat) : Int × Int := cond (Nat.blt (i % 1296) 96) (rowT (i % 1296)) (cond (Nat.blt (i % 1296) 696) ((-2), 5) ((-2), 9))
def dclC : Nat → TD := fun t => cond (Nat.blt t 50) (cond (Nat.blt t 25) (cond (Nat.blt t 13) (cond (Nat.blt t 7) (cond (Nat.blt t 4) (cond (Nat.blt t 2) (cond (Nat.beq t 1) (.inl (11, [.inr (.inr (.inr (.inr (.inl 2)))), .inr (.inr (.inr (.inr (.inl 11)))), .inr (.inr (.inr (.inr (.inl 24)))), .inr (.inr (.inr (.inr (.inl 26)))), .inr (.inr (.inr (.inr (.inl 28)))), .inr (.inr (.inr (.inr (.inl 33)))), .inr (.inr (.inr (.inr (.inl 37)))), .inr (.inr (.inr (.inr (.inl 40)))), .inr (.inr (.inr (.inr (.inl 44))))])) (.inr (.inr (.inl 0)))) (cond (Nat.blt t 3) (cond (Nat.beq t 2) (.inl (5, [.inr (.inr (.inr (.inr (.inl 3)))), .inr (.inr (.inr (.inr (.inr (.inl 9))))), .inr (.inr (.inr (.inr (.inr (.inl 10))))), .inl (0, 16), .inr (.inr (.inr (.inr (.inl 11)))), .inl ((-2147483648), 2147483647), .inl ((-2147483648), 2147483647), .inl (0, 400), .inl ((-2147483648), 2147483647), .inl ((-2147483648), 2147483647), .inr (.inr (.inr (.inl ((-9223372036854775808), 9223372036854775807)))), .inl ((-2147483648), 2147483647)])) (.inr (.inr (.inl 0)))) (cond (Nat.beq t 3) (.inl (7, [.inr (.inr (.inr (.inr (.inr (.inl 4))))), .inl (0, 2000), .inr (.inr (.inr (.inr (.inr (.inl 5))))), .inr (.inr (.inr (.inr (.inr (.inl 6))))), .inr (.inr (.inr (.inr (.inr (.inl 7))))), .inr (.inr (.inr (.inr (.inr (.inl 8))))), .inl ((-2147483648), 2147483647), .inl ((-2147483648), 2147483647), .inr (.inr (.inr (.inl ((-9223372036854775808), 9223372036854775807))))])) (.inr (.inr (.inl 0)))))) (cond (Nat.blt t 5) (cond (Nat.beq t 4) (.inr (.inl (1, 2000, .inl ((-128), 127)))) (.inr (.inr (.inl 0)))) (cond (Nat.blt t 6) (cond (Nat.beq t 5) (.inr (.inr (.inl 18))) (.inr (.inr (.inl 0)))) (cond (Nat.beq t 6) (.inr (.inl (0, 401, .inl ((-2147483648), 2147483647)))) (.inr (.inr (.inl 0))))))) (cond (Nat.blt t 10) (cond (Nat.blt t 8) (cond (Nat.beq t 7) (.inr (.inl (0, 401, .inl ((-2147483648), 2147483647)))) (.inr (.inr (.inl 0)))) (cond (Nat.blt t 9) (cond (Nat.beq t 8) (.inr (.inr (.inl 401))) (.inr (.inr (.inl 0)))) (cond (Nat.beq t 9) (.inr (.inr (.inl 16))) (.inr (.inr (.inl 0)))))) (cond (Nat.blt t 11) (cond (Nat.beq t 10) (.inr (.inl (0, 16, .inl ((-2147483648), 2147483647)))) (.inr (.inr (.inl 0)))) (cond (Nat.blt t 12) (cond (Nat.beq t 11) (.inl (0, [.inl (0, 10), .inl ((-2147483648), 2147483647), .inl (0, 6), .inl ((-2147483648), 2147483647), .inl ((-2147483648), 2147483647), .inl ((-2147483648), 2147483647), .inr (.inr (.inr (.inr (.inr (.inl 12))))), .inr (.inr (.inr (.inr (.inr (.inl 13))))), .inr (.inr (.inr (.inr (.inr (.inl 14))))), .inr (.inr (.inr (.inr (.inr (.inl 15))))), .inr (.inr (.inr (.inr (.inr (.inl 16))))), .inr (.inr (.inr (.inr (.inr (.inl 17))))), .inr (.inr (.inr (.inr (.inr (.inl 18))))), .inr (.inr (.inr (.inr (.inr (.inl 19))))), .inr (.inr (.inr (.inr (.inl 20))))])) (.inr (.inr (.inl 0)))) (cond (Nat.beq t 12) (.inr (.inl (0, 10, .inl ((-2147483648), 2147483647)))) (.inr (.inr (.inl 0)))))))) (cond (Nat.blt t 19) (cond (Nat.blt t 16) (cond (Nat.blt t 14) (cond (Nat.beq t 13) (.inr (.inl (2, 10, .inl (0, 1)))) (.inr (.inr (.inl 0)))) (cond (Nat.blt t 15) (cond (Nat.beq t 14) (.inr (.inl (0, 10, .inl (0, 4)))) (.inr (.inr (.inl 0)))) (cond (Nat.beq t 15) (.inr (.inl (0, 40, .inl ((-2147483648), 2147483647)))) (.inr (.inr (.inl 0)))))) (cond (Nat.blt t 17) (cond (Nat.beq t 16) (.inr (.inl (0, 6, .inl ((-2147483648), 2147483647)))) (.inr (.inr (.inl 0)))) (cond (Nat.blt t 18) (cond (Nat.beq t 17) (.inr (.inl (0, 6, .inl ((-2147483648), 2147483647)))) (.inr (.inr (.inl 0)))) (cond (Nat.beq t 18) (.inr (.inl (0, 6, .inl ((-2147483648), 2147483647)))) (.inr (.inr (.inl 0))))))) (cond (Nat.blt t 22) (cond (Nat.blt t 20) (cond (Nat.beq t 19) (.inr (.inl (0, 6, .inl ((-2147483648), 2147483647)))) (.inr (.inr (.inl 0)))) (cond (Nat.blt t 21) (cond (Nat.beq t 20) (.inl (1, [.inr (.inr (.inr (.inr (.inr (.inl 21))))), .inl (0, 400), .inr (.inr (.inr (.inr (.inr (.inl 22))))), .inr (.inr (.inr (.inr (.inr (.inl 23)))))])) (.inr (.inr (.inl 0)))) (cond (Nat.beq t 21) (.inr (.inl (0, 400, .inl ((-60000), 240000)))) (.inr (.inr (.inl 0)))))) (cond (Nat.blt t 23) (cond (Nat.beq t 22) (.inr (.inl (0, 18, .inl ((-2147483648), 2147483647)))) (.inr (.inr (.inl 0)))) (cond (Nat.blt t 24) (cond (Nat.beq t 23) (.inr (.inl (0, 7, .inl ((-2147483648), 2147483647)))) (.inr (.inr (.inl 0)))) (cond (Nat.beq t 24) (.inl (6, [.inl (0, 600), .inl ((-2147483648), 2147483647), .inl ((-2147483648), 2147483647), .inl ((-2147483648), 2147483647), .inl ((-2147483648), 2147483647), .inl ((-2147483648), 2147483647), .inl ((-2147483648), 2147483647), .inl ((-2147483648), 2147483647), .inl (0, 1), .inr (.inr (.inr (.inr (.inr (.inl 25)))))])) (.inr (.inr (.inl 0))))))))) (cond (Nat.blt t 37) (cond (Nat.blt t 31) (cond (Nat.blt t 28) (cond (Nat.blt t 26) (cond (Nat.beq t 25) (.inr (.inl (0, 102, .inl ((-2147483648), 2147483647)))) (.inr (.inr (.inl 0)))) (cond (Nat.blt t 27) (cond (Nat.beq t 26) (.inl (3, [.inr (.inr (.inr (.inr (.inr (.inl 27)))))])) (.inr (.inr (.inl 0)))) (cond (Nat.beq t 27) (.inr (.inl (1, 600, .inl ((-128), 127)))) (.inr (.inr (.inl 0)))))) (cond (Nat.blt t 29) (cond (Nat.beq t 28) (.inl (4, [.inr (.inr (.inr (.inr (.inr (.inl 29))))), .inl (0, 29), .inl ((-2147483648), 2147483647), .inr (.inr (.inr (.inr (.inr (.inl 30))))), .inr (.inr (.inr (.inr (.inr (.inl 31))))), .inr (.inr (.inr (.inr (.inr (.inl 32)))))])) (.inr (.inr (.inl 0)))) (cond (Nat.blt t 30) (cond (Nat.beq t 29) (.inr (.inr (.inr (0, 30, 24)))) (.inr (.inr (.inl 0)))) (cond (Nat.beq t 30) (.inr (.inr (.inr (0, 3, 24)))) (.inr (.inr (.inl 0))))))) (cond (Nat.blt t 34) (cond (Nat.blt t 32) (cond (Nat.beq t 31) (.inr (.inr (.inr (1, 3, 26)))) (.inr (.inr (.inl 0)))) (cond (Nat.blt t 33) (cond (Nat.beq t 32) (.inr (.inl (2, 3, .inl (0, 1)))) (.inr (.inr (.inl 0)))) (cond (Nat.beq t 33) (.inl (8, [.inr (.inr (.inr (.inr (.inr (.inl 34))))), .inr (.inr (.inr (.inr (.inr (.inl 35))))), .inr (.inr (.inr (.inr (.inr (.inl 36))))), .inl (0, 20)])) (.inr (.inr (.inl 0)))))) (cond (Nat.blt t 35) (cond (Nat.beq t 34) (.inr (.inl (0, 20, .inl ((-2147483648), 2147483647)))) (.inr (.inr (.inl 0)))) (cond (Nat.blt t 36) (cond (Nat.beq t 35) (.inr (.inl (0, 20, .inl ((-2147483648), 2147483647)))) (.inr (.inr (.inl 0)))) (cond (Nat.beq t 36) (.inr (.inl (0, 20, .inl ((-2147483648), 2147483647)))) (.inr (.inr (.inl 0)))))))) (cond (Nat.blt t 43) (cond (Nat.blt t 40) (cond (Nat.blt t 38) (cond (Nat.beq t 37) (.inl (9, [.inr (.inr (.inr (.inr (.inl 24)))), .inr (.inr (.inr (.inr (.inr (.inl 38))))), .inr (.inr (.inr (.inr (.inr (.inl 39)))))])) (.inr (.inr (.inl 0)))) (cond (Nat.blt t 39) (cond (Nat.beq t 38) (.inr (.inl (0, 384, .inl ((-2147483648), 2147483647)))) (.inr (.inr (.inl 0)))) (cond (Nat.beq t 39) (.inr (.inr (.inl 301))) (.inr (.inr (.inl 0)))))) (cond (Nat.blt t 41) (cond (Nat.beq t 40) (.inl (2, [.inr (.inr (.inr (.inr (.inr (.inl 41))))), .inr (.inr (.inr (.inr (.inr (.inl 42))))), .inr (.inr (.inr (.inr (.inr (.inl 43))))), .inl ((-2147483648), 2147483647), .inl (0, 1), .inl ((-2147483648), 2147483647)])) (.inr (.inr (.inl 0)))) (cond (Nat.blt t 42) (cond (Nat.beq t 41) (.inr (.inr (.inr (0, 7, 24)))) (.inr (.inr (.inl 0)))) (cond (Nat.beq t 42) (.inr (.inl (0, 6, .inl ((-2147483648), 2147483647)))) (.inr (.inr (.inl 0))))))) (cond (Nat.blt t 46) (cond (Nat.blt t 44) (cond (Nat.beq t 43) (.inr (.inl (0, 6, .inl ((-2147483648), 2147483647)))) (.inr (.inr (.inl 0)))) (cond (Nat.blt t 45) (cond (Nat.beq t 44) (.inl (10, [.inr (.inr (.inr (.inr (.inr (.inl 45))))), .inr (.inr (.inr (.inr (.inr (.inl 46))))), .inr (.inr (.inr (.inr (.inr (.inl 46)))))])) (.inr (.inr (.inl 0)))) (cond (Nat.beq t 45) (.inr (.inl (0, 10, .inl ((-2147483648), 2147483647)))) (.inr (.inr (.inl 0)))))) (cond (Nat.blt t 48) (cond (Nat.blt t 47) (cond (Nat.beq t 46) (.inr (.inl (0, 10, .inl ((-2147483648), 2147483647)))) (.inr (.inr (.inl 0)))) (cond (Nat.beq t 47) (.inl (12, [.inl ((-2147483648), 2147483647), .inr (.inr (.inr (.inr (.inr (.inl 48))))), .inl (0, 2000), .inr (.inr (.inr (.inr (.inr (.inl 49))))), .inl (0, 2000), .inr (.inr (.inr (.inr (.inr (.inl 50))))), .inr (.inr (.inr (.inr (.inr (.inl 51))))), .inr (.inr (.inr (.inr (.inr (.inl 52))))), .inr (.inr (.inr (.inr (.inr (.inl 53))))), .inr (.inr (.inr (.inr (.inr (.inl 54))))), .inl (0, 401), .inl (0, 400), .inl (0, 7), .inl (0, 2), .inl ((-2147483648), 2147483647), .inl (0, 5), .inl ((-2147483648), 2147483647), .inl ((-2147483648), 2147483647), .inl (0, 1), .inl (0, 1), .inl (0, 16), .inr (.inr (.inr (.inr (.inr (.inl 55))))), .inr (.inr (.inr (.inr (.inr (.inl 56))))), .inr (.inr (.inr (.inr (.inr (.inl 57))))), .inr (.inr (.inr (.inr (.inr (.inl 58))))), .inr (.inr (.inr (.inr (.inr (.inl 59))))), .inr (.inr (.inr (.inr (.inr (.inl 60))))), .inr (.inr (.inr (.inr (.inr (.inl 61))))), .inr (.inr (.inr (.inr (.inr (.inl 62))))), .inr (.inr (.inr (.inr (.inr (.inl 63))))), .inr (.inr (.inr (.inr (.inr (.inl 64))))), .inr (.inr (.inr (.inr (.inr (.inl 65))))), .inr (.inr (.inr (.inr (.inr (.inl 66))))), .inr (.inr (.inr (.inr (.inr (.inl 67))))), .inr (.inr (.inr (.inr (.inr (.inl 68))))), .inr (.inr (.inr (.inr (.inr (.inl 69))))), .inr (.inr (.inr (.inr (.inr (.inl 70))))), .inr (.inr (.inr (.inr (.inr (.inl 71))))), .inl (0, 259), .inr (.inr (.inr (.inr (.inr (.inl 72))))), .inr (.inr (.inr (.inr (.inr (.inl 73))))), .inr (.inr (.inr (.inr (.inr (.inl 74))))), .inr (.inr (.inr (.inr (.inr (.inl 75))))), .inr (.inr (.inr (.inr (.inr (.inl 76))))), .inl (0, 839), .inr (.inr (.inr (.inr (.inr (.inl 77))))), .inr (.inr (.inr (.inr (.inr (.inl 78))))), .inr (.inr (.inr (.inr (.inr (.inl 79))))), .inl (0, 63), .inr (.inr (.inr (.inr (.inr (.inl 80))))), .inr (.inr (.inr (.inr (.inr (.inl 81))))), .inl (0, 1), .inr (.inr (.inr (.inr (.inr (.inl 82))))), .inr (.inr (.inr (.inr (.inr (.inl 83))))), .inr (.inr (.inr (.inr (.inr (.inl 84))))), .inr (.inr (.inr (.inr (.inr (.inl 85))))), .inl ((-2147483648), 2147483647), .inl ((-2147483648), 2147483647), .inl ((-2), 5), .inl ((-2), 9), .inl (0, 30), .inr (.inr (.inr (.inr (.inr (.inl 86))))), .inr (.inr (.inr (.inr (.inr (.inl 87))))), .inl ((-2147483648), 2147483647), .inr (.inr (.inr (.inr (.inr (.inl 88))))), .inr (.inr (.inr (.inr (.inr (.inl 89))))), .inr (.inr (.inr (.inr (.inr (.inl 90))))), .inr (.inr (.inr (.inr (.inr (.inl 91))))), .inr (.inr (.inr (.inr (.inr (.inl 92))))), .inr (.inr (.inr (.inr (.inr (.inl 93))))), .inl (0, 20), .inr (.inr (.inr (.inr (.inr (.inl 94))))), .inr (.inr (.inr (.inr (.inr (.inl 95))))), .inr (.inr (.inr (.inr (.inr (.inl 96))))), .inr (.inr (.inr (.inr (.inr (.inl 97))))), .inr (.inr (.inr (.inr (.inr (.inl 98)))))])) (.inr (.inr (.inl 0))))) (cond (Nat.blt t 49) (cond (Nat.beq t 48) (.inr (.inl (1, 2000, .inl ((-128), 127)))) (.inr (.inr (.inl 0)))) (cond (Nat.beq t 49) (.inr (.inl (1, 2000, .inl ((-128), 127)))) (.inr (.inr (.inl 0)))))))))) (cond (Nat.blt t 74) (cond (Nat.blt t 62) (cond (Nat.blt t 56) (cond (Nat.blt t 53) (cond (Nat.blt t 51) (cond (Nat.beq t 50) (.inr (.inl (0, 403, .inl ((-2147483648), 2147483647)))) (.inr (.inr (.inl 0)))) (cond (Nat.blt t 52) (cond (Nat.beq t 51) (.inr (.inl (0, 403, .inl ((-2147483648), 2147483647)))) (.inr (.inr (.inl 0)))) (cond (Nat.beq t 52) (.inr (.inl (0, 403, .inl ((-2147483648), 2147483647)))) (.inr (.inr (.inl 0)))))) (cond (Nat.blt t 54) (cond (Nat.beq t 53) (.inr (.inr (.inl 403))) (.inr (.inr (.inl 0)))) (cond (Nat.blt t 55) (cond (Nat.beq t 54) (.inr (.inr (.inl 18))) (.inr (.inr (.inl 0)))) (cond (Nat.beq t 55) (.inr (.inr (.inl 16))) (.inr (.inr (.inl 0))))))) (cond (Nat.blt t 59) (cond (Nat.blt t 57) (cond (Nat.beq t 56) (.inr (.inl (0, 16, .inl (0, 15)))) (.inr (.inr (.inl 0)))) (cond (Nat.blt t 58) (cond (Nat.beq t 57) (.inr (.inl (0, 2, .inl (0, 10)))) (.inr (.inr (.inl 0)))) (cond (Nat.beq t 58) (.inr (.inl (0, 20, .inl ((-2147483648), 2147483647)))) (.inr (.inr (.inl 0)))))) (cond (Nat.blt t 60) (cond (Nat.beq t 59) (.inr (.inl (2, 20, .inl (0, 1)))) (.inr (.inr (.inl 0)))) (cond (Nat.blt t 61) (cond (Nat.beq t 60) (.inr (.inl (0, 20, .inl (0, 4)))) (.inr (.inr (.inl 0)))) (cond (Nat.beq t 61) (.inr (.inl (0, 80, .inl ((-1), 9)))) (.inr (.inr (.inl 0)))))))) (cond (Nat.blt t 68) (cond (Nat.blt t 65) (cond (Nat.blt t 63) (cond (Nat.beq t 62) (.inr (.inl (0, 2, .inl (0, 20)))) (.inr (.inr (.inl 0)))) (cond (Nat.blt t 64) (cond (Nat.beq t 63) (.inr (.inl (0, 2, .inl (0, 6)))) (.inr (.inr (.inl 0)))) (cond (Nat.beq t 64) (.inr (.inl (0, 12, .inl ((-2147483648), 2147483647)))) (.inr (.inr (.inl 0)))))) (cond (Nat.blt t 66) (cond (Nat.beq t 65) (.inr (.inl (0, 12, .inl ((-2147483648), 2147483647)))) (.inr (.inr (.inl 0)))) (cond (Nat.blt t 67) (cond (Nat.beq t 66) (.inr (.inl (0, 12, .inl ((-2147483648), 2147483647)))) (.inr (.inr (.inl 0)))) (cond (Nat.beq t 67) (.inr (.inl (0, 2, .inl (0, 9)))) (.inr (.inr (.inl 0))))))) (cond (Nat.blt t 71) (cond (Nat.blt t 69) (cond (Nat.beq t 68) (.inr (.inl (0, 2, .inl ((-2147483648), 2147483647)))) (.inr (.inr (.inl 0)))) (cond (Nat.blt t 70) (cond (Nat.beq t 69) (.inr (.inl (0, 2, .inl ((-2147483648), 2147483647)))) (.inr (.inr (.inl 0)))) (cond (Nat.beq t 70) (.inr (.inl (0, 12, .inl (0, 259)))) (.inr (.inr (.inl 0)))))) (cond (Nat.blt t 72) (cond (Nat.beq t 71) (.inr (.inl (0, 12, .inl (0, 259)))) (.inr (.inr (.inl 0)))) (cond (Nat.blt t 73) (cond (Nat.beq t 72) (.inr (.inl (2, 260, .inl (0, 1)))) (.inr (.inr (.inl 0)))) (cond (Nat.beq t 73) (.inr (.inl (0, 260, .inl (0, 839)))) (.inr (.inr (.inl 0))))))))) (cond (Nat.blt t 86) (cond (Nat.blt t 80) (cond (Nat.blt t 77) (cond (Nat.blt t 75) (cond (Nat.beq t 74) (.inr (.inl (0, 260, .inl (0, 839)))) (.inr (.inr (.inl 0)))) (cond (Nat.blt t 76) (cond (Nat.beq t 75) (.inr (.inl (0, 260, .inl (0, 839)))) (.inr (.inr (.inl 0)))) (cond (Nat.beq t 76) (.inr (.inl (0, 260, .inl (0, 839)))) (.inr (.inr (.inl 0)))))) (cond (Nat.blt t 78) (cond (Nat.beq t 77) (.inr (.inl (0, 840, .inl (0, 5)))) (.inr (.inr (.inl 0)))) (cond (Nat.blt t 79) (cond (Nat.beq t 78) (.inr (.inl (0, 840, .inl ((-2147483648), 2147483647)))) (.inr (.inr (.inl 0)))) (cond (Nat.beq t 79) (.inr (.inl (0, 64, .inl ((-2147483648), 2147483647)))) (.inr (.inr (.inl 0))))))) (cond (Nat.blt t 83) (cond (Nat.blt t 81) (cond (Nat.beq t 80) (.inr (.inl (0, 7, .inl ((-2147483648), 2147483647)))) (.inr (.inr (.inl 0)))) (cond (Nat.blt t 82) (cond (Nat.beq t 81) (.inr (.inl (0, 400, .inl ((-2147483648), 2147483647)))) (.inr (.inr (.inl 0)))) (cond (Nat.beq t 82) (.inr (.inl (0, 96, .inr rowT))) (.inr (.inr (.inl 0)))))) (cond (Nat.blt t 84) (cond (Nat.beq t 83) (.inr (.inl (0, 600, .inl ((-2), 5)))) (.inr (.inr (.inl 0)))) (cond (Nat.blt t 85) (cond (Nat.beq t 84) (.inr (.inl (0, 600, .inl ((-2), 9)))) (.inr (.inr (.inl 0)))) (cond (Nat.beq t 85) (.inr (.inl (0, 96, .inr rowT))) (.inr (.inr (.inl 0)))))))) (cond (Nat.blt t 92) (cond (Nat.blt t 89) (cond (Nat.blt t 87) (cond (Nat.beq t 86) (.inr (.inl (0, 2880, .inr histT))) (.inr (.inr (.inl 0)))) (cond (Nat.blt t 88) (cond (Nat.beq t 87) (.inr (.inl (0, 6, .inl (0, 5)))) (.inr (.inr (.inl 0)))) (cond (Nat.beq t 88) (.inr (.inl (0, 6, .inl (0, 5)))) (.inr (.inr (.inl 0)))))) (cond (Nat.blt t 90) (cond (Nat.beq t 89) (.inr (.inl (0, 384, .inl ((-2147483648), 2147483647)))) (.inr (.inr (.inl 0)))) (cond (Nat.blt t 91) (cond (Nat.beq t 90) (.inr (.inl (0, 2709, .inl ((-2147483648), 2147483647)))) (.inr (.inr (.inl 0)))) (cond (Nat.beq t 91) (.inr (.inl (0, 10, .inl ((-1), 10)))) (.inr (.inr (.inl 0))))))) (cond (Nat.blt t 95) (cond (Nat.blt t 93) (cond (Nat.beq t 92) (.inr (.inl (0, 10, .inl ((-2147483648), 2147483647)))) (.inr (.inr (.inl 0)))) (cond (Nat.blt t 94) (cond (Nat.beq t 93) (.inr (.inl (0, 10, .inl ((-2147483648), 2147483647)))) (.inr (.inr (.inl 0)))) (cond (Nat.beq t 94) (.inr (.inl (0, 20, .inl (0, 5)))) (.inr (.inr (.inl 0)))))) (cond (Nat.blt t 97) (cond (Nat.blt t 96) (cond (Nat.beq t 95) (.inr (.inl (0, 20, .inl (0, 9)))) (.inr (.inr (.inl 0)))) (cond (Nat.beq t 96) (.inr (.inl (0, 20, .inl ((-2147483648), 2147483647)))) (.inr (.inr (.inl 0))))) (cond (Nat.blt t 98) (cond (Nat.beq t 97) (.inr (.inl (2, 3, .inl (0, 1)))) (.inr (.inr (.inl 0)))) (cond (Nat.beq t 98) (.inr (.inl (0, 3888, .inr heldT))) (.inr (.inr (.inl 0))))))))))
def arrL : Nat → List Nat := fun c => cond (Nat.blt c 83) (cond (Nat.blt c 53) (cond (Nat.blt c 36) (cond (Nat.blt c 10) (cond (Nat.blt c 1) (cond (Nat.beq c 0) ([0, 0, 0, 0, 0, 0, 0, 0, 0]) ([])) (cond (Nat.blt c 2) (cond (Nat.beq c 1) ([0, 8, 9, 0, 0, 0, 0, 0, 0, 0, 0, 0]) ([])) (cond (Nat.beq c 2) ([3, 0, 4, 5, 6, 7, 0, 0, 0]) ([])))) (cond (Nat.blt c 23) (cond (Nat.blt c 19) (cond (Nat.beq c 10) ([0, 0, 0, 0, 0, 0, 11, 12, 13, 14, 15, 16, 17, 18, 0]) ([])) (cond (Nat.beq c 19) ([20, 0, 21, 22]) ([]))) (cond (Nat.blt c 32) (cond (Nat.beq c 23) ([0, 0, 0, 0, 0, 0, 24, 25, 26, 27, 28, 29, 30, 31, 0]) ([])) (cond (Nat.beq c 32) ([33, 0, 34, 35]) ([]))))) (cond (Nat.blt c 45) (cond (Nat.blt c 38) (cond (Nat.beq c 36) ([0, 0, 0, 0, 0, 0, 0, 0, 0, 37]) ([])) (cond (Nat.blt c 40) (cond (Nat.beq c 38) ([39]) ([])) (cond (Nat.beq c 40) ([41, 0, 0, 42, 43, 44]) ([])))) (cond (Nat.blt c 49) (cond (Nat.blt c 47) (cond (Nat.beq c 45) ([0, 0, 0, 0, 0, 0, 0, 0, 0, 46]) ([])) (cond (Nat.beq c 47) ([0, 0, 0, 0, 0, 0, 0, 0, 0, 48]) ([]))) (cond (Nat.blt c 51) (cond (Nat.beq c 49) ([0, 0, 0, 0, 0, 0, 0, 0, 0, 50]) ([])) (cond (Nat.beq c 51) ([0, 0, 0, 0, 0, 0, 0, 0, 0, 52]) ([])))))) (cond (Nat.blt c 67) (cond (Nat.blt c 59) (cond (Nat.blt c 55) (cond (Nat.beq c 53) ([0, 0, 0, 0, 0, 0, 0, 0, 0, 54]) ([])) (cond (Nat.blt c 57) (cond (Nat.beq c 55) ([0, 0, 0, 0, 0, 0, 0, 0, 0, 56]) ([])) (cond (Nat.beq c 57) ([0, 0, 0, 0, 0, 0, 0, 0, 0, 58]) ([])))) (cond (Nat.blt c 63) (cond (Nat.blt c 61) (cond (Nat.beq c 59) ([0, 0, 0, 0, 0, 0, 0, 0, 0, 60]) ([])) (cond (Nat.beq c 61) ([0, 0, 0, 0, 0, 0, 0, 0, 0, 62]) ([]))) (cond (Nat.blt c 65) (cond (Nat.beq c 63) ([0, 0, 0, 0, 0, 0, 0, 0, 0, 64]) ([])) (cond (Nat.beq c 65) ([0, 0, 0, 0, 0, 0, 0, 0, 0, 66]) ([]))))) (cond (Nat.blt c 75) (cond (Nat.blt c 71) (cond (Nat.blt c 69) (cond (Nat.beq c 67) ([0, 0, 0, 0, 0, 0, 0, 0, 0, 68]) ([])) (cond (Nat.beq c 69) ([0, 0, 0, 0, 0, 0, 0, 0, 0, 70]) ([]))) (cond (Nat.blt c 73) (cond (Nat.beq c 71) ([0, 0, 0, 0, 0, 0, 0, 0, 0, 72]) ([])) (cond (Nat.beq c 73) ([0, 0, 0, 0, 0, 0, 0, 0, 0, 74]) ([])))) (cond (Nat.blt c 79) (cond (Nat.blt c 77) (cond (Nat.beq c 75) ([0, 0, 0, 0, 0, 0, 0, 0, 0, 76]) ([])) (cond (Nat.beq c 77) ([0, 0, 0, 0, 0, 0, 0, 0, 0, 78]) ([]))) (cond (Nat.blt c 81) (cond (Nat.beq c 79) ([0, 0, 0, 0, 0, 0, 0, 0, 0, 80]) ([])) (cond (Nat.beq c 81) ([0, 0, 0, 0, 0, 0, 0, 0, 0, 82]) ([]))))))) (cond (Nat.blt c 113) (cond (Nat.blt c 97) (cond (Nat.blt c 89) (cond (Nat.blt c 85) (cond (Nat.beq c 83) ([0, 0, 0, 0, 0, 0, 0, 0, 0, 84]) ([])) (cond (Nat.blt c 87) (cond (Nat.beq c 85) ([0, 0, 0, 0, 0, 0, 0, 0, 0, 86]) ([])) (cond (Nat.beq c 87) ([0, 0, 0, 0, 0, 0, 0, 0, 0, 88]) ([])))) (cond (Nat.blt c 93) (cond (Nat.blt c 91) (cond (Nat.beq c 89) ([0, 0, 0, 0, 0, 0, 0, 0, 0, 90]) ([])) (cond (Nat.beq c 91) ([0, 0, 0, 0, 0, 0, 0, 0, 0, 92]) ([]))) (cond (Nat.blt c 95) (cond (Nat.beq c 93) ([0, 0, 0, 0, 0, 0, 0, 0, 0, 94]) ([])) (cond (Nat.beq c 95) ([0, 0, 0, 0, 0, 0, 0, 0, 0, 96]) ([]))))) (cond (Nat.blt c 105) (cond (Nat.blt c 101) (cond (Nat.blt c 99) (cond (Nat.beq c 97) ([0, 0, 0, 0, 0, 0, 0, 0, 0, 98]) ([])) (cond (Nat.beq c 99) ([0, 0, 0, 0, 0, 0, 0, 0, 0, 100]) ([]))) (cond (Nat.blt c 103) (cond (Nat.beq c 101) ([0, 0, 0, 0, 0, 0, 0, 0, 0, 102]) ([])) (cond (Nat.beq c 103) ([0, 0, 0, 0, 0, 0, 0, 0, 0, 104]) ([])))) (cond (Nat.blt c 109) (cond (Nat.blt c 107) (cond (Nat.beq c 105) ([0, 0, 0, 0, 0, 0, 0, 0, 0, 106]) ([])) (cond (Nat.beq c 107) ([108]) ([]))) (cond (Nat.blt c 111) (cond (Nat.beq c 109) ([0, 0, 0, 0, 0, 0, 0, 0, 0, 110]) ([])) (cond (Nat.beq c 111) ([112]) ([])))))) (cond (Nat.blt c 132) (cond (Nat.blt c 121) (cond (Nat.blt c 115) (cond (Nat.beq c 113) ([0, 0, 0, 0, 0, 0, 0, 0, 0, 114]) ([])) (cond (Nat.blt c 117) (cond (Nat.beq c 115) ([116]) ([])) (cond (Nat.beq c 117) ([118, 119, 120, 0]) ([])))) (cond (Nat.blt c 126) (cond (Nat.blt c 122) (cond (Nat.beq c 121) ([0, 124, 125]) ([])) (cond (Nat.beq c 122) ([0, 0, 0, 0, 0, 0, 0, 0, 0, 123]) ([]))) (cond (Nat.blt c 130) (cond (Nat.beq c 126) ([127, 128, 129, 0, 0, 0]) ([])) (cond (Nat.beq c 130) ([0, 0, 0, 0, 0, 0, 0, 0, 0, 131]) ([]))))) (cond (Nat.blt c 140) (cond (Nat.blt c 136) (cond (Nat.blt c 134) (cond (Nat.beq c 132) ([0, 0, 0, 0, 0, 0, 0, 0, 0, 133]) ([])) (cond (Nat.beq c 134) ([0, 0, 0, 0, 0, 0, 0, 0, 0, 135]) ([]))) (cond (Nat.blt c 138) (cond (Nat.beq c 136) ([0, 0, 0, 0, 0, 0, 0, 0, 0, 137]) ([])) (cond (Nat.beq c 138) ([0, 0, 0, 0, 0, 0, 0, 0, 0, 139]) ([])))) (cond (Nat.blt c 144) (cond (Nat.blt c 142) (cond (Nat.beq c 140) ([0, 0, 0, 0, 0, 0, 0, 0, 0, 141]) ([])) (cond (Nat.beq c 142) ([0, 0, 0, 0, 0, 0, 0, 0, 0, 143]) ([]))) (cond (Nat.blt c 148) (cond (Nat.beq c 144) ([145, 146, 147]) ([])) (cond (Nat.beq c 148) ([0, 149, 0, 150, 0, 151, 152, 153, 154, 155, 0, 0, 0, 0, 0, 0, 0, 0, 0, 0, 0, 156, 157, 158, 159, 160, 161, 162, 163, 164, 165, 166, 167, 168, 169, 170, 171, 172, 0, 173, 174, 175, 176, 177, 0, 178, 179, 180, 0, 181, 182, 0, 183, 184, 185, 186, 0, 0, 0, 0, 0, 187, 188, 0, 189, 190, 191, 192, 193, 194, 0, 195, 196, 197, 198, 199]) ([])))))))
def arrC (c j : Nat) : Nat := (arrL c).getD j 0
def EC : WE := (ctyC, dclC, arrC)
end
section
/-! of a token that is an int: its value is small -/
def JC (w : List AE) : Prop := (∀ (j : Nat) (y : Int64), ea w 5 j = some 3 → la w 7 j = some y → (-60000) ≤ y.toInt ∧ y.toInt ≤ 240000) ∧ (∀ (i : Int32) (y : Int64), fa w 1 8 = some (.int 3) → fa w 1 7 = some (.int i) → la w 7 i.toNatClampNeg = some y → (-60000) ≤ y.toInt ∧ y.toInt ≤ 240000)
def fpC : MDs := [(6, 1000), (8, 1000), (2, 8), (2, 7), (6, 1001), (8, 1001)]
theorem js_of {m0 : MDs} (h : fpC.all (fun q => !(mdF m0 q.1 q.2)) = true) : JS EC JC m0 := by
  intro w w' ha hJ
  have hm : ∀ q ∈ fpC, mdF m0 q.1 q.2 = false := fun q hq => by simpa using List.all_eq_true.mp h q hq
  have hK : ra w' 5 = ra w 5 := ha.2.2.1 5 (hm (6, 1000) (by decide)) (hm (6, 1001) (by decide))
  have hV : ra w' 7 = ra w 7 := ha.2.2.1 7 (hm (8, 1000) (by decide)) (hm (8, 1001) (by decide))
  have hk : fa w' 1 8 = fa w 1 8 := ha.2.1 1 8 (hm (2, 8) (by decide))
  have hc : fa w' 1 7 = fa w 1 7 := ha.2.1 1 7 (hm (2, 7) (by decide))
  refine ⟨fun j y h1 h2 => hJ.1 j y (by rw [← ea_of hK]; exact h1) (by rw [← la_of hV]; exact h2), fun i y h1 h2 h3 => hJ.2 i y (by rw [← hk]; exact h1) (by rw [← hc]; exact h2) (by rw [← la_of hV]; exact h3)⟩
end
section
theorem cty_one (t c : Nat) (h : (List.range 200).all (fun k => !(Nat.beq (ctyC k) t) || Nat.beq k c) = true) (ht : t ≠ 0) (k : Nat) (hk : ctyC k = t) : k = c := by
  by_cases hl : k < 200
  · have h1 := List.all_eq_true.mp h k (List.mem_range.mpr hl)
    rw [hk, Nat.beq_refl] at h1
    exact Nat.eq_of_beq_eq_true (by simpa using h1)
  · exfalso
    apply ht
    rw [← hk]
    show ctyL.getD k 0 = 0
    rw [List.getD_eq_getElem?_getD, List.getElem?_eq_none (by have h9 : ctyL.length = 200 := rfl; omega)]
    rfl
theorem sh_rd {w : List AE} (hw : wok EC w) : ∃ (x3 : Int32) (k4 : Nat) (x5 : Int32) (x6 : Int32) (x7 : Int32) (x8 : Int32) (x9 : Int32) (y10 : Int64) (x11 : Int32), w[1]? = some (.inr (.inr (.inr (5, [.ref 2, .ref 8, .ref 9, .int x3, .ref k4, .int x5, .int x6, .int x7, .int x8, .int x9, .long y10, .int x11])))) ∧ (0 ≤ x3.toInt ∧ x3.toInt ≤ 16) ∧ ctyC k4 = 11 ∧ ((-2147483648) ≤ x5.toInt ∧ x5.toInt ≤ 2147483647) ∧ ((-2147483648) ≤ x6.toInt ∧ x6.toInt ≤ 2147483647) ∧ (0 ≤ x7.toInt ∧ x7.toInt ≤ 400) ∧ ((-2147483648) ≤ x8.toInt ∧ x8.toInt ≤ 2147483647) ∧ ((-2147483648) ≤ x9.toInt ∧ x9.toInt ≤ 2147483647) ∧ ((-2147483648) ≤ x11.toInt ∧ x11.toInt ≤ 2147483647) ∧ True := by
  obtain ⟨e, h1, h2⟩ := hw.2 1 (by decide)
  have h2 : okE EC 1 (dclC 2) e := h2
  obtain ⟨fl, rfl, hl, hf⟩ := h2
  have hl : fl.length = 12 := hl
  match fl, hl, hf, h1 with
  | [b0, b1, b2, b3, b4, b5, b6, b7, b8, b9, b10, b11], _, hf, h1 =>
    obtain ⟨v0, q0, g0⟩ := hf 0 _ rfl
    have q0 : b0 = v0 := Option.some.inj q0
    subst q0
    obtain ⟨k0, e0, z0, -⟩ := g0
    subst e0
    have z0 := cty_one 3 2 (by decide +kernel) (by decide) k0 z0
    subst z0
    obtain ⟨v1, q1, g1⟩ := hf 1 _ rfl
    have q1 : b1 = v1 := Option.some.inj q1
    subst q1
    obtain ⟨e1, -⟩ := g1
    subst e1
    obtain ⟨v2, q2, g2⟩ := hf 2 _ rfl
    have q2 : b2 = v2 := Option.some.inj q2
    subst q2
    obtain ⟨e2, -⟩ := g2
    subst e2
    obtain ⟨v3, q3, g3⟩ := hf 3 _ rfl
    have q3 : b3 = v3 := Option.some.inj q3
    subst q3
    obtain ⟨x3, e3, z3⟩ := g3
    subst e3
    obtain ⟨v4, q4, g4⟩ := hf 4 _ rfl
    have q4 : b4 = v4 := Option.some.inj q4
    subst q4
    obtain ⟨k4, e4, z4, -⟩ := g4
    subst e4
    obtain ⟨v5, q5, g5⟩ := hf 5 _ rfl
    have q5 : b5 = v5 := Option.some.inj q5
    subst q5
    obtain ⟨x5, e5, z5⟩ := g5
    subst e5
    obtain ⟨v6, q6, g6⟩ := hf 6 _ rfl
    have q6 : b6 = v6 := Option.some.inj q6
    subst q6
    obtain ⟨x6, e6, z6⟩ := g6
    subst e6
    obtain ⟨v7, q7, g7⟩ := hf 7 _ rfl
    have q7 : b7 = v7 := Option.some.inj q7
    subst q7
    obtain ⟨x7, e7, z7⟩ := g7
    subst e7
    obtain ⟨v8, q8, g8⟩ := hf 8 _ rfl
    have q8 : b8 = v8 := Option.some.inj q8
    subst q8
    obtain ⟨x8, e8, z8⟩ := g8
    subst e8
    obtain ⟨v9, q9, g9⟩ := hf 9 _ rfl
    have q9 : b9 = v9 := Option.some.inj q9
    subst q9
    obtain ⟨x9, e9, z9⟩ := g9
    subst e9
    obtain ⟨v10, q10, g10⟩ := hf 10 _ rfl
    have q10 : b10 = v10 := Option.some.inj q10
    subst q10
    obtain ⟨y10, e10, z10⟩ := g10
    subst e10
    obtain ⟨v11, q11, g11⟩ := hf 11 _ rfl
    have q11 : b11 = v11 := Option.some.inj q11
    subst q11
    obtain ⟨x11, e11, z11⟩ := g11
    subst e11
    exact ⟨x3, k4, x5, x6, x7, x8, x9, y10, x11, h1, z3, z4, z5, z6, z7, z8, z9, z11, trivial⟩
theorem sh_tp {w : List AE} (hw : wok EC w) : ∃ (x1 : Int32) (x6 : Int32) (x7 : Int32) (y8 : Int64), w[2]? = some (.inr (.inr (.inr (7, [.ref 3, .int x1, .ref 4, .ref 5, .ref 6, .ref 7, .int x6, .int x7, .long y8])))) ∧ (0 ≤ x1.toInt ∧ x1.toInt ≤ 2000) ∧ ((-2147483648) ≤ x6.toInt ∧ x6.toInt ≤ 2147483647) ∧ ((-2147483648) ≤ x7.toInt ∧ x7.toInt ≤ 2147483647) ∧ True := by
  obtain ⟨e, h1, h2⟩ := hw.2 2 (by decide)
  have h2 : okE EC 2 (dclC 3) e := h2
  obtain ⟨fl, rfl, hl, hf⟩ := h2
  have hl : fl.length = 9 := hl
  match fl, hl, hf, h1 with
  | [b0, b1, b2, b3, b4, b5, b6, b7, b8], _, hf, h1 =>
    obtain ⟨v0, q0, g0⟩ := hf 0 _ rfl
    have q0 : b0 = v0 := Option.some.inj q0
    subst q0
    obtain ⟨e0, -⟩ := g0
    subst e0
    obtain ⟨v1, q1, g1⟩ := hf 1 _ rfl
    have q1 : b1 = v1 := Option.some.inj q1
    subst q1
    obtain ⟨x1, e1, z1⟩ := g1
    subst e1
    obtain ⟨v2, q2, g2⟩ := hf 2 _ rfl
    have q2 : b2 = v2 := Option.some.inj q2
    subst q2
    obtain ⟨e2, -⟩ := g2
    subst e2
    obtain ⟨v3, q3, g3⟩ := hf 3 _ rfl
    have q3 : b3 = v3 := Option.some.inj q3
    subst q3
    obtain ⟨e3, -⟩ := g3
    subst e3
    obtain ⟨v4, q4, g4⟩ := hf 4 _ rfl
    have q4 : b4 = v4 := Option.some.inj q4
    subst q4
    obtain ⟨e4, -⟩ := g4
    subst e4
    obtain ⟨v5, q5, g5⟩ := hf 5 _ rfl
    have q5 : b5 = v5 := Option.some.inj q5
    subst q5
    obtain ⟨e5, -⟩ := g5
    subst e5
    obtain ⟨v6, q6, g6⟩ := hf 6 _ rfl
    have q6 : b6 = v6 := Option.some.inj q6
    subst q6
    obtain ⟨x6, e6, z6⟩ := g6
    subst e6
    obtain ⟨v7, q7, g7⟩ := hf 7 _ rfl
    have q7 : b7 = v7 := Option.some.inj q7
    subst q7
    obtain ⟨x7, e7, z7⟩ := g7
    subst e7
    obtain ⟨v8, q8, g8⟩ := hf 8 _ rfl
    have q8 : b8 = v8 := Option.some.inj q8
    subst q8
    obtain ⟨y8, e8, z8⟩ := g8
    subst e8
    exact ⟨x1, x6, x7, y8, h1, z1, z6, z7, trivial⟩
theorem sh_x {w : List AE} (hw : wok EC w) : ∃ (k1 : Nat) (k2 : Nat) (k3 : Nat), w[0]? = some (.inr (.inr (.inr (11, [.ref 1, .ref k1, .ref k2, .ref k3, .ref 40, .ref 117, .ref 121, .ref 126, .ref 144])))) ∧ ctyC k1 = 11 ∧ ctyC k2 = 24 ∧ ctyC k3 = 26 ∧ True := by
  obtain ⟨e, h1, h2⟩ := hw.2 0 (by decide)
  have h2 : okE EC 0 (dclC 1) e := h2
  obtain ⟨fl, rfl, hl, hf⟩ := h2
  have hl : fl.length = 9 := hl
  match fl, hl, hf, h1 with
  | [b0, b1, b2, b3, b4, b5, b6, b7, b8], _, hf, h1 =>
    obtain ⟨v0, q0, g0⟩ := hf 0 _ rfl
    have q0 : b0 = v0 := Option.some.inj q0
    subst q0
    obtain ⟨k0, e0, z0, -⟩ := g0
    subst e0
    have z0 := cty_one 2 1 (by decide +kernel) (by decide) k0 z0
    subst z0
    obtain ⟨v1, q1, g1⟩ := hf 1 _ rfl
    have q1 : b1 = v1 := Option.some.inj q1
    subst q1
    obtain ⟨k1, e1, z1, -⟩ := g1
    subst e1
    obtain ⟨v2, q2, g2⟩ := hf 2 _ rfl
    have q2 : b2 = v2 := Option.some.inj q2
    subst q2
    obtain ⟨k2, e2, z2, -⟩ := g2
    subst e2
    obtain ⟨v3, q3, g3⟩ := hf 3 _ rfl
    have q3 : b3 = v3 := Option.some.inj q3
    subst q3
    obtain ⟨k3, e3, z3, -⟩ := g3
    subst e3
    obtain ⟨v4, q4, g4⟩ := hf 4 _ rfl
    have q4 : b4 = v4 := Option.some.inj q4
    subst q4
    obtain ⟨k4, e4, z4, -⟩ := g4
    subst e4
    have z4 := cty_one 28 40 (by decide +kernel) (by decide) k4 z4
    subst z4
    obtain ⟨v5, q5, g5⟩ := hf 5 _ rfl
    have q5 : b5 = v5 := Option.some.inj q5
    subst q5
    obtain ⟨k5, e5, z5, -⟩ := g5
    subst e5
    have z5 := cty_one 33 117 (by decide +kernel) (by decide) k5 z5
    subst z5
    obtain ⟨v6, q6, g6⟩ := hf 6 _ rfl
    have q6 : b6 = v6 := Option.some.inj q6
    subst q6
    obtain ⟨k6, e6, z6, -⟩ := g6
    subst e6
    have z6 := cty_one 37 121 (by decide +kernel) (by decide) k6 z6
    subst z6
    obtain ⟨v7, q7, g7⟩ := hf 7 _ rfl
    have q7 : b7 = v7 := Option.some.inj q7
    subst q7
    obtain ⟨k7, e7, z7, -⟩ := g7
    subst e7
    have z7 := cty_one 40 126 (by decide +kernel) (by decide) k7 z7
    subst z7
    obtain ⟨v8, q8, g8⟩ := hf 8 _ rfl
    have q8 : b8 = v8 := Option.some.inj q8
    subst q8
    obtain ⟨k8, e8, z8, -⟩ := g8
    subst e8
    have z8 := cty_one 44 144 (by decide +kernel) (by decide) k8 z8
    subst z8
    exact ⟨k1, k2, k3, h1, z1, z2, z3, trivial⟩
end
