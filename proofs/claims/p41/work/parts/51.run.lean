/-! the checker: opened calls and runs -/
def namL (cs : List (Nat × CE)) (n : Nat) : List AV → List (Nat × CE) × Nat × List AV
  | [] => (cs, n, [])
  | a :: as => ((namL (namA cs n a).1 (namA cs n a).2.1 as).1, (namL (namA cs n a).1 (namA cs n a).2.1 as).2.1, (namA cs n a).2.2 :: (namL (namA cs n a).1 (namA cs n a).2.1 as).2.2)
def trV (E : WE) (tt : Nat) (a : AV) : Option AV := match a with
  | .inr (.inr (.inr (.inr (.inr (.inr n))))) => bif Nat.beq n 0 then some (vR tt) else some (vX n)
  | .inr (.inr (.inr (.inr (.inr (.inl sl))))) => (match atyA E tt (vA sl) with
    | some t => some (vR t)
    | none => none)
  | a => some a
def trL (E : WE) (tt : Nat) : List AV → Option (List AV)
  | [] => some []
  | a :: as => (match trV E tt a, trL E tt as with
    | some b, some bs => some (b :: bs)
    | _, _ => none)
def trO (E : WE) (tt : Nat) : Option AV → Option (Option AV)
  | none => some none
  | some a => (match trV E tt a with
    | some b => some (some b)
    | none => none)
abbrev RET : Type := Option AV × AS
abbrev CAL : Type := Nat → Nat → MDs → MDs → List (Nat × CE) → Nat → List AV → FX → Option (List RET)
def fmM (mi m : MDs) : MDs := m.filter (fun q => mdF mi q.1 q.2)
def mapO {α β : Type} (f : α → Option β) : List α → Option (List β)
  | [] => some []
  | a :: as => (match f a, mapO f as with
    | some b, some bs => some (b :: bs)
    | _, _ => none)
def bkS (σ : AS) (rest : List AV) (p : RET) : AS := (p.2.1, p.2.2.1, σ.2.2.1, p.1.toList ++ rest, p.2.2.2.2.2)
noncomputable def bkD (E : WE) (tt tt' : Nat) (σ : AS) (rest : List AV) (m : MDs) (p : RET) : Option AS := match trO E tt' p.1 with
  | some o => some (p.2.1, p.2.2.1, σ.2.2.1, o.toList ++ rest, σ.2.2.2.2.1.filter (fun q => !(mdF m tt q.1)), σ.2.2.2.2.2.filter (kpE E tt σ.1 m))
  | none => none
noncomputable def inD (E : WE) (cal : CAL) (tt tt' : Nat) (mi m0 m : MDs) (σ : AS) (rest : List AV) (b : Nat) (cs : List (Nat × CE)) (n : Nat) (args : Option (List AV)) : Option (List AS) := match args with
  | none => none
  | some as => bif Nat.beq tt' 0 then none else (match cal b tt' (fmM mi m0) (fmM mi m) cs n as ([], []) with
    | some rets => mapO (bkD E tt tt' σ rest (fmM mi m)) rets
    | none => none)
noncomputable def inlC (E : WE) (cal : CAL) (tt : Nat) (mi m0 m : MDs) (σ : AS) (rest : List AV) (inst : Bool) (b : Nat) (args : List AV) : Option (List AS) :=
  bif inst then (match (namL σ.1 σ.2.1 args).2.2 with
    | .inr (.inr (.inr (.inr (.inr (.inr n))))) :: as => bif Nat.beq n 0 then (match cal b tt m0 m (namL σ.1 σ.2.1 args).1 (namL σ.1 σ.2.1 args).2.1 (vX 0 :: as) σ.2.2.2.2 with
        | some rets => some (rets.map (bkS σ rest))
        | none => none)
      else inD E cal tt (E.1 0) mi m0 m σ rest b (namL σ.1 σ.2.1 args).1 (namL σ.1 σ.2.1 args).2.1 ((trL E tt as).map (fun l => vX n :: l))
    | .inr (.inr (.inr (.inr (.inl t)))) :: as => inD E cal tt t mi m0 m σ rest b (namL σ.1 σ.2.1 args).1 (namL σ.1 σ.2.1 args).2.1 ((trL E tt as).map (fun l => vX 0 :: l))
    | _ => none) else inD E cal tt (E.1 0) mi m0 m σ rest b (namL σ.1 σ.2.1 args).1 (namL σ.1 σ.2.1 args).2.1 (trL E tt (namL σ.1 σ.2.1 args).2.2)
def JS (E : WE) (J : List AE → Prop) (m0 : MDs) : Prop := ∀ w w', agr E (mdF m0) w w' → J w → J w'
def SB (m0 m : MDs) : Prop := ∀ t j, mdF m0 t j = true → mdF m t j = true
def CalOK (E : WE) (J : List AE → Prop) (d : Nat) (cal : CAL) : Prop := ∀ (b tt : Nat) (m0 m : MDs) (cs : List (Nat × CE)) (n : Nat) (args : List AV) (fx : FX) (rets : List RET), cal b tt m0 m cs n args fx = some rets → JS E J m0 → SB m0 m →
  ∀ (th : Nat) (ρ : List Int) (av : List Value) (w : List AE), E.1 th = tt → tt ≠ 0 → wok E w → J w → gcs ρ cs n → gvs E th ρ args av → gfs E th ρ fx.1 w → ges E th ρ fx.2 w →
    MEx d b av w (fun r w' => wok E w' ∧ J w' ∧ agr E (mdF m) w w' ∧ ∃ p ∈ rets, ∃ t, gvo E th (ρ ++ t) p.1 r ∧ gcs (ρ ++ t) p.2.1 p.2.2.1 ∧ gfs E th (ρ ++ t) p.2.2.2.2.2.1 w' ∧ ges E th (ρ ++ t) p.2.2.2.2.2.2 w')
section RU1
variable {E : WE} {J : List AE → Prop} {th tt d b0 : Nat} {ρ : List Int} {w : List AE} {lv : List (Nat × Value)} {st : List Value} {σ : AS} {pc n i : Nat} {m m0 mi : MDs}
theorem namL_ok : ∀ {as : List AV} {vs : List Value} {ρ : List Int} {cs : List (Nat × CE)} {n : Nat}, gcs ρ cs n → gvs E th ρ as vs → ∃ t, gcs (ρ ++ t) (namL cs n as).1 (namL cs n as).2.1 ∧ gvs E th (ρ ++ t) (namL cs n as).2.2 vs
  | [], [], ρ, cs, n, hc, _ => ⟨[], by rw [List.append_nil]; exact hc, trivial⟩
  | a :: as, v :: vs, ρ, cs, n, hc, h => by
    obtain ⟨t, t1, t2⟩ := namA_ok hc h.1
    obtain ⟨s, s1, s2⟩ := namL_ok t1 (gvs_ap t h.2)
    refine ⟨t ++ s, ?_, ?_⟩
    · rw [← List.append_assoc]
      exact s1
    · rw [← List.append_assoc]
      exact ⟨gv_ap s t2, s2⟩
  | [], _ :: _, _, _, _, _, h => h.elim
  | _ :: _, [], _, _, _, _, h => h.elim
theorem trV_ok {th' : Nat} {a b : AV} {v : Value} (hw : wok E w) (hth : E.1 th = tt) (htt : tt ≠ 0) (hg : gv E th ρ a v) (h : trV E tt a = some b) : gv E th' ρ b v := by
  unfold trV at h
  split at h
  · rename_i n0
    have hg : v = .ref (bif Nat.beq n0 0 then th else n0) := hg
    subst hg
    cases hn : Nat.beq n0 0 with
    | true => rw [hn] at h; cases h; exact ⟨th, rfl, hth, htt⟩
    | false =>
      rw [hn] at h
      cases h
      show Value.ref _ = Value.ref (bif Nat.beq n0 0 then th' else n0)
      rw [hn]
      rfl
  · rename_i sl
    split at h
    · rename_i t ht
      cases h
      obtain ⟨k, e1, e2, e3, -⟩ := aty_ok hw hth htt hg ht
      exact ⟨k, e1, e2, e3⟩
    · cases h
  · rename_i h1 h2
    cases h
    match a, hg, h1, h2 with
    | .inl p, hg, _, _ => exact hg
    | .inr (.inl _), hg, _, _ => exact hg
    | .inr (.inr (.inl _)), hg, _, _ => exact hg
    | .inr (.inr (.inr (.inl _))), hg, _, _ => exact hg
    | .inr (.inr (.inr (.inr (.inl _)))), hg, _, _ => exact hg
    | .inr (.inr (.inr (.inr (.inr (.inl sl))))), _, _, h2 => exact absurd rfl (h2 sl)
    | .inr (.inr (.inr (.inr (.inr (.inr n))))), _, h1, _ => exact absurd rfl (h1 n)
theorem trL_ok {th' : Nat} (hw : wok E w) (hth : E.1 th = tt) (htt : tt ≠ 0) : ∀ {as bs : List AV} {vs : List Value}, gvs E th ρ as vs → trL E tt as = some bs → gvs E th' ρ bs vs
  | [], bs, [], _, h => by cases h; trivial
  | a :: as, bs, v :: vs, hg, h => by
    have h : (match trV E tt a, trL E tt as with
      | some b, some bs => some (b :: bs)
      | _, _ => none) = some bs := h
    split at h
    · rename_i b bs' hb hbs
      cases h
      exact ⟨trV_ok hw hth htt hg.1 hb, trL_ok hw hth htt hg.2 hbs⟩
    · cases h
  | [], _, _ :: _, hg, _ => hg.elim
  | _ :: _, _, [], hg, _ => hg.elim
theorem fmM_js (h : JS E J m0) : JS E J (fmM mi m0) := fun w w' q => h w w' (agr.le (fun t j z => fltM t j z) q)
theorem fmM_sb (h : SB m0 m) : SB (fmM mi m0) (fmM mi m) := fun t j hq => by
  unfold mdF fmM at hq ⊢
  obtain ⟨q, h1, h2⟩ := List.any_eq_true.mp hq
  obtain ⟨h3, h4⟩ := List.mem_filter.mp h1
  simp only [Bool.and_eq_true] at h2
  have e1 := Nat.eq_of_beq_eq_true h2.1
  have e2 := Nat.eq_of_beq_eq_true h2.2
  have h5 := h t j (by unfold mdF; exact List.any_eq_true.mpr ⟨q, h3, by simp only [Bool.and_eq_true]; exact h2⟩)
  unfold mdF at h5
  obtain ⟨z, z1, z2⟩ := List.any_eq_true.mp h5
  refine List.any_eq_true.mpr ⟨z, List.mem_filter.mpr ⟨z1, ?_⟩, z2⟩
  simp only [Bool.and_eq_true] at z2
  rw [Nat.eq_of_beq_eq_true z2.1, Nat.eq_of_beq_eq_true z2.2, ← e1, ← e2]
  exact h4
theorem mapO_mem {α β : Type} {f : α → Option β} : ∀ {l : List α} {r : List β}, mapO f l = some r → ∀ a ∈ l, ∃ b ∈ r, f a = some b
  | [], _, _, a, ha => by cases ha
  | x :: l, r, h, a, ha => by
    have h : (match f x, mapO f l with
      | some b, some bs => some (b :: bs)
      | _, _ => none) = some r := h
    split at h
    · rename_i b bs hb hbs
      cases h
      rcases List.mem_cons.mp ha with rfl | ha
      · exact ⟨b, List.mem_cons_self, hb⟩
      · obtain ⟨b', k1, k2⟩ := mapO_mem hbs a ha
        exact ⟨b', List.mem_cons_of_mem _ k1, k2⟩
    · cases h
theorem inD_ok {cal : CAL} {tt' th' : Nat} {rest : List AV} {vr av : List Value} {cs : List (Nat × CE)} {n : Nat} {args : Option (List AV)} {Ls : List AS} {t0 : List Int} (hcal : CalOK E J d cal) (hJS : JS E J m0) (hSB : SB m0 m) (hS : gS E th ρ σ lv st w) (hw : wok E w) (hJ : J w) (hth : E.1 th = tt) (htt : tt ≠ 0) (hth' : E.1 th' = tt') (hr : gvs E th ρ rest vr)
    (hc : gcs (ρ ++ t0) cs n) (hav : ∀ as, args = some as → gvs E th' (ρ ++ t0) as av) (h : inD E cal tt tt' mi m0 m σ rest b0 cs n args = some Ls) : MEx d b0 av w (PostL E J th m ρ lv vr w Ls) := by
  unfold inD at h
  split at h
  · cases h
  · rename_i as'
    cases hz : Nat.beq tt' 0 with
    | true => rw [hz] at h; cases h
    | false =>
      rw [hz] at h
      simp only [cond_false] at h
      have htt' : tt' ≠ 0 := fun e => by rw [e] at hz; cases hz
      split at h
      · rename_i rets hrets
        refine mex_post (hcal b0 tt' _ _ cs n as' ([], []) rets hrets (fmM_js hJS) (fmM_sb hSB) th' (ρ ++ t0) av w hth' htt' hw hJ hc (hav as' rfl) (fun q hq => by cases hq) (fun q hq => by cases hq)) (fun r w' q => ?_)
        obtain ⟨q1, q2, q3, p, p1, t, p2, p3, p4, p5⟩ := q
        obtain ⟨σ', s1, s2⟩ := mapO_mem h p p1
        refine ⟨q1, q2, agr.le (fun t j z => fltM t j z) q3, σ', s1, t0 ++ t, ?_⟩
        unfold bkD at s2
        split at s2
        · rename_i o ho
          cases s2
          rw [← List.append_assoc]
          refine ⟨p3, glv_ap t (glv_ap t0 hS.2.1), res_ok ?_ (gvs_ap t (gvs_ap t0 hr)), keepF (gfs_ap t (gfs_ap t0 hS.2.2.2.1)) hth q3, keepG (ρ0 := ρ) (t0 := t0 ++ t) (List.append_assoc ρ t0 t) hS.1 hS.2.2.2.2 hw hth htt q3⟩
          match hp1 : p.1, r, p2 with
          | none, none, _ =>
            rw [hp1] at ho
            cases ho
            trivial
          | some a, some v, p2 =>
            rw [hp1] at ho
            have ho : (match trV E tt' a with
              | some b => some (some b)
              | none => none) = some o := ho
            split at ho
            · rename_i b hb
              cases ho
              exact trV_ok q1 hth' htt' p2 hb
            · cases ho
        · cases s2
      · cases h
theorem inlC_ok {cal : CAL} {inst : Bool} {rest args : List AV} {vr av : List Value} {Ls : List AS} (hcal : CalOK E J d cal) (hJS : JS E J m0) (hSB : SB m0 m) (hS : gS E th ρ σ lv st w) (hw : wok E w) (hJ : J w) (hth : E.1 th = tt) (htt : tt ≠ 0) (hav : gvs E th ρ args av) (hr : gvs E th ρ rest vr)
    (h : inlC E cal tt mi m0 m σ rest inst b0 args = some Ls) : MEx d b0 av w (PostL E J th m ρ lv vr w Ls) := by
  obtain ⟨t0, n1, n2⟩ := namL_ok hS.1 hav
  unfold inlC at h
  cases inst with
  | true =>
    simp only [cond_true] at h
    split at h
    · rename_i n0 as hn
      rw [hn] at n2
      obtain ⟨v, vs, rfl, g1, g2⟩ := gvs_c n2
      have g1 : v = .ref (bif Nat.beq n0 0 then th else n0) := g1
      cases hb : Nat.beq n0 0 with
      | true =>
        rw [hb] at h g1
        simp only [cond_true] at h
        split at h
        · rename_i rets hrets
          cases h
          refine mex_post (hcal b0 tt m0 m _ _ (vX 0 :: as) σ.2.2.2.2 rets hrets hJS hSB th (ρ ++ t0) (v :: vs) w hth htt hw hJ n1 ⟨g1, g2⟩ (gfs_ap t0 hS.2.2.2.1) (ges_ap t0 hS.2.2.2.2)) (fun r w' q => ?_)
          obtain ⟨q1, q2, q3, p, p1, t, p2, p3, p4, p5⟩ := q
          refine ⟨q1, q2, q3, bkS σ rest p, List.mem_map_of_mem p1, t0 ++ t, ?_⟩
          rw [← List.append_assoc]
          exact ⟨p3, glv_ap t (glv_ap t0 hS.2.1), res_ok p2 (gvs_ap t (gvs_ap t0 hr)), p4, p5⟩
        · cases h
      | false =>
        rw [hb] at h g1
        simp only [cond_false] at h
        refine inD_ok (th' := 0) hcal hJS hSB hS hw hJ hth htt rfl hr n1 (fun as' e => ?_) h
        cases ht : trL E tt as with
        | none => rw [ht] at e; cases e
        | some l =>
          rw [ht] at e
          cases e
          refine ⟨?_, trL_ok hw hth htt g2 ht⟩
          show v = .ref (bif Nat.beq n0 0 then 0 else n0)
          rw [hb]
          exact g1
    · rename_i t as hn
      rw [hn] at n2
      obtain ⟨v, vs, rfl, g1, g2⟩ := gvs_c n2
      obtain ⟨o, rfl, ho, ht0⟩ := g1
      refine inD_ok (th' := o) hcal hJS hSB hS hw hJ hth htt ho hr n1 (fun as' e => ?_) h
      cases ht : trL E tt as with
      | none => rw [ht] at e; cases e
      | some l =>
        rw [ht] at e
        cases e
        exact ⟨rfl, trL_ok hw hth htt g2 ht⟩
    · cases h
  | false =>
    simp only [cond_false] at h
    exact inD_ok (th' := 0) hcal hJS hSB hS hw hJ hth htt rfl hr n1 (fun as' e => trL_ok hw hth htt n2 e) h
end RU1
abbrev EXT : Type := RET ⊕ (Nat × AS)
def joinM {α : Type} (f : α → Option (List EXT)) : List α → Option (List EXT)
  | [] => some []
  | a :: as => (match f a with
    | some x => (match joinM f as with
      | some y => some (x ++ y)
      | none => none)
    | none => none)
theorem joinM_mem {α : Type} {f : α → Option (List EXT)} : ∀ {l : List α} {r : List EXT}, joinM f l = some r → ∀ a ∈ l, ∃ x, f a = some x ∧ ∀ e ∈ x, e ∈ r
  | [], _, _, a, ha => by cases ha
  | b :: l, r, h, a, ha => by
    have h : (match f b with
      | some x => (match joinM f l with
        | some y => some (x ++ y)
        | none => none)
      | none => none) = some r := h
    split at h
    · rename_i x hx
      split at h
      · rename_i y hy
        cases h
        rcases List.mem_cons.mp ha with rfl | ha
        · exact ⟨x, hx, fun e he => List.mem_append_left _ he⟩
        · obtain ⟨z, z1, z2⟩ := joinM_mem hy a ha
          exact ⟨z, z1, fun e he => List.mem_append_right _ (z2 e he)⟩
      · cases h
    · cases h
/-- contracts of the methods, what an opened method writes -/
abbrev XE : Type := (Nat → List Ctr) × (Nat → MDs)
noncomputable def dcA (E : WE) (X : XE) (cal : CAL) (tt : Nat) (m0 m : MDs) (σ : AS) (q : Nat × Bool × List AV × List AV) : Option (List AS) := match X.1 q.1 with
  | [] => inlC E cal tt (X.2 q.1) m0 m σ q.2.2.2 q.2.1 q.1 q.2.2.1
  | cs => tryC (callC E tt m σ q.2.2.2 q.2.1 q.2.2.1) cs
noncomputable def exB (E : WE) (X : XE) (cal : CAL) (tt : Nat) (m0 m : MDs) (M : MD) (stp : Nat → AS → Bool) (n : Nat) : Bool → Nat → AS → Option (List EXT) :=
  Nat.rec (fun _ _ _ => none) (fun _ ih first pc σ => bif !first && stp pc σ then some [.inr (pc, σ)] else (match md_i M pc with
    | none => none
    | some x => match rtA M x σ with
      | some r => some [.inl (r, σ)]
      | none => match clA E tt x σ.2.2.2.1 with
        | some q => (match dcA E X cal tt m0 m σ q with
          | none => none
          | some Ls => joinM (fun s => ih false (pc + 3) s) Ls)
        | none => (match astep E tt (mdF m0) M x pc σ with
          | none => none
          | some L => joinM (fun p => ih false p.1 p.2) L))) n
def allR : List EXT → Option (List RET)
  | [] => some []
  | .inl r :: es => (match allR es with
    | some rs => some (r :: rs)
    | none => none)
  | .inr _ :: _ => none
noncomputable def exM (E : WE) (X : XE) (fu d : Nat) : CAL :=
  Nat.rec (fun _ _ _ _ _ _ _ _ => none) (fun _ ih b tt m0 m cs n args fx => bif Nat.ble (catA args) (md_n (mdOf b)) then (match exB E X ih tt m0 m (mdOf b) (fun _ _ => false) fu true 0 (cs, n, aargs 0 args, [], fx) with
    | some ex => allR ex
    | none => none) else none) d
theorem allR_in : ∀ {es : List EXT} {rs : List RET}, allR es = some rs → (∀ r, (.inl r : EXT) ∈ es → r ∈ rs) ∧ ∀ q, ¬ (.inr q : EXT) ∈ es
  | [], _, h => ⟨fun r hr => (by cases hr), fun q hq => (by cases hq)⟩
  | .inl r :: es, rs, h => by
    have h : (match allR es with
      | some rs => some (r :: rs)
      | none => none) = some rs := h
    split at h
    · rename_i rs' hrs
      cases h
      obtain ⟨k1, k2⟩ := allR_in hrs
      refine ⟨fun r' hr => ?_, fun q hq => ?_⟩
      · rcases List.mem_cons.mp hr with e | hr
        · cases e
          exact List.mem_cons_self
        · exact List.mem_cons_of_mem _ (k1 r' hr)
      · rcases List.mem_cons.mp hq with e | hq
        · cases e
        · exact k2 q hq
    · cases h
  | .inr _ :: _, _, h => by cases h
section RU2
variable {E : WE} {J : List AE → Prop} {X : XE} {th tt d : Nat} {m m0 : MDs} {M : MD} {cal : CAL} {stp : Nat → AS → Bool} {P : Option Value → List AE → Prop}
theorem dcA_ok {q : Nat × Bool × List AV × List AV} {ρ : List Int} {σ : AS} {lv : List (Nat × Value)} {st av vr : List Value} {w : List AE} {Ls : List AS} (hcal : CalOK E J d cal) (hX : ∀ b, ∀ c ∈ X.1 b, Sat E J d b c) (hJS : JS E J m0) (hSB : SB m0 m) (hS : gS E th ρ σ lv st w) (hw : wok E w) (hJ : J w) (hth : E.1 th = tt) (htt : tt ≠ 0) (hav : gvs E th ρ q.2.2.1 av) (hr : gvs E th ρ q.2.2.2 vr)
    (h : dcA E X cal tt m0 m σ q = some Ls) : MEx d q.1 av w (PostL E J th m ρ lv vr w Ls) := by
  unfold dcA at h
  split at h
  · exact inlC_ok hcal hJS hSB hS hw hJ hth htt hav hr h
  · obtain ⟨c, c1, c2⟩ := tryC_ok h
    exact callC_ok (hX q.1 c c1) hS hw hJ hth htt hav hr c2
theorem exB_sound (hcal : CalOK E J d cal) (hX : ∀ b, ∀ c ∈ X.1 b, Sat E J d b c) (hJS : JS E J m0) (hSB : SB m0 m) (hth : E.1 th = tt) (htt : tt ≠ 0) :
    ∀ (n : Nat) (first : Bool) (pc : Nat) (σ : AS) (ρ : List Int) (lv : List (Nat × Value)) (st : List Value) (w : List AE) (ex : List EXT), exB E X cal tt m0 m M stp n first pc σ = some ex → gS E th ρ σ lv st w → wok E w → J w →
      (∀ p : RET, (.inl p : EXT) ∈ ex → ∀ (t : List Int) (r : Option Value) (w' : List AE), gvo E th (ρ ++ t) p.1 r → gcs (ρ ++ t) p.2.1 p.2.2.1 → gfs E th (ρ ++ t) p.2.2.2.2.2.1 w' → ges E th (ρ ++ t) p.2.2.2.2.2.2 w' → wok E w' → J w' → agr E (mdF m) w w' → P r w') →
      (∀ p : Nat × AS, (.inr p : EXT) ∈ ex → stp p.1 p.2 = true → ∀ (t : List Int) (lv' : List (Nat × Value)) (st' : List Value) (w' : List AE), gS E th (ρ ++ t) p.2 lv' st' w' → wok E w' → J w' → agr E (mdF m) w w' → Ex d M p.1 lv' st' w' P) →
      Ex d M pc lv st w P := by
  intro n
  induction n with
  | zero => intro first pc σ ρ lv st w ex h; cases h
  | succ n ih =>
    intro first pc σ ρ lv st w ex h hS hw hJ hret hjmp
    have h : (bif !first && stp pc σ then some [.inr (pc, σ)] else (match md_i M pc with
      | none => none
      | some x => match rtA M x σ with
        | some r => some [.inl (r, σ)]
        | none => match clA E tt x σ.2.2.2.1 with
          | some q => (match dcA E X cal tt m0 m σ q with
            | none => none
            | some Ls => joinM (fun s => exB E X cal tt m0 m M stp n false (pc + 3) s) Ls)
          | none => (match astep E tt (mdF m0) M x pc σ with
            | none => none
            | some L => joinM (fun p => exB E X cal tt m0 m M stp n false p.1 p.2) L))) = some ex := h
    cases hst : (!first && stp pc σ) with
    | true =>
      rw [hst] at h
      cases h
      simp only [Bool.and_eq_true] at hst
      exact hjmp (pc, σ) (List.mem_singleton.mpr rfl) hst.2 [] lv st w (by rw [List.append_nil]; exact hS) hw hJ (agr.rf w)
    | false =>
      rw [hst] at h
      simp only [cond_false] at h
      cases hi : md_i M pc with
      | none => rw [hi] at h; cases h
      | some x =>
        rw [hi] at h
        simp only at h
        cases hrt : rtA M x σ with
        | some r =>
          rw [hrt] at h
          cases h
          obtain ⟨k1, r', k2, k3⟩ := rt_ok (pc := pc) hS hrt
          exact ex_ret hi k1 k2 (hret (r, σ) (List.mem_singleton.mpr rfl) [] r' w (by rw [List.append_nil]; exact k3) (by rw [List.append_nil]; exact hS.1) (by rw [List.append_nil]; exact hS.2.2.2.1) (by rw [List.append_nil]; exact hS.2.2.2.2) hw hJ (agr.rf w))
        | none =>
          rw [hrt] at h
          simp only at h
          have hgo : ∀ (t : List Int) (pc' : Nat) (σ' : AS) (lv' : List (Nat × Value)) (st' : List Value) (w' : List AE) (ex' : List EXT), exB E X cal tt m0 m M stp n false pc' σ' = some ex' → (∀ e ∈ ex', e ∈ ex) → gS E th (ρ ++ t) σ' lv' st' w' → wok E w' → J w' → agr E (mdF m) w w' → Ex d M pc' lv' st' w' P := by
            intro t pc' σ' lv' st' w' ex' e1 e2 e3 e4 e5 e6
            refine ih false pc' σ' (ρ ++ t) lv' st' w' ex' e1 e3 e4 e5 (fun p hp t' r w2 a1 a2 a3 a4 a5 a6 a7 => ?_) (fun p hp hs t' lv2 st2 w2 a1 a2 a3 a4 => ?_)
            · rw [List.append_assoc] at a1 a2 a3 a4
              exact hret p (e2 _ hp) (t ++ t') r w2 a1 a2 a3 a4 a5 a6 (agr.tr e6 a7)
            · rw [List.append_assoc] at a1
              exact hjmp p (e2 _ hp) hs (t ++ t') lv2 st2 w2 a1 a2 a3 (agr.tr e6 a4)
          cases hcl : clA E tt x σ.2.2.2.1 with
          | some q =>
            rw [hcl] at h
            simp only at h
            cases hdc : dcA E X cal tt m0 m σ q with
            | none => rw [hdc] at h; cases h
            | some Ls =>
              rw [hdc] at h
              simp only at h
              obtain ⟨k1, k2, av, vr, k3, k4, k5⟩ := cl_ok2 (M := M) (pc := pc) hS hw hth htt hcl
              refine ex_call hi k1 k2 k3 (dcA_ok hcal hX hJS hSB hS hw hJ hth htt k4 k5 hdc) (fun r w' q => ?_)
              obtain ⟨q1, q2, q3, σ', s1, t, s2⟩ := q
              obtain ⟨ex', x1, x2⟩ := joinM_mem h σ' s1
              exact ⟨q3.1, hgo t (pc + 3) σ' lv (r.toList ++ vr) w' ex' x1 x2 s2 q1 q2 q3⟩
          | none =>
            rw [hcl] at h
            simp only at h
            cases has : astep E tt (mdF m0) M x pc σ with
            | none => rw [has] at h; cases h
            | some L =>
              rw [has] at h
              simp only at h
              obtain ⟨p, p1, t, lv', st', w', o1, o2, o3, o4⟩ := ast_sound (M := M) hS hw hth htt has
              obtain ⟨ex', x1, x2⟩ := joinM_mem h p p1
              exact ex_step hi o1 (hgo t p.1 p.2 lv' st' w' ex' x1 x2 o2 o3 (hJS w w' o4 hJ) (agr.le hSB o4))
theorem exM_ok (hX : ∀ b, ∀ c ∈ X.1 b, Sat E J d b c) (fu : Nat) : ∀ k : Nat, CalOK E J (d + k) (exM E X fu k) := by
  intro k
  induction k with
  | zero => intro b tt m0 m cs n args fx rets h; cases h
  | succ k ih =>
    intro b tt m0 m cs n args fx rets h hJS hSB th ρ av w hth htt hw hJ hc hav hf he
    have h : (bif Nat.ble (catA args) (md_n (mdOf b)) then (match exB E X (exM E X fu k) tt m0 m (mdOf b) (fun _ _ => false) fu true 0 (cs, n, aargs 0 args, [], fx) with
      | some ex => allR ex
      | none => none) else none) = some rets := h
    cases hb : Nat.ble (catA args) (md_n (mdOf b)) with
    | false => rw [hb] at h; cases h
    | true =>
      rw [hb] at h
      simp only [cond_true] at h
      split at h
      · rename_i ex hex
        obtain ⟨r1, r2⟩ := allR_in h
        refine mex_of (by rw [sl_cat, cat_ok hav]; exact Nat.le_of_ble_eq_true hb) ?_
        refine exB_sound ih (fun b c hc' => fun th av w a1 a2 a3 a4 a5 a6 a7 => mex_up (Nat.le_add_right d k) (hX b c hc' th av w a1 a2 a3 a4 a5 a6 a7)) hJS hSB hth htt fu true 0 _ ρ (lv_args 0 av) [] w ex hex ⟨hc, glv_args 0 hav, trivial, hf, he⟩ hw hJ (fun p hp t r w' a1 a2 a3 a4 a5 a6 a7 => ?_) (fun p hp => absurd hp (r2 p))
        exact ⟨a5, a6, a7, p, r1 p hp, t, a1, a2, a3, a4⟩
      · cases h
end RU2
