/-- a contract's start and end -/
def PRE (X : CX) (ad : Nat → Nat) (w : List AE) (sz : Nat) (U : State) : Prop := U.heap.size = sz ∧ va_P (X.1, X.2.1) vwCl (rwW X ad w) U.heap ∧ va_D (fun _ => True) (rwW X ad w) ∧ EV X (va_A (rwW X ad w) sz) U
def QQ (X : CX) (n0 : Nat) (ad0 : Nat → Nat) (A : Nat → Prop) (Post : Option Value → List AE → Prop) : Array Value → State → Outcome → State → Prop := fun _ st oc t =>
  (∃ (r : Option Value) (w' : List AE) (ad' : Nat → Nat), (∀ k, (k < n0 ∨ w'.length ≤ k) → ad' k = ad0 k) ∧ n0 ≤ w'.length ∧ exOk X ad' ∧ oc = .returned (r.map (avc ad')) ∧ Post r w' ∧ va_P (X.1, X.2.1) vwCl (rwW X ad' w') t.heap ∧ va_D A (rwW X ad' w')) ∧ va_F A st t
abbrev rmA (d mc ms : Nat) : Room := { frames := d, cells := mc, slots := ms, locals := 80 * d }
/-- a method's contract in the abstract machine: from these arguments and cells it ends with Post, d frames deep, with mc new cells of ms slots -/
def AMet (X : CX) (l : Launch) (M : MD) (d mc ms : Nat) (av : List Value) (w : List AE) (Post : Option Value → List AE → Prop) : Prop :=
  ∀ (ad : Nat → Nat) (sz : Nat), exOk X ad → Met l (md_y M) (wsOf M) (rmA d mc ms) (va_Pc (av.map (avc ad)) (PRE X ad w sz)) (QQ X w.length ad (va_A (rwW X ad w) sz) Post) mc ms (va_A (rwW X ad w) sz)
theorem pre_blind {X : CX} {ad : Nat → Nat} {w : List AE} {sz : Nat} {av : List Value} : FrameBlind (va_Pc av (PRE X ad w sz)) := by
  intro a U g mk q
  obtain ⟨q0, q1, q2, q3, q4⟩ := q
  exact ⟨q0, q1, q2, q3, EV.blind (U := U) (V := U.calling g mk a) rfl rfl q4⟩
section SO7
variable {X : CX} {l : Launch} {M M' : MD} {R : Room} {p : Program} {e : Env} {s : State} {m : MethodId} {args : Array Value} {below : List Frame} {meth : Method} {c : Code} {A : Nat → Prop} {Q : State → Prop} {n0 : Nat} {ad0 : Nat → Nat} {pc : Nat} {lv : List (Nat × Value)} {st : List Value} {w : List AE} {a b : Nat} {z : ST} {d mc ms d' mc' ms' : Nat} {Post Post' : Option Value → List AE → Prop}
theorem amet_of {av : List Value} (hM : mdB M = true) (hd : 1 ≤ d) (hsl : (lg_sl av).length ≤ md_n M)
    (h : ∀ (p : Program) (e : Env) (s : State) (m : MethodId) (vs : Array Value) (below : List Frame) (meth : Method) (c : Code) (A : Nat → Prop) (ad : Nat → Nat), MF X M (rmA d mc ms) p s m vs meth c A → AW X l M (rmA d mc ms) p e s m vs below meth c A (MQ below (QQ X w.length ad A Post) vs s mc ms A) w.length ad 0 (lv_args 0 av) [] w 0 0) : AMet X l M d mc ms av w Post := by
  intro ad sz hex
  refine Met.ofW (cc := md_c M) (maxL := md_n M) (ret := md_r M) (md_words hM).2.2.1 rfl ?_
  intro p e s m vs below meth c s₁ B hml hv
  obtain ⟨rfl, hsz, hP, hD0, hEV⟩ := hv
  subst hsz
  have hts := atoms_spec (ws := wsOf M) B.pre
  have hown : s.vm.findClass (md_y M).cls = some m.cls := findClass_of_methodNamed B.named
  have hF : MF X M (rmA d mc ms) p s m (av.map (avc ad)).toArray meth c (va_A (rwW X ad w) s.heap.size) :=
    ⟨B.exec, B.bytes, B.returns, hml, by rw [← (md_words hM).2.2.2.1]; exact hown, fun w hw => hts w (List.mem_cons_of_mem _ hw), B.notSynchronized, hEV, fun q h => Or.inr h, (name_of_methodNamed B.named B.method).1, fun _ _ hx => md_at hM hx, hd, by show 80 ≤ 80 * d; omega⟩
  have hD := hD0.self (sz := s.heap.size)
  have hl := lv_entry (av.map (avc ad)) (n := md_n M) (by rw [sl_c]; exact hsl)
  rw [lg_entry_eq]
  generalize (lg_sl (av.map (avc ad)) ++ List.replicate (md_n M - (lg_sl (av.map (avc ad))).length) Slot.unset).toArray = ls at hl ⊢
  rw [args_c] at hl
  exact h p e s m _ below meth c _ ad hF s.heap [] ls ad (fun _ _ => rfl) (Nat.le_refl _) hex hP hD va_S.rf hl
theorem aw_vret {t : Nat × Nat × Nat × Nat} (F : MF X M R p s m args meth c A) (hi : md_i M pc = some (.return_, 1, t)) (hret : md_r M = none) (hab : a ≤ mc ∧ b ≤ ms) (hp : Post none w) : AW X l M R p e s m args below meth c A (MQ below (QQ X n0 ad0 A Post) args s mc ms A) n0 ad0 pc lv [] w a b := by
  obtain ⟨hd, -⟩ := F.2.2.2.2.2.2.2.2.2.2.1 _ _ hi
  have hlocks : meth.locks = false := F.2.2.2.2.2.2.1
  intro H locs ls ad g1 g2 g3 hP hD hS hl
  refine W.widen hab.1 hab.2 ?_
  exact W.vret F.1 F.2.1 (by rw [F.2.2.1]; exact hret) (fun t ht hW => ⟨⟨none, w, ad, g1, g2, g3, rfl, hp, by rw [ht]; exact hP, hD⟩, hS.F ht⟩) hS.2.2 hd
theorem aw_iret {t : Nat × Nat × Nat × Nat} {v : Int32} {ty : FieldType} (F : MF X M R p s m args meth c A) (hi : md_i M pc = some (.ireturn, 1, t)) (hret : md_r M = some ty) (hn : narrow ty (.int v) = .int v) (hab : a ≤ mc ∧ b ≤ ms) (hp : Post (some (.int v)) w) : AW X l M R p e s m args below meth c A (MQ below (QQ X n0 ad0 A Post) args s mc ms A) n0 ad0 pc lv [.int v] w a b := by
  obtain ⟨hd, -⟩ := F.2.2.2.2.2.2.2.2.2.2.1 _ _ hi
  have hlocks : meth.locks = false := F.2.2.2.2.2.2.1
  intro H locs ls ad g1 g2 g3 hP hD hS hl
  refine W.widen hab.1 hab.2 ?_
  exact W.zret F.1 F.2.1 (by rw [F.2.2.1]; exact hret) hn (fun t ht hW => ⟨⟨some (.int v), w, ad, g1, g2, g3, rfl, hp, by rw [ht]; exact hP, hD⟩, hS.F ht⟩) hS.2.2 hd
theorem aw_lret {t : Nat × Nat × Nat × Nat} {v : Int64} (F : MF X M R p s m args meth c A) (hi : md_i M pc = some (.lreturn, 1, t)) (hret : md_r M = some .long) (hab : a ≤ mc ∧ b ≤ ms) (hp : Post (some (.long v)) w) : AW X l M R p e s m args below meth c A (MQ below (QQ X n0 ad0 A Post) args s mc ms A) n0 ad0 pc lv [.long v] w a b := by
  obtain ⟨hd, -⟩ := F.2.2.2.2.2.2.2.2.2.2.1 _ _ hi
  have hlocks : meth.locks = false := F.2.2.2.2.2.2.1
  intro H locs ls ad g1 g2 g3 hP hD hS hl
  refine W.widen hab.1 hab.2 ?_
  exact W.lret F.1 F.2.1 (by rw [F.2.2.1]; exact hret) (fun t ht hW => ⟨⟨some (.long v), w, ad, g1, g2, g3, rfl, hp, by rw [ht]; exact hP, hD⟩, hS.F ht⟩) hS.2.2 hd
theorem aw_aret {t : Nat × Nat × Nat × Nat} {o : Nat} {nm : String} (F : MF X M R p s m args meth c A) (hi : md_i M pc = some (.areturn, 1, t)) (hret : md_r M = some (.object nm)) (hab : a ≤ mc ∧ b ≤ ms) (hp : Post (some (.ref o)) w) : AW X l M R p e s m args below meth c A (MQ below (QQ X n0 ad0 A Post) args s mc ms A) n0 ad0 pc lv [.ref o] w a b := by
  obtain ⟨hd, -⟩ := F.2.2.2.2.2.2.2.2.2.2.1 _ _ hi
  have hlocks : meth.locks = false := F.2.2.2.2.2.2.1
  intro H locs ls ad g1 g2 g3 hP hD hS hl
  refine W.widen hab.1 hab.2 ?_
  exact W.aret F.1 F.2.1 (by rw [F.2.2.1]; exact hret) (Or.inl ⟨nm, rfl⟩) (Or.inr ⟨ad o, rfl⟩) (fun t ht hW => ⟨⟨some (.ref o), w, ad, g1, g2, g3, rfl, hp, by rw [ht]; exact hP, hD⟩, hS.F ht⟩) hS.2.2 hd
/-- behind a call -/
theorem aw_cont {H : Heap} {locs : List Loc} {ls : Array Slot} {ad : Nat → Nat} {st0 rest : List Value} {av : Array Value}
    (hr : va_Run p l e R s m args below meth c H locs a b mc' ms' (F0 m pc ls st0) (rest.map (avc ad)) (QQ X w.length ad (va_A (rwW X ad w) H.size) Post' av) (va_A (rwW X ad w) H.size)) (hAs : ∀ q, s.heap.size ≤ q → A q)
    (g1 : ∀ k, (k < n0 ∨ w.length ≤ k) → ad k = ad0 k) (g2 : n0 ≤ w.length) (hD : va_D A (rwW X ad w)) (hS : va_S A s.heap H locs) (hl : lv_has ls (md_n M) (lv.map (lvc ad)))
    (hk : ∀ r w', Post' r w' → (w'.length = w.length ∨ (lv.all (fun q => okv w.length w'.length q.2) = true ∧ rest.all (okv w.length w'.length) = true)) ∧ AW X l M R p e s m args below meth c A Q n0 ad0 (pc + 3) lv (r.toList ++ rest) w' (a + mc') (b + ms')) :
    W p l e R s m args below meth c H locs a b Q (F0 m pc ls st0) := by
  have hA : ∀ q, va_A (rwW X ad w) H.size q → A q := fun q hq => by
    rcases hq with ⟨k, e0, h0⟩ | h0
    · exact hD.2 k _ h0
    · exact hAs q (Nat.le_trans hS.1 h0)
  intro T hT X0
  obtain ⟨v, st₀, t, T', L, h0, X', hL, e1, e2, ⟨⟨r, w', ad', q1, q2, q3, hv, hp, hP', hD'⟩, hz, hkp⟩, st⟩ := hr T hT X0
  have hv : v = r.map (avc ad') := by cases hv; rfl
  subst hv
  rw [h0] at hz hkp
  obtain ⟨hwf, hW⟩ := hk r w' hp
  have hadl : lv.map (lvc ad') = lv.map (lvc ad) ∧ rest.map (avc ad') = rest.map (avc ad) := by
    rcases hwf with hwf | hwf
    · have : ad' = ad := funext fun k => q1 k (by omega)
      rw [this]; exact ⟨rfl, rfl⟩
    · exact ⟨lvl_ok q1 hwf.1, avl_ok q1 hwf.2⟩
  have hS' : va_S A s.heap T'.heap (locs ++ L) := ⟨Nat.le_trans hS.1 (by rw [e1]; exact hz), fun q h1 h2 => by rw [e1, hkp q (Nat.lt_of_lt_of_le h1 hS.1) (fun z => h2 (hA q z))]; exact hS.2.1 q h1 h2, fun q hq => by
      rcases List.mem_append.mp hq with h | h
      · exact hS.2.2 q h
      · exact hA _ (hL q h)⟩
  obtain ⟨t2, a1, b1⟩ := hW T'.heap (locs ++ L) ls ad' (fun k hk' => by
      rw [q1 k (by omega)]; exact g1 k (by omega)) (by omega) q3 (by rw [e1]; exact hP') (hD'.weaken (fun _ _ _ h => hA _ h)) hS' (by rw [hadl.1]; exact hl) T' rfl X'
  refine ⟨t2, st t2 ?_, b1⟩
  rw [List.map_append, hadl.2] at a1
  rw [show (r.toList.map (avc ad')) = (r.map (avc ad')).toList by cases r <;> rfl] at a1
  exact a1
/-- what a callee finds -/
theorem pre_call {H : Heap} {locs : List Loc} {ad : Nat → Nat} {av : List Value} (hEV : EV X A s) (hAs : ∀ q, s.heap.size ≤ q → A q) (hP : va_P (X.1, X.2.1) vwCl (rwW X ad w) H) (hD : va_D A (rwW X ad w)) (hS : va_S A s.heap H locs) : ∀ U : State, U.heap = H → s.WarmedH U.vm → va_Pc av (PRE X ad w H.size) av.toArray U := by
  intro U hU hW
  refine ⟨rfl, by rw [hU], by rw [hU]; exact hP, hD.weaken (fun _ _ _ _ => trivial), hEV.call hW (by rw [hU]; exact hS) (fun q hq => ?_)⟩
  rcases hq with ⟨k, e0, h0⟩ | h0
  · exact hD.2 k _ h0
  · exact hAs q (Nat.le_trans hS.1 h0)
theorem clN_vw {k : Nat} (h : k < 13) : ∃ q : vw_C, vwCl[k]? = some q ∧ q.1 = clN k := by
  match k, h with
  | 0, _ => exact ⟨_, rfl, rfl⟩
  | 1, _ => exact ⟨_, rfl, rfl⟩
  | 2, _ => exact ⟨_, rfl, rfl⟩
  | 3, _ => exact ⟨_, rfl, rfl⟩
  | 4, _ => exact ⟨_, rfl, rfl⟩
  | 5, _ => exact ⟨_, rfl, rfl⟩
  | 6, _ => exact ⟨_, rfl, rfl⟩
  | 7, _ => exact ⟨_, rfl, rfl⟩
  | 8, _ => exact ⟨_, rfl, rfl⟩
  | 9, _ => exact ⟨_, rfl, rfl⟩
  | 10, _ => exact ⟨_, rfl, rfl⟩
  | 11, _ => exact ⟨_, rfl, rfl⟩
  | 12, _ => exact ⟨_, rfl, rfl⟩
/-- the receiver is an object of the method's class: one of ours, or a text -/
def rcB (M' : MD) (w : List AE) (o : Nat) : Bool := (match w[o]? with
  | some (.inr (.inr (.inr (ci, _)))) => Nat.beq ci (md_k M') && Nat.blt ci 13
  | some _ => false
  | none => (Nat.beq o 1000000 || Nat.beq o 1000001) && decide ((md_y M').cls = "java/lang/String"))
theorem rc_ok {H : Heap} {locs : List Loc} {ad : Nat → Nat} {o : Nat} (hM' : mdB M' = true) (h : rcB M' w o = true) (hEV : EV X A s) (g3 : exOk X ad) (hP : va_P (X.1, X.2.1) vwCl (rwW X ad w) H) (hS : va_S A s.heap H locs) : ∃ cell : Cell, H[ad o]? = some cell ∧ cell.vm.isStatics = false ∧ s.vm.findClass (md_y M').cls = some cell.cls := by
  unfold rcB at h
  split at h
  · rename_i ci fs hw
    simp only [Bool.and_eq_true] at h
    have e1 := Nat.eq_of_beq_eq_true h.1
    have h2 : ci < 13 := Nat.le_of_ble_eq_true h.2
    obtain ⟨q, hq, hq1⟩ := clN_vw h2
    rw [(md_words hM').2.2.2.1, ← e1, ← hq1]
    exact va_recv hEV.1 hP hq (rw_get hw)
  · cases h
  · simp only [Bool.and_eq_true, Bool.or_eq_true, decide_eq_true_eq] at h
    rw [h.2]
    obtain ⟨i, hi, ei⟩ : ∃ i, i < 2 ∧ ad o = X.2.2.2.1 i := by
      rcases h.1 with q | q
      · exact ⟨0, by decide, by rw [Nat.eq_of_beq_eq_true q]; exact g3.1 0 (by decide)⟩
      · exact ⟨1, by decide, by rw [Nat.eq_of_beq_eq_true q]; exact g3.1 1 (by decide)⟩
    rw [ei]
    exact vk_recv hEV.2.2.2.2.2.2.1 hi hS
end SO7
