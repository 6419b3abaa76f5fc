section SO
variable {X : CX} {l : Launch} {M : MD} {R : Room} {p : Program} {e : Env} {s : State} {m : MethodId} {args : Array Value} {below : List Frame} {meth : Method} {c : Code} {A : Nat → Prop} {Q : State → Prop} {n0 : Nat} {ad0 : Nat → Nat} {pc : Nat} {lv : List (Nat × Value)} {st : List Value} {w : List AE} {a b : Nat} {z : ST}
theorem pu_sp {n : Nat} {o : Option (List Value)} (h : pu pc n lv w o = some z) : ∃ st', o = some st' ∧ z = (pc + n, lv, st', w, 0, 0) := by
  cases o with
  | none => cases h
  | some st' => exact ⟨st', rfl, (Option.some.inj h).symm⟩
theorem b32_sp {f : Int32 → Int32 → Int32} {st' : List Value} (h : b32 f st = some st') : ∃ x y r, st = .int y :: .int x :: r ∧ st' = .int (f x y) :: r := by
  unfold b32 at h
  split at h
  · exact ⟨_, _, _, rfl, (Option.some.inj h).symm⟩
  · cases h
theorem b32n_sp {f : Int32 → Int32 → Int32} {st' : List Value} (h : b32n f st = some st') : ∃ x y r, st = .int y :: .int x :: r ∧ st' = .int (f x y) :: r ∧ ¬ y = 0 := by
  unfold b32n at h
  split at h
  · split at h
    · cases h
    · rename_i hy; exact ⟨_, _, _, rfl, (Option.some.inj h).symm, hy⟩
  · cases h
theorem u32_sp {f : Int32 → Int32} {st' : List Value} (h : u32 f st = some st') : ∃ x r, st = .int x :: r ∧ st' = .int (f x) :: r := by
  unfold u32 at h
  split at h
  · exact ⟨_, _, rfl, (Option.some.inj h).symm⟩
  · cases h
theorem b64_sp {f : Int64 → Int64 → Int64} {st' : List Value} (h : b64 f st = some st') : ∃ x y r, st = .long y :: .long x :: r ∧ st' = .long (f x y) :: r := by
  unfold b64 at h
  split at h
  · exact ⟨_, _, _, rfl, (Option.some.inj h).symm⟩
  · cases h
theorem s64_sp {f : Int64 → Int32 → Int64} {st' : List Value} (h : s64 f st = some st') : ∃ x y r, st = .int y :: .long x :: r ∧ st' = .long (f x y) :: r := by
  unfold s64 at h
  split at h
  · exact ⟨_, _, _, rfl, (Option.some.inj h).symm⟩
  · cases h
theorem c64_sp {st' : List Value} (h : c64 st = some st') : ∃ x y r, st = .long y :: .long x :: r ∧ st' = .int (lg_cmp x y) :: r := by
  unfold c64 at h
  split at h
  · exact ⟨_, _, _, rfl, (Option.some.inj h).symm⟩
  · cases h
theorem i2L_sp {st' : List Value} (h : i2L st = some st') : ∃ x r, st = .int x :: r ∧ st' = .long x.toInt64 :: r := by
  unfold i2L at h
  split at h
  · exact ⟨_, _, rfl, (Option.some.inj h).symm⟩
  · cases h
theorem l2I_sp {st' : List Value} (h : l2I st = some st') : ∃ x r, st = .long x :: r ∧ st' = .int x.toInt32 :: r := by
  unfold l2I at h
  split at h
  · exact ⟨_, _, rfl, (Option.some.inj h).symm⟩
  · cases h
theorem ldI_sp {i : Nat} {st' : List Value} (h : ldI lv i st = some st') : ∃ x, lvget lv i = some (.int x) ∧ st' = .int x :: st := by
  unfold ldI at h
  split at h
  · exact ⟨_, by assumption, (Option.some.inj h).symm⟩
  · cases h
theorem ldL_sp {i : Nat} {st' : List Value} (h : ldL lv i st = some st') : ∃ x, lvget lv i = some (.long x) ∧ st' = .long x :: st := by
  unfold ldL at h
  split at h
  · exact ⟨_, by assumption, (Option.some.inj h).symm⟩
  · cases h
theorem ldA_sp {i : Nat} {st' : List Value} (h : ldA lv i st = some st') : ∃ x, lvget lv i = some (.ref x) ∧ st' = .ref x :: st := by
  unfold ldA at h
  split at h
  · exact ⟨_, by assumption, (Option.some.inj h).symm⟩
  · cases h
abbrev AWn (X : CX) (l : Launch) (M : MD) (R : Room) (p : Program) (e : Env) (s : State) (m : MethodId) (args : Array Value) (below : List Frame) (meth : Method) (c : Code) (A : Nat → Prop) (Q : State → Prop) (n0 : Nat) (ad0 : Nat → Nat) (a b : Nat) (z : ST) : Prop := AW X l M R p e s m args below meth c A Q n0 ad0 z.1 z.2.1 z.2.2.1 z.2.2.2.1 (a + z.2.2.2.2.1) (b + z.2.2.2.2.2)
theorem so_push {n : Nat} {v : Value} {ins : Instr} (F : MF X M R p s m args meth c A) (hx : decode (md_c M) pc = .ok (ins, n)) (hv : ∀ ad, avc ad v = v)
    (row : ∀ (H : Heap) (locs : List Loc) (ls : Array Slot) (rest : List Value), W p l e R s m args below meth c H locs a b Q (F0 m (pc + n) ls (v :: rest)) → W p l e R s m args below meth c H locs a b Q (F0 m pc ls rest))
    (hs : pu pc n lv w (some (v :: st)) = some z) (h : AWn X l M R p e s m args below meth c A Q n0 ad0 a b z) : AW X l M R p e s m args below meth c A Q n0 ad0 pc lv st w a b := by
  obtain ⟨st', h1, rfl⟩ := pu_sp hs
  cases h1
  intro H locs ls ad g1 g2 g3 hP hD hS hl
  have k := h H locs ls ad g1 g2 g3 hP hD hS hl
  rw [List.map_cons, hv] at k
  exact row H locs ls _ k
theorem so_b32 {f : Int32 → Int32 → Int32}
    (row : ∀ (H : Heap) (locs : List Loc) (ls : Array Slot) (x y : Int32) (rest : List Value), W p l e R s m args below meth c H locs a b Q (F0 m (pc + 1) ls (.int (f x y) :: rest)) → W p l e R s m args below meth c H locs a b Q (F0 m pc ls (.int y :: .int x :: rest)))
    (hs : pu pc 1 lv w (b32 f st) = some z) (h : AWn X l M R p e s m args below meth c A Q n0 ad0 a b z) : AW X l M R p e s m args below meth c A Q n0 ad0 pc lv st w a b := by
  obtain ⟨st', h1, rfl⟩ := pu_sp hs
  obtain ⟨x, y, r, rfl, rfl⟩ := b32_sp h1
  intro H locs ls ad g1 g2 g3 hP hD hS hl
  exact row H locs ls x y _ (h H locs ls ad g1 g2 g3 hP hD hS hl)
theorem so_b32n {f : Int32 → Int32 → Int32}
    (row : ∀ (H : Heap) (locs : List Loc) (ls : Array Slot) (x y : Int32) (rest : List Value), ¬ y = 0 → W p l e R s m args below meth c H locs a b Q (F0 m (pc + 1) ls (.int (f x y) :: rest)) → W p l e R s m args below meth c H locs a b Q (F0 m pc ls (.int y :: .int x :: rest)))
    (hs : pu pc 1 lv w (b32n f st) = some z) (h : AWn X l M R p e s m args below meth c A Q n0 ad0 a b z) : AW X l M R p e s m args below meth c A Q n0 ad0 pc lv st w a b := by
  obtain ⟨st', h1, rfl⟩ := pu_sp hs
  obtain ⟨x, y, r, rfl, rfl, hy⟩ := b32n_sp h1
  intro H locs ls ad g1 g2 g3 hP hD hS hl
  exact row H locs ls x y _ hy (h H locs ls ad g1 g2 g3 hP hD hS hl)
theorem so_u32 {f : Int32 → Int32}
    (row : ∀ (H : Heap) (locs : List Loc) (ls : Array Slot) (x : Int32) (rest : List Value), W p l e R s m args below meth c H locs a b Q (F0 m (pc + 1) ls (.int (f x) :: rest)) → W p l e R s m args below meth c H locs a b Q (F0 m pc ls (.int x :: rest)))
    (hs : pu pc 1 lv w (u32 f st) = some z) (h : AWn X l M R p e s m args below meth c A Q n0 ad0 a b z) : AW X l M R p e s m args below meth c A Q n0 ad0 pc lv st w a b := by
  obtain ⟨st', h1, rfl⟩ := pu_sp hs
  obtain ⟨x, r, rfl, rfl⟩ := u32_sp h1
  intro H locs ls ad g1 g2 g3 hP hD hS hl
  exact row H locs ls x _ (h H locs ls ad g1 g2 g3 hP hD hS hl)
theorem so_b64 {f : Int64 → Int64 → Int64}
    (row : ∀ (H : Heap) (locs : List Loc) (ls : Array Slot) (x y : Int64) (rest : List Value), W p l e R s m args below meth c H locs a b Q (F0 m (pc + 1) ls (.long (f x y) :: rest)) → W p l e R s m args below meth c H locs a b Q (F0 m pc ls (.long y :: .long x :: rest)))
    (hs : pu pc 1 lv w (b64 f st) = some z) (h : AWn X l M R p e s m args below meth c A Q n0 ad0 a b z) : AW X l M R p e s m args below meth c A Q n0 ad0 pc lv st w a b := by
  obtain ⟨st', h1, rfl⟩ := pu_sp hs
  obtain ⟨x, y, r, rfl, rfl⟩ := b64_sp h1
  intro H locs ls ad g1 g2 g3 hP hD hS hl
  exact row H locs ls x y _ (h H locs ls ad g1 g2 g3 hP hD hS hl)
theorem so_s64 {f : Int64 → Int32 → Int64}
    (row : ∀ (H : Heap) (locs : List Loc) (ls : Array Slot) (x : Int64) (y : Int32) (rest : List Value), W p l e R s m args below meth c H locs a b Q (F0 m (pc + 1) ls (.long (f x y) :: rest)) → W p l e R s m args below meth c H locs a b Q (F0 m pc ls (.int y :: .long x :: rest)))
    (hs : pu pc 1 lv w (s64 f st) = some z) (h : AWn X l M R p e s m args below meth c A Q n0 ad0 a b z) : AW X l M R p e s m args below meth c A Q n0 ad0 pc lv st w a b := by
  obtain ⟨st', h1, rfl⟩ := pu_sp hs
  obtain ⟨x, y, r, rfl, rfl⟩ := s64_sp h1
  intro H locs ls ad g1 g2 g3 hP hD hS hl
  exact row H locs ls x y _ (h H locs ls ad g1 g2 g3 hP hD hS hl)
theorem so_ldI {n i : Nat}
    (row : ∀ (H : Heap) (locs : List Loc) (ls : Array Slot) (x : Int32) (rest : List Value), ls[i]? = some (.val (.int x)) → W p l e R s m args below meth c H locs a b Q (F0 m (pc + n) ls (.int x :: rest)) → W p l e R s m args below meth c H locs a b Q (F0 m pc ls rest))
    (hs : pu pc n lv w (ldI lv i st) = some z) (h : AWn X l M R p e s m args below meth c A Q n0 ad0 a b z) : AW X l M R p e s m args below meth c A Q n0 ad0 pc lv st w a b := by
  obtain ⟨st', h1, rfl⟩ := pu_sp hs
  obtain ⟨x, h2, rfl⟩ := ldI_sp h1
  intro H locs ls ad g1 g2 g3 hP hD hS hl
  exact row H locs ls x _ (lvget_at hl h2) (h H locs ls ad g1 g2 g3 hP hD hS hl)
theorem so_ldL {n i : Nat}
    (row : ∀ (H : Heap) (locs : List Loc) (ls : Array Slot) (x : Int64) (rest : List Value), ls[i]? = some (.val (.long x)) → W p l e R s m args below meth c H locs a b Q (F0 m (pc + n) ls (.long x :: rest)) → W p l e R s m args below meth c H locs a b Q (F0 m pc ls rest))
    (hs : pu pc n lv w (ldL lv i st) = some z) (h : AWn X l M R p e s m args below meth c A Q n0 ad0 a b z) : AW X l M R p e s m args below meth c A Q n0 ad0 pc lv st w a b := by
  obtain ⟨st', h1, rfl⟩ := pu_sp hs
  obtain ⟨x, h2, rfl⟩ := ldL_sp h1
  intro H locs ls ad g1 g2 g3 hP hD hS hl
  exact row H locs ls x _ (lvget_at hl h2) (h H locs ls ad g1 g2 g3 hP hD hS hl)
theorem so_ldA {n i : Nat}
    (row : ∀ (H : Heap) (locs : List Loc) (ls : Array Slot) (x : Nat) (rest : List Value), ls[i]? = some (.val (.ref x)) → W p l e R s m args below meth c H locs a b Q (F0 m (pc + n) ls (.ref x :: rest)) → W p l e R s m args below meth c H locs a b Q (F0 m pc ls rest))
    (hs : pu pc n lv w (ldA lv i st) = some z) (h : AWn X l M R p e s m args below meth c A Q n0 ad0 a b z) : AW X l M R p e s m args below meth c A Q n0 ad0 pc lv st w a b := by
  obtain ⟨st', h1, rfl⟩ := pu_sp hs
  obtain ⟨x, h2, rfl⟩ := ldA_sp h1
  intro H locs ls ad g1 g2 g3 hP hD hS hl
  exact row H locs ls (ad x) _ (lvget_at hl h2) (h H locs ls ad g1 g2 g3 hP hD hS hl)
theorem so_stI {n i : Nat}
    (row : ∀ (H : Heap) (locs : List Loc) (ls : Array Slot) (x : Int32) (rest : List Value) (lc lc' : List (Nat × Value)), lv_has ls (md_n M) lc → i < md_n M → (i, Value.int x) :: lc.filter (fun q => !(q.1 == i) && !(q.1 + 1 == i && q.2.category == 2)) = lc' → (∀ ls' : Array Slot, lv_has ls' (md_n M) lc' → W p l e R s m args below meth c H locs a b Q (F0 m (pc + n) ls' rest)) → W p l e R s m args below meth c H locs a b Q (F0 m pc ls (.int x :: rest)))
    (hs : stI (md_n M) pc n lv i st w = some z) (h : AWn X l M R p e s m args below meth c A Q n0 ad0 a b z) : AW X l M R p e s m args below meth c A Q n0 ad0 pc lv st w a b := by
  unfold stI at hs
  split at hs
  · split at hs
    · rename_i x r hi
      cases hs
      intro H locs ls ad g1 g2 g3 hP hD hS hl
      exact row H locs ls x _ _ _ hl hi (lvset_c (v := .int x)) (fun ls' hl' => h H locs ls' ad g1 g2 g3 hP hD hS hl')
    · cases hs
  · cases hs
theorem so_stL {n i : Nat}
    (row : ∀ (H : Heap) (locs : List Loc) (ls : Array Slot) (x : Int64) (rest : List Value) (lc lc' : List (Nat × Value)), lv_has ls (md_n M) lc → i + 1 < md_n M → (i, Value.long x) :: lc.filter (fun q => !(q.1 == i) && (!(q.1 == i + 1) && !(q.1 + 1 == i && q.2.category == 2))) = lc' → (∀ ls' : Array Slot, lv_has ls' (md_n M) lc' → W p l e R s m args below meth c H locs a b Q (F0 m (pc + n) ls' rest)) → W p l e R s m args below meth c H locs a b Q (F0 m pc ls (.long x :: rest)))
    (hs : stL (md_n M) pc n lv i st w = some z) (h : AWn X l M R p e s m args below meth c A Q n0 ad0 a b z) : AW X l M R p e s m args below meth c A Q n0 ad0 pc lv st w a b := by
  unfold stL at hs
  split at hs
  · split at hs
    · rename_i x r hi
      cases hs
      intro H locs ls ad g1 g2 g3 hP hD hS hl
      exact row H locs ls x _ _ _ hl hi (lvset2_c (v := .long x)) (fun ls' hl' => h H locs ls' ad g1 g2 g3 hP hD hS hl')
    · cases hs
  · cases hs
theorem so_stA {n i : Nat}
    (row : ∀ (H : Heap) (locs : List Loc) (ls : Array Slot) (x : Nat) (rest : List Value) (lc lc' : List (Nat × Value)), lv_has ls (md_n M) lc → i < md_n M → (i, Value.ref x) :: lc.filter (fun q => !(q.1 == i) && !(q.1 + 1 == i && q.2.category == 2)) = lc' → (∀ ls' : Array Slot, lv_has ls' (md_n M) lc' → W p l e R s m args below meth c H locs a b Q (F0 m (pc + n) ls' rest)) → W p l e R s m args below meth c H locs a b Q (F0 m pc ls (.ref x :: rest)))
    (hs : stA (md_n M) pc n lv i st w = some z) (h : AWn X l M R p e s m args below meth c A Q n0 ad0 a b z) : AW X l M R p e s m args below meth c A Q n0 ad0 pc lv st w a b := by
  unfold stA at hs
  split at hs
  · split at hs
    · rename_i x r hi
      cases hs
      intro H locs ls ad g1 g2 g3 hP hD hS hl
      exact row H locs ls (ad x) _ _ _ hl hi (lvset_c (v := .ref x)) (fun ls' hl' => h H locs ls' ad g1 g2 g3 hP hD hS hl')
    · cases hs
  · cases hs
theorem so_iinc {i : Nat} {n : Int} (F : MF X M R p s m args meth c A) (hx : decode (md_c M) pc = .ok (.iinc i n, 3)) (hs : icS (md_n M) pc lv i n st w = some z) (h : AWn X l M R p e s m args below meth c A Q n0 ad0 a b z) : AW X l M R p e s m args below meth c A Q n0 ad0 pc lv st w a b := by
  unfold icS at hs
  split at hs
  · split at hs
    · rename_i x hg hi
      cases hs
      intro H locs ls ad g1 g2 g3 hP hD hS hl
      have hm : ∃ k : Nat, (lv.map (lvc ad))[k]? = some (i, Value.int x) := by
        unfold lvget at hg
        cases hf : lv.find? (fun q => Nat.beq q.1 i) with
        | none => rw [hf] at hg; cases hg
        | some q =>
          rw [hf] at hg
          have h1 : q.2 = .int x := Option.some.inj hg
          have h3 : q.1 = i := Nat.eq_of_beq_eq_true (by have := List.find?_some hf; simpa using this)
          obtain ⟨k, hk⟩ := List.mem_iff_getElem?.mp (List.mem_of_find?_eq_some hf)
          refine ⟨k, ?_⟩
          rw [List.getElem?_map, hk]
          show some (q.1, avc ad q.2) = _
          rw [h1, h3]
          rfl
      obtain ⟨k, hk⟩ := hm
      exact lv_iinc F.1 F.2.1 hx hl hk rfl hi (lvset_c (v := .int (x + Int32.ofInt n))) (fun ls' hl' => h H locs ls' ad g1 g2 g3 hP hD hS hl')
    · cases hs
  · cases hs
theorem tg_sp {off : Int} (hs : tgS pc off lv st w = some z) : ∃ t : Nat, (pc : Int) + off = (t : Int) ∧ z = (t, lv, st, w, 0, 0) := by
  unfold tgS at hs
  split at hs
  · rename_i h0
    exact ⟨((pc : Int) + off).toNat, (Int.toNat_of_nonneg h0).symm, (Option.some.inj hs).symm⟩
  · cases hs
theorem so_goto {off : Int} (F : MF X M R p s m args meth c A) (hx : decode (md_c M) pc = .ok (.goto off, 3)) (hs : tgS pc off lv st w = some z) (h : AWn X l M R p e s m args below meth c A Q n0 ad0 a b z) : AW X l M R p e s m args below meth c A Q n0 ad0 pc lv st w a b := by
  obtain ⟨t, ht, rfl⟩ := tg_sp hs
  intro H locs ls ad g1 g2 g3 hP hD hS hl
  exact lv_goto F.1 F.2.1 hx ht (h H locs ls ad g1 g2 g3 hP hD hS hl)
/-- a branch, both roads open -/
theorem so_ifc {cd : ClassFile.Cond} {off : Int} {x : Int32} {r : List Value} {t : Nat} (F : MF X M R p s m args meth c A) (hx : decode (md_c M) pc = .ok (.ifCond cd off, 3)) (ht : (pc : Int) + off = (t : Int))
    (h1 : cmpB cd x 0 = true → AW X l M R p e s m args below meth c A Q n0 ad0 t lv r w a b) (h2 : cmpB cd x 0 = false → AW X l M R p e s m args below meth c A Q n0 ad0 (pc + 3) lv r w a b) : AW X l M R p e s m args below meth c A Q n0 ad0 pc lv (.int x :: r) w a b := by
  intro H locs ls ad g1 g2 g3 hP hD hS hl
  have k1 := fun q => h1 q H locs ls ad g1 g2 g3 hP hD hS hl
  have k2 := fun q => h2 q H locs ls ad g1 g2 g3 hP hD hS hl
  cases cd with
  | eq => exact lv_if_eq F.1 F.2.1 hx ht (fun q => k1 (by simp [cmpB, q])) (fun q => k2 (by simp [cmpB, q]))
  | ne => exact lv_if_ne F.1 F.2.1 hx ht (fun q => k1 (by simp [cmpB, q])) (fun q => k2 (by simp [cmpB, q]))
  | lt => exact lv_if_lt F.1 F.2.1 hx ht (fun q => k1 (decide_eq_true q)) (fun q => k2 (decide_eq_false q))
  | ge => exact lv_if_ge F.1 F.2.1 hx ht (fun q => k1 (decide_eq_true q)) (fun q => k2 (decide_eq_false q))
  | gt => exact lv_if_gt F.1 F.2.1 hx ht (fun q => k1 (decide_eq_true q)) (fun q => k2 (decide_eq_false q))
  | le => exact lv_if_le F.1 F.2.1 hx ht (fun q => k1 (decide_eq_true q)) (fun q => k2 (decide_eq_false q))
theorem so_icc {cd : ClassFile.Cond} {off : Int} {x y : Int32} {r : List Value} {t : Nat} (F : MF X M R p s m args meth c A) (hx : decode (md_c M) pc = .ok (.if_icmp cd off, 3)) (ht : (pc : Int) + off = (t : Int))
    (h1 : cmpB cd x y = true → AW X l M R p e s m args below meth c A Q n0 ad0 t lv r w a b) (h2 : cmpB cd x y = false → AW X l M R p e s m args below meth c A Q n0 ad0 (pc + 3) lv r w a b) : AW X l M R p e s m args below meth c A Q n0 ad0 pc lv (.int y :: .int x :: r) w a b := by
  intro H locs ls ad g1 g2 g3 hP hD hS hl
  have k1 := fun q => h1 q H locs ls ad g1 g2 g3 hP hD hS hl
  have k2 := fun q => h2 q H locs ls ad g1 g2 g3 hP hD hS hl
  cases cd with
  | eq => exact lv_icmp_eq F.1 F.2.1 hx ht (fun q => k1 (by simp [cmpB, q])) (fun q => k2 (by simp [cmpB, q]))
  | ne => exact lv_icmp_ne F.1 F.2.1 hx ht (fun q => k1 (by simp [cmpB, q])) (fun q => k2 (by simp [cmpB, q]))
  | lt => exact lv_icmp_lt F.1 F.2.1 hx ht (fun q => k1 (decide_eq_true q)) (fun q => k2 (decide_eq_false q))
  | ge => exact lv_icmp_ge F.1 F.2.1 hx ht (fun q => k1 (decide_eq_true q)) (fun q => k2 (decide_eq_false q))
  | gt => exact lv_icmp_gt F.1 F.2.1 hx ht (fun q => k1 (decide_eq_true q)) (fun q => k2 (decide_eq_false q))
  | le => exact lv_icmp_le F.1 F.2.1 hx ht (fun q => k1 (decide_eq_true q)) (fun q => k2 (decide_eq_false q))
theorem so_ifS {cd : ClassFile.Cond} {off : Int} (F : MF X M R p s m args meth c A) (hx : decode (md_c M) pc = .ok (.ifCond cd off, 3)) (hs : ifS cd off pc lv st w = some z) (h : AWn X l M R p e s m args below meth c A Q n0 ad0 a b z) : AW X l M R p e s m args below meth c A Q n0 ad0 pc lv st w a b := by
  unfold ifS at hs
  split at hs
  · rename_i ho
    split at hs
    · rename_i x r
      refine so_ifc F hx (Int.toNat_of_nonneg ho).symm (fun q => ?_) (fun q => ?_)
      · rw [q] at hs
        cases hs
        exact h
      · rw [q] at hs
        cases hs
        exact h
    · cases hs
  · cases hs
theorem so_icmpS {cd : ClassFile.Cond} {off : Int} (F : MF X M R p s m args meth c A) (hx : decode (md_c M) pc = .ok (.if_icmp cd off, 3)) (hs : icmpS cd off pc lv st w = some z) (h : AWn X l M R p e s m args below meth c A Q n0 ad0 a b z) : AW X l M R p e s m args below meth c A Q n0 ad0 pc lv st w a b := by
  unfold icmpS at hs
  split at hs
  · rename_i ho
    split at hs
    · rename_i x y r
      refine so_icc F hx (Int.toNat_of_nonneg ho).symm (fun q => ?_) (fun q => ?_)
      · rw [q] at hs
        cases hs
        exact h
      · rw [q] at hs
        cases hs
        exact h
    · cases hs
  · cases hs
end SO
