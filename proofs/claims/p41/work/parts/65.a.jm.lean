/-! what holds of the reference between calls -/
/-- a row of codes from c on, with d numbers on the pile: it never takes from an empty pile -/
def vld (cd ci : Nat → Int) : Nat → Nat → Nat → Prop
  | 0, _, _ => True
  | n + 1, c, d => (cd c < 2 → (cd c = 1 → 0 ≤ ci c ∧ ci c ≤ 6) ∧ vld cd ci n (c + 1) (d + 1)) ∧ (2 ≤ cd c → 2 ≤ d ∧ vld cd ci n (c + 1) (d - 1))
/-- codes from f to t, within the half that begins at l -/
def Seg (cd ci : Nat → Int) (l f t : Int) : Prop := l ≤ f ∧ f ≤ t ∧ t ≤ f + 400 ∧ t ≤ l + 420 ∧ vld cd ci (t - f).toNat f.toNat 0
def LawOK (v : Int) (lf ll ht tf tm tt te cd ci : Nat → Int) (at_ : Nat) : Prop := ∀ b : Nat, lf at_ ≤ (b : Int) → (b : Int) < ll at_ → (130 * v ≤ (b : Int) ∧ (b : Int) < 130 * v + 130) ∧ (ht b ≠ 0 → Seg cd ci (420 * v) (tf b) (tm b) ∧ Seg cd ci (420 * v) (tm b) (tt b)) ∧ Seg cd ci (420 * v) (tt b) (te b)
/-- v: which half is alive; un, tl: how many can be undone, are told -/
def JPc (v un tl : Int) (stp wys wto bgn now hst hld isH tst lf ll ht tf tm tt te cd ci : Nat → Int) : Prop :=
  (∀ s k : Nat, (s : Int) < stp v.toNat → (k : Int) < wys (10 * v.toNat + s) → 0 ≤ wto (4 * (10 * v.toNat + s) + k) ∧ wto (4 * (10 * v.toNat + s) + k) < stp v.toNat) ∧
  (stp v.toNat = 0 ∨ bgn v.toNat < stp v.toNat) ∧
  (stp v.toNat = 0 ∨ ((0 ≤ now 0 ∧ now 0 < stp v.toNat) ∧ (∀ i : Nat, (i : Int) < un → 0 ≤ hst (96 * i) ∧ hst (96 * i) < stp v.toNat) ∧ ∀ s : Nat, s < 3 → isH s ≠ 0 → 0 ≤ hld (1296 * s) ∧ hld (1296 * s) < stp v.toNat)) ∧
  (∀ i : Nat, (i : Int) < tl → 0 < wys (10 * v.toNat + (tst i).toNat)) ∧
  (∀ a : Nat, a < 6 → LawOK v lf ll ht tf tm tt te cd ci (6 * v.toNat + a))
def fi (w : List AE) (j : Nat) : Int := match fa w 148 j with
  | some (.int x) => x.toInt
  | _ => 0
def ei (w : List AE) (c j : Nat) : Int := match ea w c j with
  | some x => x.toInt
  | none => 0
def JM (w : List AE) : Prop := w.length = 200 ∧ JPc (fi w 18) (fi w 60) (fi w 70) (ei w 158) (ei w 161) (ei w 162) (ei w 168) (ei w 183) (ei w 187) (ei w 199) (ei w 198) (ei w 196) (ei w 171) (ei w 172) (ei w 173) (ei w 174) (ei w 175) (ei w 176) (ei w 177) (ei w 178) (ei w 179)
def fpA : List Nat := [158, 161, 162, 168, 183, 187, 199, 198, 196, 171, 172, 173, 174, 175, 176, 177, 178, 179]
def fpM : MDs := [(47, 18), (47, 60), (47, 70), (57, 1000), (60, 1000), (61, 1000), (67, 1000), (82, 1000), (86, 1000), (98, 1000), (97, 1000), (95, 1000), (70, 1000), (71, 1000), (72, 1000), (73, 1000), (74, 1000), (75, 1000), (76, 1000), (77, 1000), (78, 1000), (57, 1001), (60, 1001), (61, 1001), (67, 1001), (82, 1001), (86, 1001), (98, 1001), (97, 1001), (95, 1001), (70, 1001), (71, 1001), (72, 1001), (73, 1001), (74, 1001), (75, 1001), (76, 1001), (77, 1001), (78, 1001)]
theorem jm_of {w w' : List AE} (hl : w'.length = w.length) (hf : ∀ j, (j = 18 ∨ j = 60 ∨ j = 70) → fi w' j = fi w j) (he : ∀ c ∈ fpA, ei w' c = ei w c) (h : JM w) : JM w' := by
  refine ⟨hl.trans h.1, ?_⟩
  rw [hf 18 (by decide), hf 60 (by decide), hf 70 (by decide), he 158 (by decide), he 161 (by decide), he 162 (by decide), he 168 (by decide), he 183 (by decide), he 187 (by decide), he 199 (by decide), he 198 (by decide), he 196 (by decide), he 171 (by decide), he 172 (by decide), he 173 (by decide), he 174 (by decide), he 175 (by decide), he 176 (by decide), he 177 (by decide), he 178 (by decide), he 179 (by decide)]
  exact h.2
theorem js_ofM {m0 : MDs} (h : fpM.all (fun q => !(mdF m0 q.1 q.2)) = true) : JS EC JM m0 := by
  intro w w' ha hJ
  have hm : ∀ q ∈ fpM, mdF m0 q.1 q.2 = false := fun q hq => by simpa using List.all_eq_true.mp h q hq
  refine jm_of ha.1 (fun j hj => ?_) (fun c hc => ?_) hJ
  · unfold fi
    have hq : mdF m0 47 j = false := by
      rcases hj with e | e | e
      · rw [e]; exact hm (47, 18) (by decide)
      · rw [e]; exact hm (47, 60) (by decide)
      · rw [e]; exact hm (47, 70) (by decide)
    rw [ha.2.1 148 j hq]
  · have hr : ra w' c = ra w c := by
      have hc' : c = 158 ∨ c = 161 ∨ c = 162 ∨ c = 168 ∨ c = 183 ∨ c = 187 ∨ c = 199 ∨ c = 198 ∨ c = 196 ∨ c = 171 ∨ c = 172 ∨ c = 173 ∨ c = 174 ∨ c = 175 ∨ c = 176 ∨ c = 177 ∨ c = 178 ∨ c = 179 := by simpa [fpA] using hc
      rcases hc' with e | e | e | e | e | e | e | e | e | e | e | e | e | e | e | e | e | e <;> (rw [e]; exact ha.2.2.1 _ (hm (_, 1000) (by decide)) (hm (_, 1001) (by decide)))
    funext j
    unfold ei
    rw [ea_of hr]
/-! a typed world of 200 cells is a world of numbers -/
def avK : AV → Nat
  | .inl _ => 0
  | .inr (.inr (.inr (.inl _))) => 1
  | .inr (.inr (.inr (.inr (.inl _)))) => 2
  | .inr (.inr (.inr (.inr (.inr (.inl _))))) => 3
  | _ => 9
def shB (c : Nat) : Bool := match dclC (ctyC c) with
  | .inl (ci, avs) => Nat.beq (shC c).1 0 && Nat.beq (shC c).2.1 ci && decide (avs.map avK = flK ci)
  | .inr (.inl (t, len, _)) => Nat.beq (shC c).1 1 && Nat.beq (shC c).2.1 t && Nat.beq (shC c).2.2 len
  | .inr (.inr (.inl len)) => Nat.beq (shC c).1 2 && Nat.beq (shC c).2.2 len
  | .inr (.inr (.inr (c0, len, _))) => Nat.beq (shC c).1 3 && Nat.beq (shC c).2.1 c0 && Nat.beq (shC c).2.2 len
theorem sh_all : (List.range 200).all (fun c => shB c && !(Nat.beq (ctyC c) 0)) = true := by decide +kernel
def gI (w : List AE) (c j : Nat) : Int32 := match w[c]? with
  | some (.inl (_, l)) => l.getD j 0
  | some (.inr (.inr (.inr (_, fl)))) => (match fl[j]? with
    | some (.int x) => x
    | _ => 0)
  | _ => 0
def gL (w : List AE) (c j : Nat) : Int64 := match w[c]? with
  | some (.inr (.inl l)) => l.getD j 0
  | some (.inr (.inr (.inr (_, fl)))) => (match fl[j]? with
    | some (.long x) => x
    | _ => 0)
  | _ => 0
def gR (w : List AE) (c j : Nat) : Nat := match w[c]? with
  | some (.inr (.inr (.inl (_, l)))) => (l.getD j none).getD 0
  | some (.inr (.inr (.inr (_, fl)))) => (match fl[j]? with
    | some (.ref x) => x
    | _ => 0)
  | _ => 0
theorem wd_of {w : List AE} (hw : wok EC w) (hl : w.length = 200) : ∃ S, w = WD S := by
  refine ⟨(gI w, gL w, gR w), ?_⟩
  apply List.ext_getElem?
  intro c
  rw [wd_get]
  by_cases hc : c < 200
  · have h1 := List.all_eq_true.mp sh_all c (List.mem_range.mpr hc)
    simp only [Bool.and_eq_true] at h1
    obtain ⟨h1, h0⟩ := h1
    obtain ⟨e, he, ho⟩ := hw.2 c (nb h0)
    have ho : okE EC c (dclC (ctyC c)) e := ho
    rw [blt_t hc, he]
    show some e = some (cellK (gI w, gL w, gR w) c)
    congr 1
    unfold shB at h1
    split at h1
    · rename_i ci avs hd
      rw [hd] at ho
      simp only [Bool.and_eq_true, decide_eq_true_eq] at h1
      obtain ⟨⟨a1, a2⟩, a3⟩ := h1
      have a1 := Nat.eq_of_beq_eq_true a1
      have a2 := Nat.eq_of_beq_eq_true a2
      obtain ⟨fl, rfl, hfl, hv⟩ := ho
      have hs : shC c = (0, ci, (shC c).2.2) := by rw [← a1, ← a2]
      rw [cell_o hs]
      have hk : (flK ci).length = avs.length := by rw [← a3, List.length_map]
      congr 4
      apply List.ext_getElem?
      intro j
      by_cases hj : j < avs.length
      · rw [rng_at _ (by rw [hk]; exact hj)]
        obtain ⟨v, v1, v2⟩ := hv j avs[j] (List.getElem?_eq_getElem hj)
        rw [v1]
        congr 1
        have hkd : (flK ci).getD j 9 = avK avs[j] := by
          rw [← a3, List.getD_eq_getElem?_getD, List.getElem?_map, List.getElem?_eq_getElem hj]
          rfl
        unfold fvK
        rw [hkd]
        have eI : ∀ x, v = .int x → gI w c j = x := fun x q => by
          unfold gI
          rw [he]
          show (match fl[j]? with
            | some (.int x) => x
            | _ => 0) = x
          rw [v1, q]
        have eL : ∀ x, v = .long x → gL w c j = x := fun x q => by
          unfold gL
          rw [he]
          show (match fl[j]? with
            | some (.long x) => x
            | _ => 0) = x
          rw [v1, q]
        have eR : ∀ x, v = .ref x → gR w c j = x := fun x q => by
          unfold gR
          rw [he]
          show (match fl[j]? with
            | some (.ref x) => x
            | _ => 0) = x
          rw [v1, q]
        generalize avs[j] = a at v2
        match a, v2 with
        | .inl (lo, hi), ⟨x, q, _⟩ => show v = .int (gI w c j); rw [eI x q]; exact q
        | .inr (.inr (.inr (.inl (lo, hi)))), ⟨x, q, _⟩ => show v = .long (gL w c j); rw [eL x q]; exact q
        | .inr (.inr (.inr (.inr (.inl t)))), ⟨x, q, _⟩ => show v = .ref (gR w c j); rw [eR x q]; exact q
        | .inr (.inr (.inr (.inr (.inr (.inl t))))), ⟨q, _⟩ => exact q
      · rw [rng_no _ (by rw [hk]; exact hj), List.getElem?_eq_none (by omega)]
    · rename_i t len el hd
      rw [hd] at ho
      simp only [Bool.and_eq_true] at h1
      obtain ⟨⟨a1, a2⟩, a3⟩ := h1
      obtain ⟨l, rfl, hll, -⟩ := ho
      have hs : shC c = (1, t, len) := by rw [← Nat.eq_of_beq_eq_true a1, ← Nat.eq_of_beq_eq_true a2, ← Nat.eq_of_beq_eq_true a3]
      rw [cell_i hs]
      congr 2
      apply List.ext_getElem?
      intro j
      by_cases hj : j < len
      · rw [rng_at _ hj]
        show l[j]? = some (gI w c j)
        unfold gI
        rw [he]
        exact getD_some (by omega)
      · rw [rng_no _ hj, List.getElem?_eq_none (by omega)]
    · rename_i len hd
      rw [hd] at ho
      simp only [Bool.and_eq_true] at h1
      obtain ⟨a1, a3⟩ := h1
      obtain ⟨l, rfl, hll⟩ := ho
      have hs : shC c = (2, (shC c).2.1, len) := by rw [← Nat.eq_of_beq_eq_true a1, ← Nat.eq_of_beq_eq_true a3]
      rw [cell_j hs]
      congr 2
      apply List.ext_getElem?
      intro j
      by_cases hj : j < len
      · rw [rng_at _ hj]
        show l[j]? = some (gL w c j)
        unfold gL
        rw [he]
        exact getD_some (by omega)
      · rw [rng_no _ hj, List.getElem?_eq_none (by omega)]
    · rename_i c0 len t hd
      rw [hd] at ho
      simp only [Bool.and_eq_true] at h1
      obtain ⟨⟨a1, a2⟩, a3⟩ := h1
      obtain ⟨l, rfl, hll, -, hv⟩ := ho
      have hs : shC c = (3, c0, len) := by rw [← Nat.eq_of_beq_eq_true a1, ← Nat.eq_of_beq_eq_true a2, ← Nat.eq_of_beq_eq_true a3]
      rw [cell_f hs]
      congr 4
      apply List.ext_getElem?
      intro j
      by_cases hj : j < len
      · rw [rng_at _ hj]
        show l[j]? = some (some (gR w c j))
        have hg := getD_some (l := l) (dd := none) (j := j) (by omega)
        obtain ⟨k, k1, -⟩ := hv j _ hg
        unfold gR
        rw [he, hg]
        show some (l.getD j none) = some (some ((l.getD j none).getD 0))
        rw [k1]
        rfl
      · rw [rng_no _ hj, List.getElem?_eq_none (by omega)]
  · rw [blt_f hc, List.getElem?_eq_none (by omega)]
    rfl
/-! types and accessors of a world of numbers -/
section TYS
variable {S : WS} {c j : Nat}
theorem ea_wd {t n : Nat} (hc : Nat.blt c 200 = true) (h : shC c = (1, t, n)) (hj : j < n) : ea (WD S) c j = some (S.1 c j) := by
  unfold ea
  rw [wd_get, hc]
  show (match some (cellK S c) with
    | some (.inl (_, l)) => l[j]?
    | _ => none) = _
  rw [cell_i h]
  exact rng_at _ hj
theorem ei_wd {t n : Nat} (hc : Nat.blt c 200 = true) (h : shC c = (1, t, n)) (hj : j < n) : ei (WD S) c j = (S.1 c j).toInt := by
  unfold ei
  rw [ea_wd hc h hj]
theorem fa_wd (hj : Nat.blt j 76 = true) (hk : Nat.beq ((flK 12).getD j 9) 0 = true) : fa (WD S) 148 j = some (.int (S.1 148 j)) := by
  unfold fa
  rw [wd_get]
  show (match some (cellK S 148) with
    | some (.inr (.inr (.inr (_, fl)))) => fl[j]?
    | _ => none) = _
  rw [cell_o (show shC 148 = (0, 12, 0) from rfl)]
  show ((List.range (flK 12).length).map (fun j => fvK 12 j 148 S))[j]? = _
  rw [rng_at _ (show j < (flK 12).length from Nat.le_of_ble_eq_true hj)]
  unfold fvK
  rw [hk]
  rfl
theorem fi_wd (hj : Nat.blt j 76 = true) (hk : Nat.beq ((flK 12).getD j 9) 0 = true) : fi (WD S) j = (S.1 148 j).toInt := by
  unfold fi
  rw [fa_wd hj hk]
theorem wel {t n : Nat} {el : (Int × Int) ⊕ (Nat → Int × Int)} (hw : wok EC (WD S)) (hc : Nat.blt c 200 = true) (h : shC c = (1, t, n)) (hd : dclC (ctyC c) = .inr (.inl (t, n, el))) (h0 : ctyC c ≠ 0) (hj : j < n) : (elI el j).1 ≤ (S.1 c j).toInt ∧ (S.1 c j).toInt ≤ (elI el j).2 := by
  obtain ⟨e, e1, e2⟩ := hw.2 c h0
  have e2 : okE EC c (dclC (ctyC c)) e := e2
  rw [hd] at e2
  obtain ⟨l, rfl, l1, l2⟩ := e2
  refine l2 j (S.1 c j) ?_
  have := ea_wd (S := S) hc h hj
  unfold ea at this
  rw [e1] at this
  exact this
theorem wfd {a : AV} (hw : wok EC (WD S)) (hj : Nat.blt j 76 = true) (hk : Nat.beq ((flK 12).getD j 9) 0 = true) {avs : List AV} (hd : dclC (ctyC 148) = .inl (12, avs)) {lo hi : Int} (ha : avs[j]? = some (.inl (lo, hi))) : lo ≤ (S.1 148 j).toInt ∧ (S.1 148 j).toInt ≤ hi := by
  obtain ⟨e, e1, e2⟩ := hw.2 148 (by decide)
  have e2 : okE EC 148 (dclC (ctyC 148)) e := e2
  rw [hd] at e2
  obtain ⟨fl, rfl, l1, l2⟩ := e2
  obtain ⟨v, v1, v2⟩ := l2 j _ ha
  have := fa_wd (S := S) hj hk
  unfold fa at this
  rw [e1] at this
  have this : fl[j]? = some (.int (S.1 148 j)) := this
  rw [this] at v1
  cases v1
  obtain ⟨x, x1, x2⟩ := v2
  cases x1
  exact x2
end TYS
