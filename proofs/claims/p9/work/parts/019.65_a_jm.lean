section
/-! what holds of the reference between calls -/
/-- a row of codes from c on, with d numbers on the pile: it never takes from an empty pile -/
def vld (cd ci : Nat → Int) : Nat → Nat → Nat → Prop
  | 0, _, _ => True
  | n + 1, c, d => (cd c < 2 → (cd c = 1 → 0 ≤ ci c ∧ ci c ≤ 6) ∧ vld cd ci n (c + 1) (d + 1)) ∧ (2 ≤ cd c → 2 ≤ d ∧ vld cd ci n (c + 1) (d - 1))
/-- codes from f to t, within the half that begins at l -/
def Seg (cd ci : Nat → Int) (l f t : Int) : Prop := l ≤ f ∧ f ≤ t ∧ t ≤ f + 400 ∧ t ≤ l + 420 ∧ vld cd ci (t - f).toNat f.toNat 0
def LawOK (v : Int) (lf ll ht tf tm tt te cd ci : Nat → Int) (at_ : Nat) : Prop := ∀ b : Nat, lf at_ ≤ (b : Int) → (b : Int) < ll at_ → (130 * v ≤ (b : Int) ∧ (b : Int) < 130 * v + 130) ∧ (ht b ≠ 0 → Seg cd ci (420 * v) (tf b) (tm b) ∧ Seg cd ci (420 * v) (tm b) (tt b)) ∧ Seg cd ci (420 * v) (tt b) (te b)
/-- v: which half is alive; un, tl: how many can be undone, are told -/
def JPc (v un tl : Int) (stp wys wto bgn now hst hld isH tst lf ll ht tf tm tt te cd ci : Nat → Int) : Prop :=
  (∀ s k : Nat, (s : Int) < stp v.toNat → (k : Int) < wys (10 * v.toNat + s) → 0 ≤ wto (4 * (10 * v.toNat + s) + k) ∧ wto (4 * (10 * v.toNat + s) + k) < stp v.toNat) ∧
  (stp v.toNat = 0 ∨ bgn v.toNat < stp v.toNat) ∧
  (stp v.toNat = 0 ∨ ((0 ≤ now 0 ∧ now 0 < stp v.toNat) ∧ (∀ i : Nat, (i : Int) < un → 0 ≤ hst (96 * i) ∧ hst (96 * i) < stp v.toNat) ∧ ∀ s : Nat, s < 3 → isH s ≠ 0 → 0 ≤ hld (1296 * s) ∧ hld (1296 * s) < stp v.toNat)) ∧
  (∀ i : Nat, (i : Int) < tl → 0 < wys (10 * v.toNat + (tst i).toNat)) ∧
  (∀ a : Nat, a < 6 → LawOK v lf ll ht tf tm tt te cd ci (6 * v.toNat + a))
def fi (w : List AE) (j : Nat) : Int := match fa w 148 j with
  | some (.int x) => x.toInt
  | _ => 0
def ei (w : List AE) (c j : Nat) : Int := match ea w c j with
  | some x => x.toInt
  | none => 0
def JM (w : List AE) : Prop := w.length = 200 ∧ JPc (fi w 18) (fi w 60) (fi w 70) (ei w 158) (ei w 161) (ei w 162) (ei w 168) (ei w 183) (ei w 187) (ei w 199) (ei w 198) (ei w 196) (ei w 171) (ei w 172) (ei w 173) (ei w 174) (ei w 175) (ei w 176) (ei w 177) (ei w 178) (ei w 179)
def fpA : List Nat := [158, 161, 162, 168, 183, 187, 199, 198, 196, 171, 172, 173, 174, 175, 176, 177, 178, 179]
def fpM : MDs := [(47, 18), (47, 60), (47, 70), (57, 1000), (60, 1000), (61, 1000), (67, 1000), (82, 1000), (86, 1000), (98, 1000), (97, 1000), (95, 1000), (70, 1000), (71, 1000), (72, 1000), (73, 1000), (74, 1000), (75, 1000), (76, 1000), (77, 1000), (78, 1000), (57, 1001), (60, 1001), (61, 1001), (67, 1001), (82, 1001), (86, 1001), (98, 1001), (97, 1001), (95, 1001), (70, 1001), (71, 1001), (72, 1001), (73, 1001), (74, 1001), (75, 1001), (76, 1001), (77, 1001), (78, 1001)]
theorem jm_of {w w' : List AE} (hl : w'.length = w.length) (hf : ∀ j, (j = 18 ∨ j = 60 ∨ j = 70) → fi w' j = fi w j) (he : ∀ c ∈ fpA, ei w' c = ei w c) (h : JM w) : JM w' := by
  refine ⟨hl.trans h.1, ?_⟩
  rw [hf 18 (by decide), hf 60 (by decide), hf 70 (by decide), he 158 (by decide), he 161 (by decide), he 162 (by decide), he 168 (by decide), he 183 (by decide), he 187 (by decide), he 199 (by decide), he 198 (by decide), he 196 (by decide), he 171 (by decide), he 172 (by decide), he 173 (by decide), he 174 (by decide), he 175 (by decide), he 176 (by decide), he 177 (by decide), he 178 (by decide), he 179 (by decide)]
  exact h.2
theorem js_ofM {m0 : MDs} (h : fpM.all (fun q => !(mdF m0 q.1 q.2)) = true) : JS EC JM m0 := by
  intro w w' ha hJ
  have hm : ∀ q ∈ fpM, mdF m0 q.1 q.2 = false := fun q hq => by simpa using List.all_eq_true.mp h q hq
  refine jm_of ha.1 (fun j hj => ?_) (fun c hc => ?_) hJ
  · unfold fi
    have hq : mdF m0 47 j = false := by
      rcases hj with e | e | e
      · rw [e]; exact hm (47, 18) (by decide)
      · rw [e]; exact hm (47, 60) (by decide)
      · rw [e]; exact hm (47, 70) (by decide)
    rw [ha.2.1 148 j hq]
  · have hr : ra w' c = ra w c := by
      have hc' : c = 158 ∨ c = 161 ∨ c = 162 ∨ c = 168 ∨ c = 183 ∨ c = 187 ∨ c = 199 ∨ c = 198 ∨ c = 196 ∨ c = 171 ∨ c = 172 ∨ c = 173 ∨ c = 174 ∨ c = 175 ∨ c = 176 ∨ c = 177 ∨ c = 178 ∨ c = 179 := by simpa [fpA] using hc
      rcases hc' with e | e | e | e | e | e | e | e | e | e | e | e | e | e | e | e | e | e <;> (rw [e]; exact ha.2.2.1 _ (hm (_, 1000) (by decide)) (hm (_, 1001) (by decide)))
    funext j
    unfold ei
    rw [ea_of hr]
/-! a typed world of 200 cells is a world of numbers -/
def avK : AV → Nat
  | .inl _ => 0
  | .inr (.inr (.inr (.inl _))) => 1
  | .inr (.inr (.inr (.inr (.inl _)))) => 2
  | .inr (.inr (.inr (.inr (.inr (.inl _))))) => 3
  | _ => 9
def shB (c : Nat) : Bool := match dclC (ctyC c) with
  | .inl (ci, avs) => Nat.beq (shC c).1 0 && Nat.beq (shC c).2.1 ci && decide (avs.map avK = flK ci)
  | .inr (.inl (t, len, _)) => Nat.beq (shC c).1 1 && Nat.beq (shC c).2.1 t && Nat.beq (shC c).2.2 len
  | .inr (.inr (.inl len)) => Nat.beq (shC c).1 2 && Nat.beq (shC c).2.2 len
  | .inr (.inr (.inr (c0, len, _))) => Nat.beq (shC c).1 3 && Nat.beq (shC c).2.1 c0 && Nat.beq (shC c).2.2 len
theorem sh_all : (List.range 200).all (fun c => shB c && !(Nat.beq (ctyC c) 0)) = true := by decide +kernel
def gI (w : List AE) (c j : Nat) : Int32 := match w[c]? with
  | some (.inl (_, l)) => l.getD j 0
  | some (.inr (.inr (.inr (_, fl)))) => (match fl[j]? with
    | some (.int x) => x
    | _ => 0)
  | _ => 0
def gL (w : List AE) (c j : Nat) : Int64 := match w[c]? with
  | some (.inr (.inl l)) => l.getD j 0
  | some (.inr (.inr (.inr (_, fl)))) => (match fl[j]? with
    | some (.long x) => x
    | _ => 0)
  | _ => 0
def gR (w : List AE) (c j : Nat) : Nat := match w[c]? with
  | some (.inr (.inr (.inl (_, l)))) => (l.getD j none).getD 0
  | some (.inr (.inr (.inr (_, fl)))) => (match fl[j]? with
    | some (.ref x) => x
    | _ => 0)
  | _ => 0
theorem wd_of {w : List AE} (hw : wok EC w) (hl : w.length = 200) : ∃ S, w = WD S := by
  refine ⟨(gI w, gL w, gR w), ?_⟩
  apply List.ext_getElem?
  intro c
  rw [wd_get]
  by_cases hc : c < 200
  · have h1 := List.all_eq_true.mp sh_all c (List.mem_range.mpr hc)
    simp only [Bool.and_eq_true] at h1
    obtain ⟨h1, h0⟩ := h1
    obtain ⟨e, he, ho⟩ := hw.2 c (nb h0)
    have ho : okE EC c (dclC (ctyC c)) e := ho
    rw [blt_t hc, he]
    show some e = some (cellK (gI w, gL w, gR w) c)
    congr 1
    unfold shB at h1
    split at h1
    · rename_i ci avs hd
      rw [hd] at ho
      simp only [Bool.and_eq_true, decide_eq_true_eq] at h1
      obtain ⟨⟨a1, a2⟩, a3⟩ := h1
      have a1 := Nat.eq_of_beq_eq_true a1
      have a2 := Nat.eq_of_beq_eq_true a2
      obtain ⟨fl, rfl, hfl, hv⟩ := ho
      have hs : shC c = (0, ci, (shC c).2.2) := by rw [← a1, ← a2]
      rw [cell_o hs]
      have hk : (flK ci).length = avs.length := by rw [← a3, List.length_map]
      congr 4
      apply List.ext_getElem?
      intro j
      by_cases hj : j < avs.length
      · rw [rng_at _ (by rw [hk]; exact hj)]
        obtain ⟨v, v1, v2⟩ := hv j avs[j] (List.getElem?_eq_getElem hj)
        rw [v1]
        congr 1
        have hkd : (flK ci).getD j 9 = avK avs[j] := by
          rw [← a3, List.getD_eq_getElem?_getD, List.getElem?_map, List.getElem?_eq_getElem hj]
          rfl
        unfold fvK
        rw [hkd]
        have eI : ∀ x, v = .int x → gI w c j = x := fun x q => by
          unfold gI
          rw [he]
          show (match fl[j]? with
            | some (.int x) => x
            | _ => 0) = x
          rw [v1, q]
        have eL : ∀ x, v = .long x → gL w c j = x := fun x q => by
          unfold gL
          rw [he]
          show (match fl[j]? with
            | some (.long x) => x
            | _ => 0) = x
          rw [v1, q]
        have eR : ∀ x, v = .ref x → gR w c j = x := fun x q => by
          unfold gR
          rw [he]
          show (match fl[j]? with
            | some (.ref x) => x
            | _ => 0) = x
          rw [v1, q]
        generalize avs[j] = a at v2
        match a, v2 with
        | .inl (lo, hi), ⟨x, q, _⟩ => show v = .int (gI w c j); rw [eI x q]; exact q
        | .inr (.inr (.inr (.inl (lo, hi)))), ⟨x, q, _⟩ => show v = .long (gL w c j); rw [eL x q]; exact q
        | .inr (.inr (.inr (.inr (.inl t)))), ⟨x, q, _⟩ => show v = .ref (gR w c j); rw [eR x q]; exact q
        | .inr (.inr (.inr (.inr (.inr (.inl t))))), ⟨q, _⟩ => exact q
      · rw [rng_no _ (by rw [hk]; exact hj), List.getElem?_eq_none (by omega)]
    · rename_i t len el hd
      rw [hd] at ho
      simp only [Bool.and_eq_true] at h1
      obtain ⟨⟨a1, a2⟩, a3⟩ := h1
      obtain ⟨l, rfl, hll, -⟩ := ho
      have hs : shC c = (1, t, len) := by rw [← Nat.eq_of_beq_eq_true a1, ← Nat.eq_of_beq_eq_true a2, ← Nat.eq_of_beq_eq_true a3]
      rw [cell_i hs]
      congr 2
      apply List.ext_getElem?
      intro j
      by_cases hj : j < len
      · rw [rng_at _ hj]
        show l[j]? = some (gI w c j)
        unfold gI
        rw [he]
        exact getD_some (by omega)
      · rw [rng_no _ hj, List.getElem?_eq_none (by omega)]
    · rename_i len hd
      rw [hd] at ho
      simp only [Bool.and_eq_true] at h1
      obtain ⟨a1, a3⟩ := h1
      obtain ⟨l, rfl, hll⟩ := ho
      have hs : shC c = (2, (shC c).2.1, len) := by rw [← Nat.eq_of_beq_eq_true a1, ← Nat.eq_of_beq_eq_true a3]
      rw [cell_j hs]
      congr 2
      apply List.ext_getElem?
      intro j
      by_cases hj : j < len
      · rw [rng_at _ hj]
        show l[j]? = some (gL w c j)
        unfold gL
        rw [he]
        exact getD_some (by omega)
      · rw [rng_no _ hj, List.getElem?_eq_none (by omega)]
    · rename_i c0 len t hd
      rw [hd] at ho
      simp only [Bool.and_eq_true] at h1
      obtain ⟨⟨a1, a2⟩, a3⟩ := h1
      obtain ⟨l, rfl, hll, -, hv⟩ := ho
      have hs : shC c = (3, c0, len) := by rw [← Nat.eq_of_beq_eq_true a1, ← Nat.eq_of_beq_eq_true a2, ← Nat.eq_of_beq_eq_true a3]
      rw [cell_f hs]
      congr 4
      apply List.ext_getElem?
      intro j
      by_cases hj : j < len
      · rw [rng_at _ hj]
        show l[j]? = some (some (gR w c j))
        have hg := getD_some (l := l) (dd := none) (j := j) (by omega)
        obtain ⟨k, k1, -⟩ := hv j _ hg
        unfold gR
        rw [he, hg]
        show some (l.getD j none) = some (some ((l.getD j none).getD 0))
        rw [k1]
        rfl
      · rw [rng_no _ hj, List.getElem?_eq_none (by omega)]
  · rw [blt_f hc, List.getElem?_eq_none (by omega)]
    rfl
/-! types and accessors of a world of numbers -/
section TYS
variable {S : WS} {c j : Nat}
theorem ea_wd {t n : Nat} (hc : Nat.blt c 200 = true) (h : shC c = (1, t, n)) (hj : j < n) : ea (WD S) c j = some (S.1 c j) := by
  unfold ea
  rw [wd_get, hc]
  show (match some (cellK S c) with
    | some (.inl (_, l)) => l[j]?
    | _ => none) = _
  rw [cell_i h]
  exact rng_at _ hj
theorem ei_wd {t n : Nat} (hc : Nat.blt c 200 = true) (h : shC c = (1, t, n)) (hj : j < n) : ei (WD S) c j = (S.1 c j).toInt := by
  unfold ei
  rw [ea_wd hc h hj]
theorem fa_wd (hj : Nat.blt j 76 = true) (hk : Nat.beq ((flK 12).getD j 9) 0 = true) : fa (WD S) 148 j = some (.int (S.1 148 j)) := by
  unfold fa
  rw [wd_get]
  show (match some (cellK S 148) with
    | some (.inr (.inr (.inr (_, fl)))) => fl[j]?
    | _ => none) = _
  rw [cell_o (show shC 148 = (0, 12, 0) from rfl)]
  show ((List.range (flK 12).length).map (fun j => fvK 12 j 148 S))[j]? = _
  rw [rng_at _ (show j < (flK 12).length from Nat.le_of_ble_eq_true hj)]
  unfold fvK
  rw [hk]
  rfl
theorem fi_wd (hj : Nat.blt j 76 = true) (hk : Nat.beq ((flK 12).getD j 9) 0 = true) : fi (WD S) j = (S.1 148 j).toInt := by
  unfold fi
  rw [fa_wd hj hk]
theorem wel {t n : Nat} {el : (Int × Int) ⊕ (Nat → Int × Int)} (hw : wok EC (WD S)) (hc : Nat.blt c 200 = true) (h : shC c = (1, t, n)) (hd : dclC (ctyC c) = .inr (.inl (t, n, el))) (h0 : ctyC c ≠ 0) (hj : j < n) : (elI el j).1 ≤ (S.1 c j).toInt ∧ (S.1 c j).toInt ≤ (elI el j).2 := by
  obtain ⟨e, e1, e2⟩ := hw.2 c h0
  have e2 : okE EC c (dclC (ctyC c)) e := e2
  rw [hd] at e2
  obtain ⟨l, rfl, l1, l2⟩ := e2
  refine l2 j (S.1 c j) ?_
  have := ea_wd (S := S) hc h hj
  unfold ea at this
  rw [e1] at this
  exact this
theorem wfd {a : AV} (hw : wok EC (WD S)) (hj : Nat.blt j 76 = true) (hk : Nat.beq ((flK 12).getD j 9) 0 = true) {avs : List AV} (hd : dclC (ctyC 148) = .inl (12, avs)) {lo hi : Int} (ha : avs[j]? = some (.inl (lo, hi))) : lo ≤ (S.1 148 j).toInt ∧ (S.1 148 j).toInt ≤ hi := by
  obtain ⟨e, e1, e2⟩ := hw.2 148 (by decide)
  have e2 : okE EC 148 (dclC (ctyC 148)) e := e2
  rw [hd] at e2
  obtain ⟨fl, rfl, l1, l2⟩ := e2
  obtain ⟨v, v1, v2⟩ := l2 j _ ha
  have := fa_wd (S := S) hj hk
  unfold fa at this
  rw [e1] at this
  have this : fl[j]? = some (.int (S.1 148 j)) := this
  rw [this] at v1
  cases v1
  obtain ⟨x, x1, x2⟩ := v2
  cases x1
  exact x2
end TYS
end
section
def c_hand_X12_hourGoes_0 : Ctr := (47, [.inr (.inr (.inr (.inr (.inr (.inr 0)))))], ([(18, .inl (0, 0))], [(55, .inl (2, 2), .inl (0, 599))]), [(47, 51), (47, 58), (47, 59), (81, 1000), (85, 1000), (80, 1000)], [(none, ([], [(55, .inl (2, 2), .inl (1, 600))]))])
def c_hand_X12_hourGoes_1 : Ctr := (47, [.inr (.inr (.inr (.inr (.inr (.inr 0)))))], ([(18, .inl (1, 1))], [(55, .inl (2, 2), .inl (0, 599))]), [(47, 51), (47, 58), (47, 59), (81, 1000), (85, 1000), (80, 1000)], [(none, ([], [(55, .inl (2, 2), .inl (1, 600))]))])
def c_hand_X12_doesNow_0 : Ctr := (47, [.inr (.inr (.inr (.inr (.inr (.inr 0))))), .inl (0, 5)], ([(18, .inl (0, 0))], [(55, .inl (0, 0), .inl (0, 9))]), [(47, 51), (81, 1000), (80, 1000)], [(some (.inl ((-2147483648), 2147483647)), ([], []))])
def c_hand_X12_doesNow_1 : Ctr := (47, [.inr (.inr (.inr (.inr (.inr (.inr 0))))), .inl (0, 5)], ([(18, .inl (1, 1))], [(55, .inl (0, 0), .inl (0, 9))]), [(47, 51), (81, 1000), (80, 1000)], [(some (.inl ((-2147483648), 2147483647)), ([], []))])
def c_hand_X12_dreams_0 : Ctr := (47, [.inr (.inr (.inr (.inr (.inr (.inr 0)))))], ([(18, .inl (0, 0))], []), [(47, 51), (47, 58), (47, 59), (80, 1000), (81, 1000), (85, 1001), (85, 2000), (85, 2003), (85, 2010), (85, 2011), (85, 2012), (85, 2013), (85, 2014), (85, 2015), (85, 2016), (85, 2017), (85, 2018), (85, 2019), (85, 2020), (85, 2021), (85, 2035), (85, 2036), (85, 2037), (85, 2038), (85, 2039), (85, 2040), (85, 2041), (85, 2042), (85, 2043), (85, 2044), (85, 2045), (85, 2046), (85, 2047), (85, 2048), (85, 2049), (85, 2050), (85, 2051), (85, 2052), (85, 2053), (85, 2054), (85, 2055), (85, 2056), (85, 2057), (85, 2058), (85, 2059), (85, 2060), (85, 2061), (85, 2062), (85, 2063), (85, 2064), (85, 2065), (85, 2066), (85, 2067), (85, 2068), (85, 2069), (85, 2070), (85, 2071), (85, 2072), (85, 2073), (85, 2074), (85, 2075), (85, 2076), (85, 2077), (85, 2078), (85, 2079), (85, 2080), (85, 2081), (85, 2082), (85, 2083), (85, 2084), (85, 2085), (85, 2086), (85, 2087), (85, 2088), (85, 2089), (85, 2090), (85, 2091), (85, 2092), (85, 2093), (85, 2094)], [(none, ([], []))])
def c_hand_X12_dreams_1 : Ctr := (47, [.inr (.inr (.inr (.inr (.inr (.inr 0)))))], ([(18, .inl (1, 1))], []), [(47, 51), (47, 58), (47, 59), (80, 1000), (81, 1000), (85, 1001), (85, 2000), (85, 2003), (85, 2010), (85, 2011), (85, 2012), (85, 2013), (85, 2014), (85, 2015), (85, 2016), (85, 2017), (85, 2018), (85, 2019), (85, 2020), (85, 2021), (85, 2035), (85, 2036), (85, 2037), (85, 2038), (85, 2039), (85, 2040), (85, 2041), (85, 2042), (85, 2043), (85, 2044), (85, 2045), (85, 2046), (85, 2047), (85, 2048), (85, 2049), (85, 2050), (85, 2051), (85, 2052), (85, 2053), (85, 2054), (85, 2055), (85, 2056), (85, 2057), (85, 2058), (85, 2059), (85, 2060), (85, 2061), (85, 2062), (85, 2063), (85, 2064), (85, 2065), (85, 2066), (85, 2067), (85, 2068), (85, 2069), (85, 2070), (85, 2071), (85, 2072), (85, 2073), (85, 2074), (85, 2075), (85, 2076), (85, 2077), (85, 2078), (85, 2079), (85, 2080), (85, 2081), (85, 2082), (85, 2083), (85, 2084), (85, 2085), (85, 2086), (85, 2087), (85, 2088), (85, 2089), (85, 2090), (85, 2091), (85, 2092), (85, 2093), (85, 2094)], [(none, ([], []))])
def c_hand_X12_fillsFar_0 : Ctr := (47, [.inr (.inr (.inr (.inr (.inr (.inr 0))))), .inl ((-2), 9)], ([(18, .inl (0, 0))], []), [(91, 1000)], [(none, ([], []))])
def c_hand_X12_fillsFar_1 : Ctr := (47, [.inr (.inr (.inr (.inr (.inr (.inr 0))))), .inl ((-2), 9)], ([(18, .inl (1, 1))], []), [(91, 1000)], [(none, ([], []))])
def c_hand_X12_fillsLine_0 : Ctr := (47, [.inr (.inr (.inr (.inr (.inr (.inr 0))))), .inl (0, 9)], ([(18, .inl (0, 0))], []), [(47, 51), (47, 56), (47, 57), (47, 58), (47, 59), (47, 63), (88, 1000), (87, 1000), (81, 1000), (85, 1000), (80, 1000)], [(none, ([], []))])
def c_hand_X12_fillsLine_1 : Ctr := (47, [.inr (.inr (.inr (.inr (.inr (.inr 0))))), .inl (0, 9)], ([(18, .inl (1, 1))], []), [(47, 51), (47, 56), (47, 57), (47, 58), (47, 59), (47, 63), (88, 1000), (87, 1000), (81, 1000), (85, 1000), (80, 1000)], [(none, ([], []))])
end
section
/-! changes of a world of numbers -/
def UPD (md : MDs) (S S' : WS) : Prop := wok EC (WD S') ∧ agr EC (mdF md) (WD S) (WD S')
theorem mdx {b1 b2 : Bool} (h1 : b1 = true) (h2 : b1 = false) : b2 = true := by rw [h1] at h2; cases h2
section UPS
variable {md : MDs} {S0 S : WS} {c j t n : Nat} {el : (Int × Int) ⊕ (Nat → Int × Int)} {x : Int32}
theorem up_r (hw : wok EC (WD S)) : UPD md S S := ⟨hw, agr.rf _⟩
theorem up_t {S1 S2 : WS} (h : UPD md S0 S1) (k : UPD md S1 S2) : UPD md S0 S2 := ⟨k.1, agr.tr h.2 k.2⟩
theorem up_le {md' : MDs} (hs : subM md md' = true) (h : UPD md S0 S) : UPD md' S0 S := ⟨h.1, agr.le (subM_ok hs) h.2⟩
theorem up_a (h : UPD md S0 S) (hc : Nat.blt c 200 = true) (hs : shC c = (1, t, n)) (hd : dclC (ctyC c) = .inr (.inl (t, n, el))) (hm : mdF md (ctyC c) 1000 = true ∨ (mdF md (ctyC c) 1001 = true ∧ mdF md (ctyC c) (2000 + j) = true)) (hx : (elI el j).1 ≤ x.toInt ∧ x.toInt ≤ (elI el j).2) : UPD md S0 (uI S c j x) := by
  have hset := set_I (S := S) (i := j) (x := x) hc hs
  have hl : c < (WD S).length := by rw [wd_len]; exact Nat.le_of_ble_eq_true hc
  have hat : (WD S)[c]? = some (.inl (t, (List.range n).map (S.1 c))) := by
    rw [wd_get, hc]
    show some (cellK S c) = _
    rw [cell_i hs]
  rw [UPD, ← hset]
  refine ⟨wok_set h.1 hl (fun h0 => ?_), agr.tr h.2 ⟨List.length_set, fun c' j' hq => ?_, fun c' q1 q2 => ?_, fun c' j' q1 q2 => ?_⟩⟩
  · show okE EC c (dclC (ctyC c)) _
    rw [hd]
    refine ⟨_, rfl, by rw [List.length_set, rng_len], fun i y hy => ?_⟩
    by_cases hi : j = i
    · subst hi
      by_cases hjn : j < n
      · rw [List.getElem?_set_self (by rw [rng_len]; exact hjn)] at hy
        cases hy
        exact hx
      · rw [List.getElem?_eq_none (by rw [List.length_set, rng_len]; omega)] at hy
        cases hy
    · rw [List.getElem?_set_ne hi] at hy
      obtain ⟨e, e1, e2⟩ := h.1.2 c h0
      have e2 : okE EC c (dclC (ctyC c)) e := e2
      rw [hat] at e1
      cases e1
      rw [hd] at e2
      obtain ⟨l, e3, e4, e5⟩ := e2
      cases e3
      exact e5 i y hy
  · by_cases hcc : c' = c
    · subst hcc
      unfold fa
      rw [st_self hl, hat]
    · unfold fa
      rw [st_ne (fun q => hcc q.symm)]
  · by_cases hcc : c' = c
    · subst hcc
      exfalso
      rcases hm with hm | hm
      · exact absurd hm (by show ¬ (mdF md (EC.1 c') 1000 = true); rw [q1]; decide)
      · exact absurd hm.1 (by show ¬ (mdF md (EC.1 c') 1001 = true); rw [q2]; decide)
    · unfold ra
      rw [st_ne (fun q => hcc q.symm)]
  · by_cases hcc : c' = c
    · subst hcc
      by_cases hjj : j' = j
      · subst hjj
        exfalso
        rcases hm with hm | hm
        · exact absurd hm (by show ¬ (mdF md (EC.1 c') 1000 = true); rw [q1]; decide)
        · exact absurd hm.2 (by show ¬ (mdF md (EC.1 c') (2000 + j') = true); rw [q2]; decide)
      · unfold ea
        rw [st_self hl, hat]
        exact List.getElem?_set_ne (fun q => hjj q.symm)
    · unfold ea
      rw [st_ne (fun q => hcc q.symm)]
theorem up_f {avs : List AV} {lo hi : Int} (h : UPD md S0 S) (hk : Nat.beq ((flK 12).getD j 9) 0 = true) (hj : Nat.blt j 76 = true) (hd : dclC (ctyC 148) = .inl (12, avs)) (ha : avs[j]? = some (.inl (lo, hi))) (hm : mdF md 47 j = true) (hx : lo ≤ x.toInt ∧ x.toInt ≤ hi) : UPD md S0 (uI S 148 j x) := by
  have hset : (WD S).set 148 (.inr (.inr (.inr (12, ((List.range (flK 12).length).map (fun j => fvK 12 j 148 S)).set j (.int x))))) = WD (uI S 148 j x) := set_o (n := 0) rfl rfl (by unfold fvK; rw [hk, uI_i]; rfl) (uI_no S x) (fun _ _ _ => rfl) (fun _ _ _ => rfl)
  have hat : (WD S)[148]? = some (.inr (.inr (.inr (12, (List.range (flK 12).length).map (fun j => fvK 12 j 148 S))))) := by
    rw [wd_get]
    show some (cellK S 148) = _
    rw [cell_o (show shC 148 = (0, 12, 0) from rfl)]
  rw [UPD, ← hset]
  refine ⟨wok_put (t := 47) (a := .inl (lo, hi)) h.1 rfl (by decide) ?_ hat ⟨x, rfl, hx⟩, agr.tr h.2 ⟨List.length_set, fun c' j' hq => put_fa hat c' j' (fun e => ?_), fun c' _ _ => put_ra hat c', fun c' j' _ _ => put_ea hat c' j'⟩⟩
  · show dO EC 47 12 j = some (.inl (lo, hi))
    unfold dO
    have hd : EC.2.1 47 = .inl (12, avs) := hd
    rw [hd]
    exact ha
  · rw [e.1, e.2] at hq
    have hq : mdF md 47 j = false := hq
    rw [hm] at hq
    cases hq
/-- what isn't written is as it was -/
theorem up_el (h : UPD md S0 S) (hc : Nat.blt c 200 = true) (hs : shC c = (1, t, n)) (h1 : mdF md (ctyC c) 1000 = false) (h2 : mdF md (ctyC c) (2000 + j) = false) (hj : j < n) : S.1 c j = S0.1 c j := by
  have := h.2.2.2.2 c j h1 h2
  rw [ea_wd hc hs hj, ea_wd hc hs hj] at this
  exact Option.some.inj this
theorem up_fl (h : UPD md S0 S) (hk : Nat.beq ((flK 12).getD j 9) 0 = true) (hj : Nat.blt j 76 = true) (h1 : mdF md 47 j = false) : S.1 148 j = S0.1 148 j := by
  have := h.2.2.1 148 j h1
  rw [fa_wd hj hk, fa_wd hj hk] at this
  have this := Option.some.inj this
  injection this
theorem up_jm (h : UPD md S0 S) (hm : fpM.all (fun q => !(mdF md q.1 q.2)) = true) (hJ : JM (WD S0)) : JM (WD S) := js_ofM hm _ _ h.2 hJ
end UPS
theorem gvs_nn {E : WE} {th : Nat} {ρ : List Int} : ∀ {as : List AV} {vs : List Value}, gvs E th ρ as vs → nnS vs
  | [], [], _ => fun q => by cases q
  | a :: as, v :: vs, h => nn_c (fun q => by
      subst q
      have h1 := h.1
      match a, h1 with
      | .inl (lo, hi), ⟨x, e, _⟩ => cases e
      | .inr (.inl (k, d)), ⟨x, z, e, _⟩ => cases e
      | .inr (.inr (.inl (lo, hi, b))), ⟨x, e, _⟩ => cases e
      | .inr (.inr (.inr (.inl (lo, hi)))), ⟨x, e, _⟩ => cases e
      | .inr (.inr (.inr (.inr (.inl t)))), ⟨x, e, _⟩ => cases e
      | .inr (.inr (.inr (.inr (.inr (.inl sl))))), e => cases e
      | .inr (.inr (.inr (.inr (.inr (.inr n))))), e => cases e) (gvs_nn h.2)
  | [], _ :: _, h => h.elim
  | _ :: _, [], h => h.elim
theorem sat_rx {b d : Nat} {c : Ctr} (hb : okB b = true) (hc : c.1 = 47) (h : ∀ (av : List Value) (S : WS), wok EC (WD S) → JM (WD S) → gvs EC 148 [] c.2.1 av → gfs EC 148 [] c.2.2.1.1 (WD S) → ges EC 148 [] c.2.2.1.2 (WD S) → ∃ r S', RX d b av S = some (r, S') ∧ CPost EC JM 148 (WD S) c r (WD S')) : Sat EC JM d b c := fun th av w a1 a2 a3 a4 a5 a6 a7 => by
  have e : th = 148 := cty_one 47 148 (by decide +kernel) (by decide) th (by rw [← hc]; exact a1)
  subst e
  obtain ⟨S, rfl⟩ := wd_of a3 a4.1
  obtain ⟨r, S', h1, h2⟩ := h av S a3 a4 a5 a6 a7
  exact RX_mex hb (gvs_nn a5) h1 h2
theorem rx_sat {b d : Nat} {c : Ctr} {av : List Value} {S : WS} (hb : okB b = true) (h : Sat EC JM d b c) (hc : c.1 = 47) (hw : wok EC (WD S)) (hJ : JM (WD S)) (ha : gvs EC 148 [] c.2.1 av) (hf : gfs EC 148 [] c.2.2.1.1 (WD S)) (he : ges EC 148 [] c.2.2.1.2 (WD S)) : ∃ r S', RX d b av S = some (r, S') ∧ CPost EC JM 148 (WD S) c r (WD S') := mex_RX hb (gvs_nn ha) (h 148 av (WD S) (by rw [hc]; rfl) (by rw [hc]; decide) hw hJ ha hf he)
end
section
/-! ints -/
section I32
variable {x y : Int32} {n c : Nat}
theorem ge_t (h : y.toInt ≤ x.toInt) : cmpB .ge x y = true := decide_eq_true (Int32.le_iff_toInt_le.mpr h)
theorem ge_f (h : x.toInt < y.toInt) : cmpB .ge x y = false := decide_eq_false (fun q => by have := Int32.le_iff_toInt_le.mp q; omega)
theorem le_t (h : x.toInt ≤ y.toInt) : cmpB .le x y = true := decide_eq_true (Int32.le_iff_toInt_le.mpr h)
theorem le_f (h : y.toInt < x.toInt) : cmpB .le x y = false := decide_eq_false (fun q => by have := Int32.le_iff_toInt_le.mp q; omega)
theorem lt_t (h : x.toInt < y.toInt) : cmpB .lt x y = true := decide_eq_true (Int32.lt_iff_toInt_lt.mpr h)
theorem lt_f (h : y.toInt ≤ x.toInt) : cmpB .lt x y = false := decide_eq_false (fun q => by have := Int32.lt_iff_toInt_lt.mp q; omega)
theorem gt_t (h : y.toInt < x.toInt) : cmpB .gt x y = true := decide_eq_true (Int32.lt_iff_toInt_lt.mpr h)
theorem gt_f (h : x.toInt ≤ y.toInt) : cmpB .gt x y = false := decide_eq_false (fun q => by have := Int32.lt_iff_toInt_lt.mp q; omega)
theorem eq_t (h : x.toInt = y.toInt) : cmpB .eq x y = true := decide_eq_true (Int32.toInt_inj.mp h)
theorem eq_f (h : x.toInt ≠ y.toInt) : cmpB .eq x y = false := decide_eq_false (fun q => h (by rw [q]))
theorem ne_t (h : x.toInt ≠ y.toInt) : cmpB .ne x y = true := by
  show (!decide (x = y)) = true
  rw [decide_eq_false (fun q => h (by rw [q]))]
  rfl
theorem ne_f (h : x.toInt = y.toInt) : cmpB .ne x y = false := by
  show (!decide (x = y)) = false
  rw [decide_eq_true (Int32.toInt_inj.mp h)]
  rfl
theorem c_ge (x y : Int32) : (cmpB .ge x y = true ∧ y.toInt ≤ x.toInt) ∨ (cmpB .ge x y = false ∧ x.toInt < y.toInt) := by
  by_cases h : y.toInt ≤ x.toInt
  · exact .inl ⟨ge_t h, h⟩
  · exact .inr ⟨ge_f (by omega), by omega⟩
theorem c_lt (x y : Int32) : (cmpB .lt x y = true ∧ x.toInt < y.toInt) ∨ (cmpB .lt x y = false ∧ y.toInt ≤ x.toInt) := by
  by_cases h : x.toInt < y.toInt
  · exact .inl ⟨lt_t h, h⟩
  · exact .inr ⟨lt_f (by omega), by omega⟩
theorem c_le (x y : Int32) : (cmpB .le x y = true ∧ x.toInt ≤ y.toInt) ∨ (cmpB .le x y = false ∧ y.toInt < x.toInt) := by
  by_cases h : x.toInt ≤ y.toInt
  · exact .inl ⟨le_t h, h⟩
  · exact .inr ⟨le_f (by omega), by omega⟩
theorem c_gt (x y : Int32) : (cmpB .gt x y = true ∧ y.toInt < x.toInt) ∨ (cmpB .gt x y = false ∧ x.toInt ≤ y.toInt) := by
  by_cases h : y.toInt < x.toInt
  · exact .inl ⟨gt_t h, h⟩
  · exact .inr ⟨gt_f (by omega), by omega⟩
theorem c_ne (x y : Int32) : (cmpB .ne x y = true ∧ x.toInt ≠ y.toInt) ∨ (cmpB .ne x y = false ∧ x.toInt = y.toInt) := by
  by_cases h : x.toInt = y.toInt
  · exact .inr ⟨ne_f h, h⟩
  · exact .inl ⟨ne_t h, h⟩
theorem c_eq (x y : Int32) : (cmpB .eq x y = true ∧ x.toInt = y.toInt) ∨ (cmpB .eq x y = false ∧ x.toInt ≠ y.toInt) := by
  by_cases h : x.toInt = y.toInt
  · exact .inl ⟨eq_t h, h⟩
  · exact .inr ⟨eq_f h, h⟩
theorem ad_i (h1 : -2147483648 ≤ x.toInt + y.toInt) (h2 : x.toInt + y.toInt ≤ 2147483647) : (x + y).toInt = x.toInt + y.toInt := by
  rw [Int32.toInt_add]
  exact bm32 h1 h2
theorem sb_i (h1 : -2147483648 ≤ x.toInt - y.toInt) (h2 : x.toInt - y.toInt ≤ 2147483647) : (x - y).toInt = x.toInt - y.toInt := by
  rw [Int32.toInt_sub]
  exact bm32 h1 h2
theorem mu_i (h1 : -2147483648 ≤ x.toInt * y.toInt) (h2 : x.toInt * y.toInt ≤ 2147483647) : (x * y).toInt = x.toInt * y.toInt := by
  rw [Int32.toInt_mul]
  exact bm32 h1 h2
theorem tnc (h : x.toInt = (c : Int)) : x.toNatClampNeg = c := by
  show x.toInt.toNat = c
  omega
theorem tnn (x : Int32) : x.toNatClampNeg = x.toInt.toNat := rfl
end I32
theorem ei_up {md : MDs} {S0 S : WS} {c : Nat} (h : UPD md S0 S) (h1 : mdF md (ctyC c) 1000 = false) (h2 : mdF md (ctyC c) 1001 = false) : ei (WD S) c = ei (WD S0) c := by
  funext j
  unfold ei
  rw [ea_of (h.2.2.2.1 c h1 h2)]
/-! termOf -/
def mdT : MDs := [(47, 51), (81, 1000)]
theorem termOf_5 (ev : EV') : ∀ (n c d : Nat) (x2 x3 x4 : Int32) (o1 o5 o6 o7 : Option Value) (S : WS), wok EC (WD S) → x4.toInt = (c : Int) → x2.toInt = ((c + n : Nat) : Int) → x3.toInt = (d : Int) → c + n ≤ 840 → d + n ≤ 400 → vld (ei (WD S) 178) (ei (WD S) 179) n c d →
    ∃ r S', limK ev (mdOf 228) 5 [some (.ref 148), o1, some (.int x2), some (.int x3), some (.int x4), o5, o6, o7] [] S = some (some (.int r), S') ∧ UPD mdT S S' := by
  intro n
  induction n with
  | zero =>
    intro c d x2 x3 x4 o1 o5 o6 o7 S hw h4 h2 h3 hc hd _
    refine ⟨S.1 182 0, S, ?_, up_r hw⟩
    rw [q_X12_termOf_5, ge_t (by omega)]
    rfl
  | succ n ih =>
    intro c d x2 x3 x4 o1 o5 o6 o7 S hw h4 h2 h3 hc hd hv
    have hin : inR x4 840 = true := inR_of (by omega) (by omega)
    have hx4 : x4.toNatClampNeg = c := tnc h4
    have hcd : ei (WD S) 178 c = (S.1 178 c).toInt := ei_wd (n := 840) (t := 0) rfl rfl (by omega)
    have hci : ei (WD S) 179 c = (S.1 179 c).toInt := ei_wd (n := 840) (t := 0) rfl rfl (by omega)
    have hty := wel (c := 178) (j := c) hw rfl rfl rfl (by decide) (show c < 840 by omega)
    have hty : 0 ≤ (S.1 178 c).toInt ∧ (S.1 178 c).toInt ≤ 5 := hty
    have hv : (ei (WD S) 178 c < 2 → (ei (WD S) 178 c = 1 → 0 ≤ ei (WD S) 179 c ∧ ei (WD S) 179 c ≤ 6) ∧ vld (ei (WD S) 178) (ei (WD S) 179) n (c + 1) (d + 1)) ∧ (2 ≤ ei (WD S) 178 c → 2 ≤ d ∧ vld (ei (WD S) 178) (ei (WD S) 179) n (c + 1) (d - 1)) := hv
    rw [hcd, hci] at hv
    have h41 : (x4 + 1).toInt = ((c + 1 : Nat) : Int) := by
      rw [ad_i (by show _ ≤ x4.toInt + 1; omega) (by show x4.toInt + 1 ≤ _; omega)]
      show x4.toInt + 1 = _
      omega
    have hnext : ∀ (j d' : Nat) (y x3' : Int32) (o5 o6 o7 : Option Value), x3'.toInt = (d' : Int) → d' + n ≤ 400 → vld (ei (WD S) 178) (ei (WD S) 179) n (c + 1) d' → ∃ r S', limK ev (mdOf 228) 159 [some (.ref 148), o1, some (.int x2), some (.int x3'), some (.int x4), o5, o6, o7] [] (uI S 182 j y) = some (some (.int r), S') ∧ UPD mdT S S' := by
      intro j d' y x3' o5 o6 o7 e1 e2 e3
      have hu : UPD mdT S (uI S 182 j y) := up_a (t := 0) (n := 400) (up_r hw) rfl rfl rfl (.inl rfl) (r32 y)
      rw [q_X12_termOf_159]
      obtain ⟨r, S', k1, k2⟩ := ih (c + 1) d' x2 x3' (x4 + 1) o1 o5 o6 o7 (uI S 182 j y) hu.1 h41 (by omega) e1 (by omega) e2 (by rw [ei_up hu rfl rfl, ei_up hu rfl rfl]; exact e3)
      exact ⟨r, S', k1, up_t hu k2⟩
    rw [q_X12_termOf_5, ge_f (by omega), cond_false, hin, cond_true, hx4]
    rcases c_ge (S.1 178 c) 2 with ⟨k1, k2⟩ | ⟨k1, k2⟩
    · have k2 : 2 ≤ (S.1 178 c).toInt := k2
      obtain ⟨hd2, hv2⟩ := hv.2 k2
      have hx31 : (x3 + Int32.ofInt (-1)).toInt = ((d - 1 : Nat) : Int) := by
        rw [ad_i (by show _ ≤ x3.toInt + (-1); omega) (by show x3.toInt + (-1) ≤ _; omega)]
        show x3.toInt + (-1) = _
        omega
      rw [k1, cond_true, q_X12_termOf_65]
      generalize (x3 + Int32.ofInt (-1)) = x3' at hx31 ⊢
      have hx32 : (x3' - 1).toInt = ((d - 2 : Nat) : Int) := by
        rw [sb_i (by show _ ≤ x3'.toInt - 1; omega) (by show x3'.toInt - 1 ≤ _; omega)]
        show x3'.toInt - 1 = _
        omega
      have i1 : inR (x3' - 1) 400 = true := inR_of (by omega) (by omega)
      have i2 : inR x3' 400 = true := inR_of (by omega) (by omega)
      have h104 : ∀ (x6 x7 : Int32), ((S.1 178 c).toInt ≠ 5 ∨ x7.toInt ≠ 0) → ∃ r S', limK ev (mdOf 228) 104 [some (.ref 148), o1, some (.int x2), some (.int x3'), some (.int x4), some (.int (S.1 178 c)), some (.int x6), some (.int x7)] [] S = some (some (.int r), S') ∧ UPD mdT S S' := by
        intro x6 x7 h5
        have h158 : ∀ y2 : Int32, ∃ r S', limK ev (mdOf 228) 158 [some (.ref 148), o1, some (.int x2), some (.int x3'), some (.int x4), some (.int (S.1 178 c)), some (.int x6), some (.int x7)] [.int y2, .int (x3' - (1 : Int32)), .ref 182] S = some (some (.int r), S') ∧ UPD mdT S S' := by
          intro y2
          rw [q_X12_termOf_158, i1, cond_true]
          exact hnext _ (d - 1) y2 x3' _ _ _ hx31 (by omega) hv2
        rw [q_X12_termOf_104]
        rcases c_ne (S.1 178 c) 2 with ⟨a1, a2⟩ | ⟨a1, a2⟩
        · rw [a1, cond_true]
          rcases c_ne (S.1 178 c) 3 with ⟨b1, b2⟩ | ⟨b1, b2⟩
          · rw [b1, cond_true]
            rcases c_ne (S.1 178 c) 4 with ⟨d1, d2⟩ | ⟨d1, d2⟩
            · have a2 : (S.1 178 c).toInt ≠ 2 := a2
              have b2 : (S.1 178 c).toInt ≠ 3 := b2
              have d2 : (S.1 178 c).toInt ≠ 4 := d2
              have h7 : x7.toInt ≠ 0 := by
                rcases h5 with h5 | h5
                · omega
                · exact h5
              rw [d1, cond_true, decide_eq_false (fun q => h7 (by rw [q]; rfl)), cond_false]
              exact h158 _
            · rw [d1, cond_false]; exact h158 _
          · rw [b1, cond_false]; exact h158 _
        · rw [a1, cond_false]; exact h158 _
      rw [q_X12_termOf_68, i1, cond_true, i2, cond_true]
      rcases c_ne (S.1 178 c) 5 with ⟨a1, a2⟩ | ⟨a1, a2⟩
      · rw [a1, cond_true]
        exact h104 _ _ (.inl a2)
      · rw [a1, cond_false]
        rcases c_ne (S.1 182 x3'.toNatClampNeg) 0 with ⟨b1, b2⟩ | ⟨b1, b2⟩
        · rw [b1, cond_true]
          exact h104 _ _ (.inr b2)
        · rw [b1, cond_false, q_X12_termOf_97]
          exact ⟨0, _, rfl, up_f (up_r hw) rfl rfl rfl rfl rfl ⟨by decide, by decide⟩⟩
    · have k2 : (S.1 178 c).toInt < 2 := k2
      obtain ⟨hv1, hv2⟩ := hv.1 k2
      have hx31 : (x3 + 1).toInt = ((d + 1 : Nat) : Int) := by
        rw [ad_i (by show _ ≤ x3.toInt + 1; omega) (by show x3.toInt + 1 ≤ _; omega)]
        show x3.toInt + 1 = _
        omega
      have i1 : inR x3 400 = true := inR_of (by omega) (by omega)
      have h58 : ∀ y2 : Int32, ∃ r S', limK ev (mdOf 228) 58 [some (.ref 148), o1, some (.int x2), some (.int x3), some (.int x4), some (.int (S.1 178 c)), o6, o7] [.int y2, .int x3, .ref 182] S = some (some (.int r), S') ∧ UPD mdT S S' := by
        intro y2
        rw [q_X12_termOf_58, i1, cond_true]
        exact hnext _ (d + 1) y2 (x3 + 1) _ _ _ hx31 (by omega) hv2
      rw [k1, cond_false, q_X12_termOf_26, hin, cond_true, hx4]
      rcases c_ne (S.1 178 c) 0 with ⟨a1, a2⟩ | ⟨a1, a2⟩
      · have a2 : (S.1 178 c).toInt ≠ 0 := a2
        have h1 := hv1 (by omega)
        rw [a1, cond_true, inR_of (n := 7) h1.1 (by omega), cond_true]
        exact h58 _
      · rw [a1, cond_false]
        exact h58 _
theorem termOf_rx {d : Nat} {S : WS} {x y : Int32} {l : Int} (hw : wok EC (WD S)) (hl : 0 ≤ l ∧ l ≤ 420) (h : Seg (ei (WD S) 178) (ei (WD S) 179) l x.toInt y.toInt) : ∃ r S', RX (d + 1) 228 [.ref 148, .int x, .int y] S = some (some (.int r), S') ∧ UPD mdT S S' := by
  obtain ⟨h1, h2, h3, h4, h5⟩ := h
  rw [e_X12_termOf, q_X12_termOf_0]
  exact termOf_5 (RX d) (y.toInt - x.toInt).toNat x.toInt.toNat 0 y 0 x _ _ _ _ S hw (by omega) (by omega) rfl (by omega) (by omega) h5
/-! doesNow -/
def mdD : MDs := [(47, 51), (81, 1000), (80, 1000)]
theorem kb_some {ev : EV'} {k : KT} {pc : Nat} {vec : List (Option Value)} {rest : List Value} {o : Option RK} {r : Option Value} {S' : WS} (h : o = some (r, S')) : kbd k pc vec rest o = k pc vec (r.toList ++ rest) S' := by rw [h]; rfl
end
section
/-! doesNow -/
abbrev LawS (S : WS) (v : Int) (a : Nat) : Prop := LawOK v (ei (WD S) 171) (ei (WD S) 172) (ei (WD S) 173) (ei (WD S) 174) (ei (WD S) 175) (ei (WD S) 176) (ei (WD S) 177) (ei (WD S) 178) (ei (WD S) 179) a
theorem law_up {md : MDs} {S S' : WS} {v : Int} {a : Nat} (h : UPD md S S') (hm : fpM.all (fun q => !(mdF md q.1 q.2)) = true) (hL : LawS S v a) : LawS S' v a := by
  have hq : ∀ q ∈ fpM, mdF md q.1 q.2 = false := fun q hq => by simpa using List.all_eq_true.mp hm q hq
  unfold LawS
  rw [ei_up (c := 171) h (hq (70, 1000) (by decide)) (hq (70, 1001) (by decide)), ei_up (c := 172) h (hq (71, 1000) (by decide)) (hq (71, 1001) (by decide)), ei_up (c := 173) h (hq (72, 1000) (by decide)) (hq (72, 1001) (by decide)), ei_up (c := 174) h (hq (73, 1000) (by decide)) (hq (73, 1001) (by decide)), ei_up (c := 175) h (hq (74, 1000) (by decide)) (hq (74, 1001) (by decide)), ei_up (c := 176) h (hq (75, 1000) (by decide)) (hq (75, 1001) (by decide)), ei_up (c := 177) h (hq (76, 1000) (by decide)) (hq (76, 1001) (by decide)), ei_up (c := 178) h (hq (77, 1000) (by decide)) (hq (77, 1001) (by decide)), ei_up (c := 179) h (hq (78, 1000) (by decide)) (hq (78, 1001) (by decide))]
  exact hL
theorem up_er {md : MDs} {S0 S : WS} {c j t n : Nat} (h : UPD md S0 S) (hc : Nat.blt c 200 = true) (hs : shC c = (1, t, n)) (h1 : mdF md (ctyC c) 1000 = false) (h2 : mdF md (ctyC c) 1001 = false) (hj : j < n) : S.1 c j = S0.1 c j := by
  have := ea_of (j := j) (h.2.2.2.1 c h1 h2)
  rw [ea_wd hc hs hj, ea_wd hc hs hj] at this
  exact Option.some.inj this
theorem doesNow_247 {d b : Nat} {S : WS} {x4 : Int32} {l : Int} (o1 o2 o3 o5 o6 : Option Value) (hl : 0 ≤ l ∧ l ≤ 420) (hw : wok EC (WD S)) (h4 : x4.toInt = (b : Int)) (hb : b < 260) (hs : Seg (ei (WD S) 178) (ei (WD S) 179) l (ei (WD S) 176 b) (ei (WD S) 177 b)) :
    ∃ r S', limK (RX (d + 1)) (mdOf 238) 247 [some (.ref 148), o1, o2, o3, some (.int x4), o5, o6] [] S = some (some (.int r), S') ∧ UPD mdT S S' := by
  rw [ei_wd (t := 0) (n := 260) rfl rfl hb, ei_wd (t := 0) (n := 260) rfl rfl hb] at hs
  obtain ⟨r, S1, h1, h2⟩ := termOf_rx (d := d) hw hl hs
  have i1 : inR x4 260 = true := inR_of (by omega) (by omega)
  rw [q_X12_doesNow_247, i1, cond_true, cond_true, tnc h4, h1]
  show ∃ r' S', limK (RX (d + 1)) (mdOf 238) 265 _ [.int r] S1 = _ ∧ _
  rw [q_X12_doesNow_265]
  cases cmpB .eq (S1.1 148 51) 0 with
  | true => rw [cond_true, q_X12_doesNow_280]; exact ⟨r, S1, rfl, h2⟩
  | false => rw [cond_false, q_X12_doesNow_280]; exact ⟨0, S1, rfl, h2⟩
theorem doesNow_167 {d a : Nat} {v : Int} (hv : 0 ≤ v ∧ v ≤ 1) : ∀ (n b : Nat) (S : WS) (x2 x4 : Int32) (o1 o3 o5 o6 : Option Value), wok EC (WD S) → x2.toInt = (a : Int) → a < 12 → x4.toInt = (b : Int) → ei (WD S) 171 a ≤ (b : Int) → (ei (WD S) 172 a - b).toNat ≤ n → LawS S v a →
    ∃ r S', limK (RX (d + 1)) (mdOf 238) 167 [some (.ref 148), o1, some (.int x2), o3, some (.int x4), o5, o6] [] S = some (some (.int r), S') ∧ UPD mdT S S' := by
  have hl : 0 ≤ 420 * v ∧ 420 * v ≤ 420 := by omega
  intro n
  induction n with
  | zero =>
    intro b S x2 x4 o1 o3 o5 o6 hw h2 ha h4 hf hn hL
    rw [ei_wd (t := 0) (n := 12) rfl rfl ha] at hn
    rw [q_X12_doesNow_167, inR_of (n := 12) (by omega) (by omega), cond_true, tnc h2, ge_t (by omega)]
    exact ⟨0, S, rfl, up_r hw⟩
  | succ n ih =>
    intro b S x2 x4 o1 o3 o5 o6 hw h2 ha h4 hf hn hL
    have e72 : ei (WD S) 172 a = (S.1 172 a).toInt := ei_wd (t := 0) (n := 12) rfl rfl ha
    have ty : 0 ≤ (S.1 172 a).toInt ∧ (S.1 172 a).toInt ≤ 259 := wel (c := 172) (j := a) hw rfl rfl rfl (by decide) (show a < 12 from ha)
    rw [q_X12_doesNow_167, inR_of (n := 12) (by omega) (by omega), cond_true, tnc h2]
    rcases c_ge x4 (S.1 172 a) with ⟨k1, k2⟩ | ⟨k1, k2⟩
    · rw [k1]
      exact ⟨0, S, rfl, up_r hw⟩
    · have hb : b < 260 := by omega
      have i1 : inR x4 260 = true := inR_of (by omega) (by omega)
      obtain ⟨-, L1, L2⟩ := hL b hf (by omega)
      rw [k1, cond_false, i1, cond_true, tnc h4]
      rcases c_eq (S.1 173 b) 0 with ⟨a1, a2⟩ | ⟨a1, a2⟩
      · rw [a1, cond_true]
        exact doesNow_247 _ _ _ _ _ hl hw h4 hb L2
      · have e73 : ei (WD S) 173 b = (S.1 173 b).toInt := ei_wd (t := 2) (n := 260) rfl rfl hb
        obtain ⟨g1, g2⟩ := L1 (by rw [e73]; exact a2)
        rw [ei_wd (c := 174) (t := 0) (n := 260) rfl rfl hb, ei_wd (c := 175) (t := 0) (n := 260) rfl rfl hb] at g1
        rw [ei_wd (c := 175) (t := 0) (n := 260) rfl rfl hb, ei_wd (c := 176) (t := 0) (n := 260) rfl rfl hb] at g2
        obtain ⟨r1, S1, t1, u1⟩ := termOf_rx (d := d) hw hl g1
        rw [a1, cond_false, cond_true, cond_true, t1]
        show ∃ r' S', limK (RX (d + 1)) (mdOf 238) 206 _ [.int r1] S1 = _ ∧ _
        have e75 : S1.1 175 b = S.1 175 b := up_er u1 (t := 0) (n := 260) rfl rfl rfl rfl hb
        have e76 : S1.1 176 b = S.1 176 b := up_er u1 (t := 0) (n := 260) rfl rfl rfl rfl hb
        obtain ⟨r2, S2, t2, u2⟩ := termOf_rx (d := d) (x := S1.1 175 b) (y := S1.1 176 b) u1.1 hl (by rw [e75, e76, ei_up u1 rfl rfl, ei_up u1 rfl rfl]; exact g2)
        rw [q_X12_doesNow_206, i1, cond_true, cond_true, tnc h4, t2]
        show ∃ r' S', limK (RX (d + 1)) (mdOf 238) 226 _ [.int r2] S2 = _ ∧ _
        have u12 := up_t u1 u2
        have hL2 := law_up u12 rfl hL
        rw [q_X12_doesNow_226]
        cases cmpB .eq (S2.1 148 51) 0 with
        | false => exact ⟨0, S2, rfl, u12⟩
        | true =>
          rw [cond_true]
          cases cmpB .lt r1 r2 with
          | true =>
            rw [cond_true]
            obtain ⟨r, S', q1, q2⟩ := doesNow_247 (d := d) o1 (some (.int x2)) o3 (some (.int r1)) (some (.int r2)) hl u12.1 h4 hb (by rw [ei_up u12 rfl rfl, ei_up u12 rfl rfl, ei_up u12 rfl rfl, ei_up u12 rfl rfl]; exact L2)
            exact ⟨r, S', q1, up_t u12 q2⟩
          | false =>
            rw [cond_false]
            have h41 : (x4 + 1).toInt = ((b + 1 : Nat) : Int) := by
              rw [ad_i (by show _ ≤ x4.toInt + 1; omega) (by show x4.toInt + 1 ≤ _; omega)]
              show x4.toInt + 1 = _
              omega
            obtain ⟨r, S', q1, q2⟩ := ih (b + 1) S2 x2 (x4 + 1) o1 (dr2 o3) (some (.int r1)) (some (.int r2)) u12.1 h2 ha h41 (by rw [ei_up u12 rfl rfl]; omega) (by rw [ei_up u12 rfl rfl]; omega) hL2
            exact ⟨r, S', q1, up_t u12 q2⟩
theorem doesNow_rx {d : Nat} {S : WS} {x : Int32} (hw : wok EC (WD S)) (hJ : JM (WD S)) (hx : 0 ≤ x.toInt ∧ x.toInt ≤ 5) (hr : 0 ≤ (S.1 186 0).toInt ∧ (S.1 186 0).toInt ≤ 9) : ∃ r S', RX (d + 2) 238 [.ref 148, .int x] S = some (some (.int r), S') ∧ UPD mdD S S' := by
  have hv : 0 ≤ (S.1 148 18).toInt ∧ (S.1 148 18).toInt ≤ 1 := wfd (a := .inl (0, 0)) hw rfl rfl rfl rfl
  have hL := hJ.2.2.2.2.2 x.toInt.toNat (by omega)
  rw [fi_wd (by decide) (by decide)] at hL
  have hi : ((6 : Int32) * (S.1 148 18) + x).toInt = ((6 * (S.1 148 18).toInt.toNat + x.toInt.toNat : Nat) : Int) := by
    have h6 : ((6 : Int32) * (S.1 148 18)).toInt = 6 * (S.1 148 18).toInt := mu_i (by show _ ≤ 6 * _; omega) (by show 6 * _ ≤ _; omega)
    rw [ad_i (by omega) (by omega), h6]
    omega
  have hs : ((10 : Int32) * (S.1 148 18) + S.1 186 0).toInt = 10 * (S.1 148 18).toInt + (S.1 186 0).toInt := by
    have h6 : ((10 : Int32) * (S.1 148 18)).toInt = 10 * (S.1 148 18).toInt := mu_i (by show _ ≤ 10 * _; omega) (by show 10 * _ ≤ _; omega)
    rw [ad_i (by omega) (by omega), h6]
  have h35 : ((35 : Int32) + (10 : Int32) * x + S.1 186 0).toInt = 35 + 10 * x.toInt + (S.1 186 0).toInt := by
    have h6 : ((10 : Int32) * x).toInt = 10 * x.toInt := mu_i (by show _ ≤ 10 * _; omega) (by show 10 * _ ≤ _; omega)
    have h7 : ((35 : Int32) + (10 : Int32) * x).toInt = 35 + 10 * x.toInt := by
      rw [ad_i (by rw [h6]; show _ ≤ 35 + _; omega) (by rw [h6]; show 35 + _ ≤ _; omega), h6]
      rfl
    rw [ad_i (by omega) (by omega), h7]
  have h4 : ((4 : Int32) + x).toInt = 4 + x.toInt := ad_i (by show _ ≤ 4 + _; omega) (by show 4 + _ ≤ _; omega)
  have h10 : ((10 : Int32) + x).toInt = 10 + x.toInt := ad_i (by show _ ≤ 10 + _; omega) (by show 10 + _ ≤ _; omega)
  rw [e_X12_doesNow, q_X12_doesNow_0]
  generalize hat : (6 : Int32) * (S.1 148 18) + x = at_ at hi ⊢
  rw [inR_of (x := at_) (n := 12) (by omega) (by omega), cond_true, cond_true]
  cases cmpB .eq (S.1 171 at_.toNatClampNeg) (S.1 172 at_.toNatClampNeg) with
  | true =>
    rw [cond_true, q_X12_doesNow_33]
    exact ⟨0, S, rfl, up_r hw⟩
  | false =>
    rw [cond_false]
    cases cmpB .ne x (S.1 148 57) with
    | false =>
      rw [cond_false, q_X12_doesNow_33]
      exact ⟨0, S, rfl, up_r hw⟩
    | true =>
      rw [cond_true, inR_of (n := 20) (by omega) (by omega), cond_true, inR_of (n := 96) (by omega) (by omega), cond_true, cond_true, inR_of (n := 96) (by omega) (by omega), cond_true, inR_of (n := 96) (by omega) (by omega), cond_true, cond_true]
      have hu : ∀ (z0 z1 z2 z3 z4 z5 z6 : Int32), UPD mdD S (uI (uI (uI (uI (uI (uI (uI (uI S 181 0 z0) 181 1 z1) 181 2 z2) 181 3 z3) 181 4 z4) 181 5 z5) 181 6 z6) 148 51 0) := fun z0 z1 z2 z3 z4 z5 z6 => by
        refine up_f ?_ rfl rfl rfl rfl rfl ⟨by decide, by decide⟩
        have st : ∀ {S1 : WS} (j : Nat) (z : Int32), UPD mdD S S1 → UPD mdD S (uI S1 181 j z) := fun j z h => up_a (t := 0) (n := 7) h rfl rfl rfl (.inl rfl) (r32 z)
        exact st 6 z6 (st 5 z5 (st 4 z4 (st 3 z3 (st 2 z2 (st 1 z1 (st 0 z0 (up_r hw)))))))
      have hu := hu (S.1 186 0) (S.1 159 ((10 : Int32) * (S.1 148 18) + S.1 186 0).toNatClampNeg) (S.1 186 2 / 24) (S.1 186 ((35 : Int32) + (10 : Int32) * x + S.1 186 0).toNatClampNeg) (S.1 161 ((10 : Int32) * (S.1 148 18) + S.1 186 0).toNatClampNeg) (S.1 186 ((4 : Int32) + x).toNatClampNeg) (S.1 186 ((10 : Int32) + x).toNatClampNeg)
      have hlf : 0 ≤ (S.1 171 at_.toNatClampNeg).toInt ∧ (S.1 171 at_.toNatClampNeg).toInt ≤ 259 := wel (c := 171) hw rfl rfl rfl (by decide) (show at_.toNatClampNeg < 12 by rw [tnn]; omega)
      obtain ⟨r, S', q1, q2⟩ := doesNow_167 (d := d) (a := at_.toNatClampNeg) hv _ (S.1 171 at_.toNatClampNeg).toInt.toNat _ at_ (S.1 171 at_.toNatClampNeg) (some (.int x)) (some (.int (S.1 186 0))) none none hu.1 (by rw [tnn]; omega) (by rw [tnn]; omega) (by omega) (by rw [ei_up hu rfl rfl, ei_wd (t := 0) (n := 12) rfl rfl (by rw [tnn]; omega)]; omega) (Nat.le_refl _) (law_up hu rfl (by rw [tnn, hi]; exact hL))
      exact ⟨r, S', q1, up_t hu (up_le rfl q2)⟩
theorem el_f {sl j : Nat} {S : WS} {lo hi : Int} {t n c : Nat} (h : ges EC 148 [] [(sl, .inl ((j : Int), (j : Int)), .inl (lo, hi))] (WD S)) (hc : arrC 148 sl = c) (h1 : Nat.blt c 200 = true) (hs : shC c = (1, t, n)) (hj : j < n) : lo ≤ (S.1 c j).toInt ∧ (S.1 c j).toInt ≤ hi := by
  obtain ⟨i, x, g1, g2, g3⟩ := h _ List.mem_cons_self
  have e : i = j := by
    have g1 : (j : Int) = (i : Int) ∧ (j : Int) = (i : Int) := g1
    omega
  subst e
  have g2 : ea (WD S) (arrC 148 sl) i = some x := g2
  rw [hc, ea_wd h1 hs hj] at g2
  cases g2
  obtain ⟨y, y1, y2⟩ := g3
  cases y1
  exact y2
theorem cp_i {c : Ctr} {S S' : WS} {md : MDs} {r : Int32} {lo hi : Int} (hJ : JM (WD S)) (hu : UPD md S S') (hm : fpM.all (fun q => !(mdF md q.1 q.2)) = true) (h1 : c.2.2.2.1 = md) (h2 : c.2.2.2.2 = [(some (.inl (lo, hi)), ([], []))]) (hr : lo ≤ r.toInt ∧ r.toInt ≤ hi) : CPost EC JM 148 (WD S) c (some (.int r)) (WD S') := by
  refine ⟨hu.1, up_jm hu hm hJ, by rw [h1]; exact hu.2, (some (.inl (lo, hi)), ([], [])), by rw [h2]; exact List.mem_cons_self, ⟨r, rfl, hr⟩, nof, noe⟩
theorem cp_v {c : Ctr} {S S' : WS} {md : MDs} (hJ : JM (WD S)) (hu : UPD md S S') (hm : fpM.all (fun q => !(mdF md q.1 q.2)) = true) (h1 : c.2.2.2.1 = md) (h2 : c.2.2.2.2 = [(none, ([], []))]) : CPost EC JM 148 (WD S) c none (WD S') := by
  refine ⟨hu.1, up_jm hu hm hJ, by rw [h1]; exact hu.2, (none, ([], [])), by rw [h2]; exact List.mem_cons_self, trivial, nof, noe⟩
theorem s_hand_X12_doesNow_0 : Sat EC JM 4 238 c_hand_X12_doesNow_0 := sat_rx rfl rfl (fun av S hw hJ ha hf he => by
  match av, ha with
  | [v0, v1], ⟨g0, ⟨x, g1, g2⟩, _⟩ =>
    have g0 : v0 = .ref 148 := g0
    subst g0
    subst g1
    obtain ⟨r, S', q1, q2⟩ := doesNow_rx (d := 2) hw hJ g2 (el_f (j := 0) he rfl rfl rfl (by decide))
    exact ⟨_, S', q1, cp_i hJ q2 rfl rfl rfl (r32 r)⟩)
theorem s_hand_X12_doesNow_1 : Sat EC JM 4 238 c_hand_X12_doesNow_1 := sat_rx rfl rfl (fun av S hw hJ ha hf he => by
  match av, ha with
  | [v0, v1], ⟨g0, ⟨x, g1, g2⟩, _⟩ =>
    have g0 : v0 = .ref 148 := g0
    subst g0
    subst g1
    obtain ⟨r, S', q1, q2⟩ := doesNow_rx (d := 2) hw hJ g2 (el_f (j := 0) he rfl rfl rfl (by decide))
    exact ⟨_, S', q1, cp_i hJ q2 rfl rfl rfl (r32 r)⟩)
end
section
/-! the reference's numbers -/
abbrev vN (S : WS) : Nat := (S.1 148 18).toInt.toNat
abbrev stN (S : WS) : Int := (S.1 158 (vN S)).toInt
section BAS
variable {S : WS} {x : Int32}
theorem lv01 (hw : wok EC (WD S)) : 0 ≤ (S.1 148 18).toInt ∧ (S.1 148 18).toInt ≤ 1 := wfd (a := .inl (0, 0)) hw rfl rfl rfl rfl
theorem vN2 (hw : wok EC (WD S)) : vN S < 2 := by have := lv01 hw; unfold vN; omega
theorem lvE (hw : wok EC (WD S)) : (S.1 148 18).toInt = (vN S : Int) := by have := lv01 hw; unfold vN; omega
theorem inlv (hw : wok EC (WD S)) : inR (S.1 148 18) 2 = true := by have := lv01 hw; exact inR_of (by omega) (by omega)
theorem st10 (hw : wok EC (WD S)) : 0 ≤ stN S ∧ stN S ≤ 10 := wel (c := 158) hw rfl rfl rfl (by decide) (show vN S < 2 from vN2 hw)
theorem ix10 (hw : wok EC (WD S)) (hx : 0 ≤ x.toInt ∧ x.toInt ≤ 9) : ((10 : Int32) * (S.1 148 18) + x).toInt = ((10 * vN S + x.toInt.toNat : Nat) : Int) := by
  have := lv01 hw
  have h6 : ((10 : Int32) * (S.1 148 18)).toInt = 10 * (S.1 148 18).toInt := mu_i (by show _ ≤ 10 * _; omega) (by show 10 * _ ≤ _; omega)
  rw [ad_i (by omega) (by omega), h6]
  unfold vN
  omega
theorem wy4 (hw : wok EC (WD S)) {j : Nat} (hj : j < 20) : 0 ≤ (S.1 161 j).toInt ∧ (S.1 161 j).toInt ≤ 4 := wel (c := 161) hw rfl rfl rfl (by decide) hj
theorem wt9 (hw : wok EC (WD S)) {j : Nat} (hj : j < 80) : -1 ≤ (S.1 162 j).toInt ∧ (S.1 162 j).toInt ≤ 9 := wel (c := 162) hw rfl rfl rfl (by decide) hj
theorem bg9 (hw : wok EC (WD S)) {j : Nat} (hj : j < 2) : 0 ≤ (S.1 168 j).toInt ∧ (S.1 168 j).toInt ≤ 9 := wel (c := 168) hw rfl rfl rfl (by decide) hj
theorem rw0 (hw : wok EC (WD S)) : -2 ≤ (S.1 186 0).toInt ∧ (S.1 186 0).toInt ≤ 9 := wel (c := 186) hw rfl rfl rfl (by decide) (show 0 < 96 by decide)
theorem rw1 (hw : wok EC (WD S)) : -2 ≤ (S.1 186 1).toInt ∧ (S.1 186 1).toInt ≤ 5 := wel (c := 186) hw rfl rfl rfl (by decide) (show 1 < 96 by decide)
theorem rw2 (hw : wok EC (WD S)) : 0 ≤ (S.1 186 2).toInt ∧ (S.1 186 2).toInt ≤ 600 := wel (c := 186) hw rfl rfl rfl (by decide) (show 2 < 96 by decide)
theorem nw0 (hw : wok EC (WD S)) : -2 ≤ (S.1 183 0).toInt ∧ (S.1 183 0).toInt ≤ 9 := wel (c := 183) hw rfl rfl rfl (by decide) (show 0 < 96 by decide)
theorem nw2 (hw : wok EC (WD S)) : 0 ≤ (S.1 183 2).toInt ∧ (S.1 183 2).toInt ≤ 600 := wel (c := 183) hw rfl rfl rfl (by decide) (show 2 < 96 by decide)
theorem sl6 (hw : wok EC (WD S)) : 0 ≤ (S.1 164 (vN S)).toInt ∧ (S.1 164 (vN S)).toInt ≤ 6 := wel (c := 164) hw rfl rfl rfl (by decide) (show vN S < 2 from vN2 hw)
theorem jm_w (hw : wok EC (WD S)) (hJ : JM (WD S)) {s k : Nat} (hs : (s : Int) < stN S) (hk : (k : Int) < (S.1 161 (10 * vN S + s)).toInt) : 0 ≤ (S.1 162 (4 * (10 * vN S + s) + k)).toInt ∧ (S.1 162 (4 * (10 * vN S + s) + k)).toInt < stN S := by
  have h1 := hJ.2.1 s k
  have := st10 hw
  have := vN2 hw
  have h4 := wy4 hw (show 10 * vN S + s < 20 by omega)
  rw [fi_wd (by decide) (by decide)] at h1
  rw [ei_wd (c := 158) (t := 0) (n := 2) rfl rfl (show vN S < 2 from vN2 hw), ei_wd (c := 161) (t := 0) (n := 20) rfl rfl (show 10 * vN S + s < 20 by omega), ei_wd (c := 162) (t := 0) (n := 80) rfl rfl (show 4 * (10 * vN S + s) + k < 80 by omega)] at h1
  exact h1 hs hk
theorem jm_b (hw : wok EC (WD S)) (hJ : JM (WD S)) : stN S = 0 ∨ (S.1 168 (vN S)).toInt < stN S := by
  have h1 := hJ.2.2.1
  rw [fi_wd (by decide) (by decide)] at h1
  rw [ei_wd (c := 158) (t := 0) (n := 2) rfl rfl (show vN S < 2 from vN2 hw), ei_wd (c := 168) (t := 0) (n := 2) rfl rfl (show vN S < 2 from vN2 hw)] at h1
  exact h1
theorem isEnd_rx {d : Nat} (hw : wok EC (WD S)) (hx : 0 ≤ x.toInt ∧ x.toInt ≤ 9) : ∃ r : Int32, RX (d + 1) 239 [.ref 148, .int x] S = some (some (.int r), S) ∧ (r = 0 ∨ r = 1) ∧ (r = 0 → 1 ≤ (S.1 161 (10 * vN S + x.toInt.toNat)).toInt) := by
  have h10 := ix10 hw hx
  have := vN2 hw
  rw [e_X12_isEnd, q_X12_isEnd_0, inR_of (n := 20) (by omega) (by omega), cond_true, cond_true, tnc h10]
  have h1 : limK (RX d) (mdOf 239) 34 [some (.ref 148), some (.int x)] [] S = some (some (.int 1), S) := by
    rw [q_X12_isEnd_34, q_X12_isEnd_39]
    rfl
  cases cmpB .ne (S.1 160 (10 * vN S + x.toInt.toNat)) 0 with
  | true =>
    rw [cond_true, h1]
    exact ⟨1, rfl, .inr rfl, fun q => absurd q (by decide)⟩
  | false =>
    rw [cond_false]
    rcases c_ne (S.1 161 (10 * vN S + x.toInt.toNat)) 0 with ⟨a1, a2⟩ | ⟨a1, a2⟩
    · have a2 : (S.1 161 (10 * vN S + x.toInt.toNat)).toInt ≠ 0 := a2
      have h4 := wy4 hw (show 10 * vN S + x.toInt.toNat < 20 by omega)
      rw [a1, cond_true, q_X12_isEnd_39]
      exact ⟨0, rfl, .inl rfl, fun _ => by omega⟩
    · rw [a1, cond_false, h1]
      exact ⟨1, rfl, .inr rfl, fun q => absurd q (by decide)⟩
end BAS
/-! dreams -/
def mdR : MDs := c_hand_X12_dreams_0.2.2.2.1
theorem mdR_at {j : Nat} (h : j = 0 ∨ j = 3 ∨ (10 ≤ j ∧ j ≤ 21) ∨ (35 ≤ j ∧ j ≤ 94)) : mdF mdR 85 (2000 + j) = true := by
  have h1 : (List.range 95).all (fun j => !(decide (j = 0 ∨ j = 3 ∨ (10 ≤ j ∧ j ≤ 21) ∨ (35 ≤ j ∧ j ≤ 94))) || mdF mdR 85 (2000 + j)) = true := by decide +kernel
  have h2 := List.all_eq_true.mp h1 j (List.mem_range.mpr (by omega))
  rw [decide_eq_true h] at h2
  exact h2
/-- where the dream stands is a step, if there are any -/
def RG (S : WS) : Prop := stN S = 0 ∨ (0 ≤ (S.1 186 0).toInt ∧ (S.1 186 0).toInt < stN S)
section DRE
variable {S : WS}
theorem up_row {S0 : WS} {j : Nat} {z : Int32} (h : UPD mdR S0 S) (hj : j = 0 ∨ j = 3 ∨ (10 ≤ j ∧ j ≤ 21) ∨ (35 ≤ j ∧ j ≤ 94)) (hz : (rowT j).1 ≤ z.toInt ∧ z.toInt ≤ (rowT j).2) : UPD mdR S0 (uI S 186 j z) := up_a (t := 0) (n := 96) (el := .inr rowT) h rfl rfl rfl (.inr ⟨rfl, mdR_at hj⟩) hz
theorem rowT_t {j : Nat} (h : 3 ≤ j) (z : Int32) : (rowT j).1 ≤ z.toInt ∧ z.toInt ≤ (rowT j).2 := by
  unfold rowT
  rw [beq_ne (show j ≠ 0 by omega), beq_ne (show j ≠ 1 by omega), beq_ne (show j ≠ 2 by omega)]
  exact r32 z
theorem up_vN {md : MDs} {S0 : WS} (h : UPD md S0 S) (h1 : mdF md 47 18 = false) : S.1 148 18 = S0.1 148 18 := up_fl h rfl rfl h1
theorem dreams_107 {d : Nat} {S1 : WS} (o3 : Option Value) (hw : wok EC (WD S)) (hJ : JM (WD S)) (h1 : 0 ≤ (S.1 186 1).toInt) (h0 : 0 ≤ (S.1 186 0).toInt) (hu : UPD mdR S S1) (e0 : S1.1 186 0 = S.1 186 0) :
    ∃ S', kbd (limK (RX (d + 2)) (mdOf 241)) 107 [some (.ref 148), some (.int (S.1 186 1)), some (.int (S.1 186 0)), o3] [] (RX (d + 2) 239 [.ref 148, .int (S.1 186 0)] S1) = some (none, S') ∧ UPD mdR S S' ∧ (RG S → RG S') := by
  have hb1 := rw1 hw
  have hb0 := rw0 hw
  have hJ1 : JM (WD S1) := up_jm hu (by decide +kernel) hJ
  have eV : S1.1 148 18 = S.1 148 18 := up_vN hu (by decide +kernel)
  have eN : vN S1 = vN S := by unfold vN; rw [eV]
  have eS : stN S1 = stN S := by
    unfold stN
    rw [eN]
    exact congrArg Int32.toInt (up_er (c := 158) (t := 0) (n := 2) hu rfl rfl (by decide +kernel) (by decide +kernel) (vN2 hw))
  have hst := st10 hw
  have hv2 := vN2 hw
  obtain ⟨r, q1, q2, q3⟩ := isEnd_rx (d := d + 1) (x := S.1 186 0) hu.1 ⟨h0, hb0.2⟩
  rw [q1]
  show ∃ S', limK (RX (d + 2)) (mdOf 241) 107 _ [.int r] S1 = some (none, S') ∧ _
  rw [q_X12_dreams_107]
  rcases q2 with e | e
  · rw [e, show cmpB .eq (0 : Int32) 0 = true from rfl, cond_true]
    obtain ⟨z, S2, t1, t2⟩ := doesNow_rx (d := d) (S := S1) (x := S.1 186 1) hu.1 hJ1 ⟨h1, hb1.2⟩ (by rw [e0]; exact ⟨h0, hb0.2⟩)
    have hu2 : UPD mdR S S2 := up_t hu (up_le (by decide +kernel) t2)
    have eV2 : S2.1 148 18 = S.1 148 18 := up_vN hu2 (by decide +kernel)
    have eN2 : vN S2 = vN S := by unfold vN; rw [eV2]
    have eS2 : stN S2 = stN S := by
      unfold stN
      rw [eN2]
      exact congrArg Int32.toInt (up_er (c := 158) (t := 0) (n := 2) hu2 rfl rfl (by decide +kernel) (by decide +kernel) (vN2 hw))
    have hJ2 : JM (WD S2) := up_jm hu2 (by decide +kernel) hJ
    have hways : 1 ≤ (S2.1 161 (10 * vN S + (S.1 186 0).toInt.toNat)).toInt := by
      rw [up_er (c := 161) (t := 0) (n := 20) t2 rfl rfl (by decide +kernel) (by decide +kernel) (by omega), ← eN]
      exact q3 e
    have hw4 := wy4 hu2.1 (show 10 * vN S + (S.1 186 0).toInt.toNat < 20 by omega)
    rw [t1]
    show ∃ S', limK (RX (d + 2)) (mdOf 241) 141 _ [.int z] S2 = some (none, S') ∧ _
    have h186 : ∀ (y4 : Int32) (k : Nat), y4.toInt = (k : Int) → (k : Int) < (S2.1 161 (10 * vN S + (S.1 186 0).toInt.toNat)).toInt → ∃ S', limK (RX (d + 2)) (mdOf 241) 186 [some (.ref 148), some (.int (S.1 186 1)), some (.int (S.1 186 0)), some (.int z)] [.int y4, .int ((4 : Int32) * (((10 : Int32) * (S2.1 148 18)) + S.1 186 0)), .ref 162, .int (0 : Int32), .ref 186] S2 = some (none, S') ∧ UPD mdR S S' ∧ (RG S → RG S') := by
      intro y4 k hk hlt
      have h10 := ix10 (x := S.1 186 0) hu2.1 ⟨h0, hb0.2⟩
      rw [eN2] at h10
      have h40 : ((4 : Int32) * (((10 : Int32) * (S2.1 148 18)) + S.1 186 0)).toInt = ((4 * (10 * vN S + (S.1 186 0).toInt.toNat) : Nat) : Int) := by
        rw [mu_i (by rw [h10]; show _ ≤ 4 * _; omega) (by rw [h10]; show 4 * _ ≤ _; omega), h10]
        show 4 * _ = _
        omega
      have h44 : ((4 : Int32) * (((10 : Int32) * (S2.1 148 18)) + S.1 186 0) + y4).toInt = ((4 * (10 * vN S + (S.1 186 0).toInt.toNat) + k : Nat) : Int) := by
        rw [ad_i (by omega) (by omega)]
        omega
      have hty := wt9 hu2.1 (show 4 * (10 * vN S + (S.1 186 0).toInt.toNat) + k < 80 by omega)
      rw [q_X12_dreams_186, inR_of (n := 80) (by omega) (by omega), cond_true, show inR (0 : Int32) 96 = true from rfl, cond_true, tnc h44, show (0 : Int32).toNatClampNeg = 0 from rfl]
      refine ⟨_, rfl, up_row hu2 (.inl rfl) ⟨by show -2 ≤ _; omega, by show _ ≤ 9; omega⟩, fun hG => ?_⟩
      have eS3 : stN (uI S2 186 0 (S2.1 162 (4 * (10 * vN S + (S.1 186 0).toInt.toNat) + k))) = stN S := eS2
      unfold RG
      rw [eS3]
      rcases hG with hG | hG
      · exact .inl hG
      · refine .inr ?_
        show 0 ≤ (S2.1 162 _).toInt ∧ (S2.1 162 _).toInt < _
        have := jm_w (s := (S.1 186 0).toInt.toNat) (k := k) hu2.1 hJ2 (by rw [eS2]; omega) (by rw [eN2]; exact hlt)
        rw [eN2, eS2] at this
        exact this
    rw [q_X12_dreams_141]
    rcases c_ge z 0 with ⟨a1, a2⟩ | ⟨a1, a2⟩
    · have a2 : 0 ≤ z.toInt := a2
      have h10 := ix10 (x := S.1 186 0) hu2.1 ⟨h0, hb0.2⟩
      rw [eN2] at h10
      rw [a1, cond_true, inR_of (n := 20) (by omega) (by omega), cond_true, tnc h10]
      have hne : ¬ (S2.1 161 (10 * vN S + (S.1 186 0).toInt.toNat) = 0) := fun q => by
        rw [q] at hways
        exact absurd hways (by decide)
      rw [decide_eq_false hne, cond_false]
      have hrem := rem_ok (x := z) (y := S2.1 161 (10 * vN S + (S.1 186 0).toInt.toNat)) a2 (by omega)
      have hm1 := Int.emod_nonneg z.toInt (show (S2.1 161 (10 * vN S + (S.1 186 0).toInt.toNat)).toInt ≠ 0 by omega)
      have hm2 := Int.emod_lt_of_pos z.toInt (show 0 < (S2.1 161 (10 * vN S + (S.1 186 0).toInt.toNat)).toInt by omega)
      exact h186 _ (z.toInt % (S2.1 161 (10 * vN S + (S.1 186 0).toInt.toNat)).toInt).toNat (by rw [hrem]; omega) (by omega)
    · rw [a1, cond_false]
      exact h186 0 0 rfl (by omega)
  · rw [e, show cmpB .eq (1 : Int32) 0 = false from rfl, cond_false, inlv hu.1, cond_true, show (S1.1 148 18).toNatClampNeg = vN S1 from rfl]
    have hbg := bg9 hu.1 (vN2 hu.1)
    refine ⟨_, rfl, up_row (up_row hu (.inr (.inl rfl)) (rowT_t (by omega) _)) (.inl rfl) ⟨by show -2 ≤ _; omega, by show _ ≤ 9; omega⟩, fun hG => ?_⟩
    have hb := jm_b hu.1 hJ1
    have eS3 : ∀ z z' : Int32, stN (uI (uI S1 186 3 z) 186 0 z') = stN S := fun z z' => eS
    unfold RG
    rw [eS3]
    rw [eS] at hb
    rcases hb with hb | hb
    · exact .inl hb
    · exact .inr ⟨hbg.1, hb⟩
theorem dreams_rx {d : Nat} (hw : wok EC (WD S)) (hJ : JM (WD S)) : ∃ S', RX (d + 3) 241 [.ref 148] S = some (none, S') ∧ UPD mdR S S' ∧ (RG S → RG S') := by
  have hb1 := rw1 hw
  have hb0 := rw0 hw
  have hlv := lv01 hw
  have hu0 : UPD mdR S (uI (uI S 148 58 (-2 : Int32)) 148 59 (-2 : Int32)) := up_f (up_f (up_r hw) rfl rfl rfl rfl (by decide +kernel) ⟨by decide, by decide⟩) rfl rfl rfl rfl (by decide +kernel) ⟨by decide, by decide⟩
  have h34 : ∃ S', limK (RX (d + 2)) (mdOf 241) 34 [some (.ref 148), some (.int (S.1 186 1)), some (.int (S.1 186 0)), none] [] (uI (uI S 148 58 (-2 : Int32)) 148 59 (-2 : Int32)) = some (none, S') ∧ UPD mdR S S' ∧ (RG S → RG S') := by
    rw [q_X12_dreams_34]
    exact ⟨_, rfl, hu0, fun q => q⟩
  rw [e_X12_dreams, q_X12_dreams_0]
  rcases c_lt (S.1 186 1) 0 with ⟨a1, a2⟩ | ⟨a1, a2⟩
  · rw [a1, cond_true]
    exact h34
  · have a2 : 0 ≤ (S.1 186 1).toInt := a2
    rw [a1, cond_false]
    rcases c_ge (S.1 186 0) 0 with ⟨b1, b2⟩ | ⟨b1, b2⟩
    · have b2 : 0 ≤ (S.1 186 0).toInt := b2
      have i10 : ((10 : Int32) + S.1 186 1).toInt = 10 + (S.1 186 1).toInt := ad_i (by show _ ≤ 10 + _; omega) (by show 10 + _ ≤ _; omega)
      have i16 : ((16 : Int32) + S.1 186 1).toInt = 16 + (S.1 186 1).toInt := ad_i (by show _ ≤ 16 + _; omega) (by show 16 + _ ≤ _; omega)
      have hx10 := ix10 (x := S.1 186 0) hw ⟨b2, hb0.2⟩
      have hv2 := vN2 hw
      have i35 : ((35 : Int32) + (10 : Int32) * (S.1 186 1) + S.1 186 0).toInt = 35 + 10 * (S.1 186 1).toInt + (S.1 186 0).toInt := by
        have h6 : ((10 : Int32) * (S.1 186 1)).toInt = 10 * (S.1 186 1).toInt := mu_i (by show _ ≤ 10 * _; omega) (by show 10 * _ ≤ _; omega)
        have h7 : ((35 : Int32) + (10 : Int32) * (S.1 186 1)).toInt = 35 + 10 * (S.1 186 1).toInt := by
          rw [ad_i (by rw [h6]; show _ ≤ 35 + _; omega) (by rw [h6]; show 35 + _ ≤ _; omega), h6]
          rfl
        rw [ad_i (by omega) (by omega), h7]
      rw [b1, cond_true, inR_of (n := 96) (by omega) (by omega), cond_true, inR_of (n := 20) (by omega) (by omega), cond_true, cond_true, inR_of (n := 96) (by omega) (by omega), cond_true, cond_true, inR_of (n := 96) (by omega) (by omega), cond_true, cond_true]
      have n10 : ((10 : Int32) + S.1 186 1).toNatClampNeg = 10 + (S.1 186 1).toInt.toNat := tnc (by omega)
      have n16 : ((16 : Int32) + S.1 186 1).toNatClampNeg = 16 + (S.1 186 1).toInt.toNat := tnc (by omega)
      have n35 : ((35 : Int32) + (10 : Int32) * (S.1 186 1) + S.1 186 0).toNatClampNeg = 35 + 10 * (S.1 186 1).toInt.toNat + (S.1 186 0).toInt.toNat := tnc (by omega)
      have hu1 : UPD mdR S (uI (uI (uI (uI S 148 58 (-2 : Int32)) 148 59 (-2 : Int32)) 148 58 (S.1 186 1)) 148 59 (S.1 186 0)) := up_f (up_f hu0 rfl rfl rfl rfl (by decide +kernel) hb1) rfl rfl rfl rfl (by decide +kernel) hb0
      refine dreams_107 none hw hJ a2 b2 (up_row (up_row (up_row hu1 (.inr (.inr (.inl (by rw [n10]; omega)))) (rowT_t (by rw [n10]; omega) _)) (.inr (.inr (.inl (by rw [n16]; omega)))) (rowT_t (by rw [n16]; omega) _)) (.inr (.inr (.inr (by rw [n35]; omega)))) (rowT_t (by rw [n35]; omega) _)) ?_
      rw [uI_no _ _ _ _ (fun q => by rw [n35] at q; omega), uI_no _ _ _ _ (fun q => by rw [n16] at q; omega), uI_no _ _ _ _ (fun q => by rw [n10] at q; omega)]
      rfl
    · rw [b1, cond_false]
      exact h34
end DRE
theorem s_hand_X12_dreams_0 : Sat EC JM 6 241 c_hand_X12_dreams_0 := sat_rx rfl rfl (fun av S hw hJ ha hf he => by
  match av, ha with
  | [v0], ⟨g0, _⟩ =>
    have g0 : v0 = .ref 148 := g0
    subst g0
    obtain ⟨S', q1, q2, -⟩ := dreams_rx (d := 3) hw hJ
    exact ⟨_, S', q1, cp_v hJ q2 (by decide +kernel) rfl rfl⟩)
theorem s_hand_X12_dreams_1 : Sat EC JM 6 241 c_hand_X12_dreams_1 := sat_rx rfl rfl (fun av S hw hJ ha hf he => by
  match av, ha with
  | [v0], ⟨g0, _⟩ =>
    have g0 : v0 = .ref 148 := g0
    subst g0
    obtain ⟨S', q1, q2, -⟩ := dreams_rx (d := 3) hw hJ
    exact ⟨_, S', q1, cp_v hJ q2 (by decide +kernel) rfl rfl⟩)
end
section
/-! ways: fewest roads -/
def pth (wn : Nat → Nat) (wy : Nat → Nat → Nat) : Nat → Nat → Nat → Prop
  | 0, a, b => a = b
  | n + 1, a, b => ∃ k, k < wn a ∧ pth wn wy n (wy a k) b
theorem pth_app {wn : Nat → Nat} {wy : Nat → Nat → Nat} : ∀ (n a b k : Nat), pth wn wy n a b → k < wn b → pth wn wy (n + 1) a (wy b k)
  | 0, a, b, k, h, hk => by
    have h : a = b := h
    subst h
    exact ⟨k, hk, rfl⟩
  | n + 1, a, b, k, ⟨j, h1, h2⟩, hk => ⟨j, h1, pth_app n _ b k h2 hk⟩
theorem pth_last {wn : Nat → Nat} {wy : Nat → Nat → Nat} : ∀ (n a b : Nat), pth wn wy (n + 1) a b → ∃ c k, pth wn wy n a c ∧ k < wn c ∧ wy c k = b
  | 0, a, b, ⟨k, h1, h2⟩ => ⟨a, k, rfl, h1, h2⟩
  | n + 1, a, b, ⟨k, h1, h2⟩ => by
    obtain ⟨c, j, q1, q2, q3⟩ := pth_last n _ b h2
    exact ⟨c, j, ⟨k, h1, q1⟩, q2, q3⟩
theorem pth_in {wn : Nat → Nat} {wy : Nat → Nat → Nat} {st : Nat} (hw : ∀ a k, a < st → k < wn a → wy a k < st) : ∀ (n a b : Nat), a < st → pth wn wy n a b → b < st
  | 0, a, b, ha, h => by
    have h : a = b := h
    subst h
    exact ha
  | n + 1, a, b, ha, ⟨k, h1, h2⟩ => pth_in hw n _ b (hw a k ha h1) h2
def FI (wn : Nat → Nat) (wy : Nat → Nat → Nat) (fr st : Nat) (F : Nat → Int) (n s k : Nat) : Prop :=
  (∀ x, x < 10 → -1 ≤ F x ∧ F x ≤ n + 1) ∧ (∀ x m : Nat, x < 10 → F x = m → pth wn wy m fr x) ∧ (∀ x m : Nat, x < 10 → m ≤ n → pth wn wy m fr x → 0 ≤ F x ∧ F x ≤ m) ∧
  (∀ s' k' : Nat, (s' < s ∨ (s' = s ∧ k' < k)) → s' < st → k' < wn s' → F s' = n → 0 ≤ F (wy s' k'))
section FAR
variable {wn : Nat → Nat} {wy : Nat → Nat → Nat} {fr st : Nat} {F F' : Nat → Int} {n s k : Nat}
theorem fi_skip (h : FI wn wy fr st F n s k) (hy : 0 ≤ F (wy s k)) : FI wn wy fr st F n s (k + 1) := by
  refine ⟨h.1, h.2.1, h.2.2.1, fun s' k' hs => ?_⟩
  rcases hs with hs | ⟨hs, hk⟩
  · exact h.2.2.2 s' k' (.inl hs)
  · by_cases hk2 : k' < k
    · exact h.2.2.2 s' k' (.inr ⟨hs, hk2⟩)
    · have e : k' = k := by omega
      subst e
      subst hs
      exact fun _ _ _ => hy
theorem fi_set (h : FI wn wy fr st F n s k) (hs : F s = n) (hs10 : s < 10) (hk : k < wn s) (hy : F (wy s k) < 0) (hF : ∀ x, F' x = if x = wy s k then (n + 1 : Int) else F x) : FI wn wy fr st F' n s (k + 1) := by
  refine ⟨fun x hx => ?_, fun x m hx hm => ?_, fun x m hx hm hp => ?_, fun s' k' hc h1 h2 h3 => ?_⟩
  · rw [hF]
    split
    · omega
    · exact h.1 x hx
  · rw [hF] at hm
    by_cases e : x = wy s k
    · rw [if_pos e] at hm
      have e2 : m = n + 1 := by omega
      rw [e2, e]
      exact pth_app n fr s k (h.2.1 s n hs10 hs) hk
    · rw [if_neg e] at hm
      exact h.2.1 x m hx hm
  · have h9 := h.2.2.1 x m hx hm hp
    rw [hF]
    by_cases e : x = wy s k
    · rw [e] at h9
      omega
    · rw [if_neg e]
      exact h9
  · rw [hF] at h3
    by_cases e : s' = wy s k
    · rw [if_pos e] at h3
      omega
    · rw [if_neg e] at h3
      rw [hF]
      by_cases e2 : wy s' k' = wy s k
      · rw [if_pos e2]; omega
      · rw [if_neg e2]
        rcases hc with hc | ⟨hc, hk'⟩
        · exact h.2.2.2 s' k' (.inl hc) h1 h2 h3
        · by_cases hk2 : k' < k
          · exact h.2.2.2 s' k' (.inr ⟨hc, hk2⟩) h1 h2 h3
          · exfalso
            have e3 : k' = k := by omega
            subst e3
            subst hc
            exact e2 rfl
theorem fi_next (h : FI wn wy fr st F n s k) (hk : F s = n → wn s ≤ k) : FI wn wy fr st F n (s + 1) 0 := by
  refine ⟨h.1, h.2.1, h.2.2.1, fun s' k' hc h1 h2 h3 => ?_⟩
  rcases hc with hc | ⟨-, hc⟩
  · by_cases hs : s' < s
    · exact h.2.2.2 s' k' (.inl hs) h1 h2 h3
    · have e : s' = s := by omega
      subst e
      exact h.2.2.2 s' k' (.inr ⟨rfl, by have := hk h3; omega⟩) h1 h2 h3
  · omega
theorem fi_level (h : FI wn wy fr st F n s k) (hs : st ≤ s) (hst : st ≤ 10) (hfr : fr < st) (hw : ∀ a k, a < st → k < wn a → wy a k < st) : FI wn wy fr st F (n + 1) 0 0 := by
  refine ⟨fun x hx => by have := h.1 x hx; omega, h.2.1, fun x m hx hm hp => ?_, fun s' k' hc => by omega⟩
  by_cases hmn : m ≤ n
  · exact h.2.2.1 x m hx hmn hp
  · have e : m = n + 1 := by omega
    subst e
    obtain ⟨c, j, q1, q2, q3⟩ := pth_last n fr x hp
    have hc : c < st := pth_in hw n fr c hfr q1
    have h1 := h.2.2.1 c n (by omega) (Nat.le_refl n) q1
    have hb := h.1 x hx
    by_cases hcn : F c = n
    · have := h.2.2.2 c j (.inl (by omega)) hc q2 hcn
      rw [q3] at this
      omega
    · have h2 := h.2.1 c (F c).toNat (by omega) (by omega)
      have h3 := pth_app _ fr c j h2 q2
      rw [q3] at h3
      have h4 := h.2.2.1 x ((F c).toNat + 1) hx (by omega) h3
      omega
end FAR
def QC (wn : Nat → Nat) (wy : Nat → Nat → Nat) (st : Nat) (Q : (Nat → Int) → Nat → Nat → Nat → Prop) : Prop :=
  (∀ F n s k, Q F n s k → 0 ≤ F (wy s k) → Q F n s (k + 1)) ∧ (∀ (F F' : Nat → Int) (n s k : Nat), Q F n s k → F s = n → s < 10 → k < wn s → F (wy s k) < 0 → (∀ x, F' x = if x = wy s k then (n + 1 : Int) else F x) → Q F' n s (k + 1)) ∧
  (∀ (F : Nat → Int) (n s k : Nat), Q F n s k → (F s = n → wn s ≤ k) → Q F n (s + 1) 0) ∧ (∀ F n, Q F n st 0 → Q F (n + 1) 0 0)
theorem qc_t {wn : Nat → Nat} {wy : Nat → Nat → Nat} {st : Nat} : QC wn wy st (fun _ _ _ _ => True) := ⟨fun _ _ _ _ _ _ => trivial, fun _ _ _ _ _ _ _ _ _ _ _ => trivial, fun _ _ _ _ _ _ => trivial, fun _ _ _ => trivial⟩
theorem qc_fi {wn : Nat → Nat} {wy : Nat → Nat → Nat} {st fr : Nat} (hst : st ≤ 10) (hfr : fr < st) (hw : ∀ a k, a < st → k < wn a → wy a k < st) : QC wn wy st (FI wn wy fr st) := ⟨fun _ _ _ _ h => fi_skip h, fun _ _ _ _ _ h a b c d e => fi_set h a b c d e, fun _ _ _ _ h => fi_next h, fun _ _ h => fi_level h (Nat.le_refl _) hst hfr hw⟩
def mdF1 : MDs := [(91, 1000)]
abbrev wnS (S : WS) (a : Nat) : Nat := (S.1 161 (10 * vN S + a)).toInt.toNat
abbrev wyS (S : WS) (a k : Nat) : Nat := (S.1 162 (4 * (10 * vN S + a) + k)).toInt.toNat
section FIL
variable {S S0 : WS} {d : Nat} {Q : (Nat → Int) → Nat → Nat → Nat → Prop}
theorem wayOf_rx {a k : Nat} {x y : Int32} (hw : wok EC (WD S)) (hx : x.toInt = (a : Int)) (ha : a < 10) (hy : y.toInt = (k : Int)) (hk : k < 4) : RX (d + 1) 282 [.ref 148, .int x, .int y] S = some (some (.int (S.1 162 (4 * (10 * vN S + a) + k))), S) := by
  have h10 := ix10 (x := x) hw ⟨by omega, by omega⟩
  have hv := vN2 hw
  have ex : x.toInt.toNat = a := by omega
  rw [ex] at h10
  have h40 : ((4 : Int32) * (((10 : Int32) * (S.1 148 18)) + x)).toInt = ((4 * (10 * vN S + a) : Nat) : Int) := by
    rw [mu_i (by rw [h10]; show _ ≤ 4 * _; omega) (by rw [h10]; show 4 * _ ≤ _; omega), h10]
    show 4 * _ = _
    omega
  have h44 : ((4 : Int32) * (((10 : Int32) * (S.1 148 18)) + x) + y).toInt = ((4 * (10 * vN S + a) + k : Nat) : Int) := by
    rw [ad_i (by omega) (by omega)]
    omega
  rw [e_X12_wayOf, q_X12_wayOf_0, inR_of (n := 80) (by omega) (by omega), cond_true, tnc h44]
theorem up_far {j : Nat} {z : Int32} (h : UPD mdF1 S0 S) (hz : -1 ≤ z.toInt ∧ z.toInt ≤ 10) : UPD mdF1 S0 (uI S 192 j z) := up_a (t := 0) (n := 10) h rfl rfl rfl (.inl rfl) hz
theorem far_wn (h : UPD mdF1 S0 S) (hw : wok EC (WD S0)) {a : Nat} (ha : a < 10) : wnS S a = wnS S0 a := by
  have e : vN S = vN S0 := by unfold vN; rw [up_vN h rfl]
  have := vN2 hw
  unfold wnS
  rw [e, up_er (c := 161) (t := 0) (n := 20) h rfl rfl rfl rfl (by omega)]
theorem far_wy (h : UPD mdF1 S0 S) (hw : wok EC (WD S0)) {a k : Nat} (ha : a < 10) (hk : k < 4) : S.1 162 (4 * (10 * vN S + a) + k) = S0.1 162 (4 * (10 * vN S0 + a) + k) := by
  have e : vN S = vN S0 := by unfold vN; rw [up_vN h rfl]
  have := vN2 hw
  rw [e, up_er (c := 162) (t := 0) (n := 80) h rfl rfl rfl rfl (by omega)]
theorem inc_i {x : Int32} {c : Nat} (h : x.toInt = (c : Int)) (hc : c < 100000) : (x + 1).toInt = ((c + 1 : Nat) : Int) := by
  rw [ad_i (by show _ ≤ x.toInt + 1; omega) (by show x.toInt + 1 ≤ _; omega)]
  show x.toInt + 1 = _
  omega
theorem fillsFar_69 {n s : Nat} (hQ : QC (wnS S0) (wyS S0) (stN S0).toNat Q) (o1 : Option Value) (x2 x3 : Int32) (hw0 : wok EC (WD S0)) (hJ0 : JM (WD S0)) (h2 : x2.toInt = (n : Int)) (hn : n < 10) (h3 : x3.toInt = (s : Int)) (hs : (s : Int) < stN S0) : ∀ (m k : Nat) (x4 : Int32) (S : WS), UPD mdF1 S0 S → x4.toInt = (k : Int) → wnS S0 s - k ≤ m → k ≤ wnS S0 s → (S.1 192 s).toInt = (n : Int) → Q (fun x => (S.1 192 x).toInt) n s k →
    ∃ (S' : WS) (x4' : Int32), limK (RX (d + 1)) (mdOf 283) 69 [some (.ref 148), o1, some (.int x2), some (.int x3), some (.int x4)] [] S = limK (RX (d + 1)) (mdOf 283) 124 [some (.ref 148), o1, some (.int x2), some (.int x3), some (.int x4')] [] S' ∧ UPD mdF1 S0 S' ∧ Q (fun x => (S'.1 192 x).toInt) n (s + 1) 0 := by
  have hst := st10 hw0
  have hv := vN2 hw0
  intro m
  induction m with
  | zero =>
    intro k x4 S hu h4 hm hk hF hI
    have hw := hu.1
    have hs10 : s < 10 := by omega
    have h10 := ix10 (x := x3) hw ⟨by omega, by omega⟩
    have ew := far_wn hu hw0 hs10
    have h44 := wy4 hw (show 10 * vN S + s < 20 by have := vN2 hw; omega)
    have e3 : x3.toInt.toNat = s := by omega
    rw [e3] at h10
    refine ⟨S, x4, ?_, hu, hQ.2.2.1 _ _ _ _ hI (fun _ => by omega)⟩
    unfold wnS at ew hm hk
    rw [q_X12_fillsFar_69, inR_of (n := 20) (by omega) (by have := vN2 hw; omega), cond_true, tnc h10, ge_t (by omega), cond_true]
  | succ m ih =>
    intro k x4 S hu h4 hm hk hF hI
    have hw := hu.1
    have hs10 : s < 10 := by omega
    have h10 := ix10 (x := x3) hw ⟨by omega, by omega⟩
    have ew := far_wn hu hw0 hs10
    have h44 := wy4 hw (show 10 * vN S + s < 20 by have := vN2 hw; omega)
    have e3 : x3.toInt.toNat = s := by omega
    rw [e3] at h10
    by_cases hkw : k = wnS S0 s
    · refine ⟨S, x4, ?_, hu, hQ.2.2.1 _ _ _ _ hI (fun _ => by omega)⟩
      unfold wnS at ew hm hk hkw
      rw [q_X12_fillsFar_69, inR_of (n := 20) (by omega) (by have := vN2 hw; omega), cond_true, tnc h10, ge_t (by omega), cond_true]
    · have hk4 : k < 4 := by
        have h440 := wy4 hw0 (show 10 * vN S0 + s < 20 by omega)
        unfold wnS at hk hkw
        omega
      have hlt : k < wnS S0 s := by omega
      have hy : S.1 162 (4 * (10 * vN S + s) + k) = S0.1 162 (4 * (10 * vN S0 + s) + k) := far_wy hu hw0 hs10 hk4
      have hyw := jm_w hw0 hJ0 hs (show (k : Int) < (S0.1 161 (10 * vN S0 + s)).toInt by unfold wnS at hlt; omega)
      have hway := wayOf_rx (d := d) hw h3 hs10 h4 hk4
      rw [hy] at hway
      have hyn : (S0.1 162 (4 * (10 * vN S0 + s) + k)).toInt = (wyS S0 s k : Int) := by unfold wyS; omega
      have hy10 : wyS S0 s k < 10 := by omega
      have hg : cmpB .ge x4 (S.1 161 (10 * vN S + s)) = false := ge_f (by unfold wnS at ew hlt; omega)
      rw [q_X12_fillsFar_69, inR_of (n := 20) (by omega) (by have := vN2 hw; omega), cond_true, tnc h10, hg, cond_false, hway]
      show ∃ (S' : WS) (x4' : Int32), limK (RX (d + 1)) (mdOf 283) 99 _ [.int (S0.1 162 (4 * (10 * vN S0 + s) + k)), .ref 192] S = _ ∧ _
      rw [q_X12_fillsFar_99, inR_of (n := 10) (by omega) (by omega), cond_true, tnc hyn]
      have h41 := inc_i h4 (by omega)
      rcases c_ge (S.1 192 (wyS S0 s k)) 0 with ⟨a1, a2⟩ | ⟨a1, a2⟩
      · rw [a1, cond_true, q_X12_fillsFar_118]
        exact ih (k + 1) (x4 + 1) S hu h41 (by omega) (by omega) hF (hQ.1 _ _ _ _ hI a2)
      · have a2 : (S.1 192 (wyS S0 s k)).toInt < 0 := a2
        rw [a1, cond_false, hway]
        show ∃ (S' : WS) (x4' : Int32), limK (RX (d + 1)) (mdOf 283) 114 _ [.int (S0.1 162 (4 * (10 * vN S0 + s) + k)), .ref 192] S = _ ∧ _
        rw [q_X12_fillsFar_114, inR_of (n := 10) (by omega) (by omega), cond_true, tnc hyn, q_X12_fillsFar_118]
        have h21 := inc_i h2 (by omega)
        have hu' : UPD mdF1 S0 (uI S 192 (wyS S0 s k) (x2 + 1)) := up_far hu ⟨by omega, by omega⟩
        have hF' : ∀ x, ((uI S 192 (wyS S0 s k) (x2 + 1)).1 192 x).toInt = if x = wyS S0 s k then (n + 1 : Int) else (S.1 192 x).toInt := fun x => by
          by_cases e : x = wyS S0 s k
          · rw [if_pos e, e, uI_i, h21]; omega
          · rw [if_neg e, uI_j _ e]
        refine ih (k + 1) (x4 + 1) _ hu' h41 (by omega) (by omega) ?_ (hQ.2.1 _ _ _ _ _ hI hF hs10 hlt a2 hF')
        rw [hF', if_neg (fun e => by rw [← e] at a2; omega)]
        exact hF
theorem fillsFar_43 {n : Nat} (hQ : QC (wnS S0) (wyS S0) (stN S0).toNat Q) (x2 : Int32) (hw0 : wok EC (WD S0)) (hJ0 : JM (WD S0)) (h2 : x2.toInt = (n : Int)) (hn : n < 10) : ∀ (m s : Nat) (o1 o4 : Option Value) (x3 : Int32) (S : WS), UPD mdF1 S0 S → x3.toInt = (s : Int) → (stN S0).toNat - s ≤ m → s ≤ (stN S0).toNat → Q (fun x => (S.1 192 x).toInt) n s 0 →
    ∃ (S' : WS) (o1' o3' o4' : Option Value), limK (RX (d + 1)) (mdOf 283) 43 [some (.ref 148), o1, some (.int x2), some (.int x3), o4] [] S = limK (RX (d + 1)) (mdOf 283) 35 [some (.ref 148), o1', some (.int (x2 + 1)), o3', o4'] [] S' ∧ UPD mdF1 S0 S' ∧ Q (fun x => (S'.1 192 x).toInt) n (stN S0).toNat 0 := by
  have hst := st10 hw0
  have hv := vN2 hw0
  intro m
  have hend : ∀ (s : Nat) (o1 o4 : Option Value) (x3 : Int32) (S : WS), UPD mdF1 S0 S → x3.toInt = (s : Int) → s = (stN S0).toNat → Q (fun x => (S.1 192 x).toInt) n s 0 → ∃ (S' : WS) (o1' o3' o4' : Option Value), limK (RX (d + 1)) (mdOf 283) 43 [some (.ref 148), o1, some (.int x2), some (.int x3), o4] [] S = limK (RX (d + 1)) (mdOf 283) 35 [some (.ref 148), o1', some (.int (x2 + 1)), o3', o4'] [] S' ∧ UPD mdF1 S0 S' ∧ Q (fun x => (S'.1 192 x).toInt) n (stN S0).toNat 0 := by
    intro s o1 o4 x3 S hu h3 hs hI
    have hw := hu.1
    have eN : vN S = vN S0 := by unfold vN; rw [up_vN hu rfl]
    have eS : S.1 158 (vN S) = S0.1 158 (vN S0) := by rw [eN]; exact up_er (c := 158) (t := 0) (n := 2) hu rfl rfl rfl rfl hv
    refine ⟨S, dr2 o1, some (.int x3), o4, ?_, hu, by have h9 := hI; rw [hs] at h9; exact h9⟩
    rw [q_X12_fillsFar_43, inlv hw, cond_true, show (S.1 148 18).toNatClampNeg = vN S from rfl, eS, ge_t (by show stN S0 ≤ _; omega), cond_true]
  induction m with
  | zero =>
    intro s o1 o4 x3 S hu h3 hm hs hI
    exact hend s o1 o4 x3 S hu h3 (by omega) hI
  | succ m ih =>
    intro s o1 o4 x3 S hu h3 hm hs hI
    by_cases he : s = (stN S0).toNat
    · exact hend s o1 o4 x3 S hu h3 he hI
    · have hw := hu.1
      have eN : vN S = vN S0 := by unfold vN; rw [up_vN hu rfl]
      have eS : S.1 158 (vN S) = S0.1 158 (vN S0) := by rw [eN]; exact up_er (c := 158) (t := 0) (n := 2) hu rfl rfl rfl rfl hv
      have h31 := inc_i h3 (by omega)
      rw [q_X12_fillsFar_43, inlv hw, cond_true, show (S.1 148 18).toNatClampNeg = vN S from rfl, eS, ge_f (by show _ < stN S0; omega), cond_false, inR_of (n := 10) (by omega) (by omega), cond_true, tnc h3]
      rcases c_ne (S.1 192 s) x2 with ⟨a1, a2⟩ | ⟨a1, a2⟩
      · rw [a1, cond_true, q_X12_fillsFar_124]
        exact ih (s + 1) o1 o4 (x3 + 1) S hu h31 (by omega) (by omega) (hQ.2.2.1 _ _ _ _ hI (fun q => by have q : (S.1 192 s).toInt = (n : Int) := q; omega))
      · rw [a1, cond_false]
        obtain ⟨S', x4', q1, q2, q3⟩ := fillsFar_69 (d := d) hQ o1 x2 x3 hw0 hJ0 h2 hn h3 (by omega) _ 0 0 S hu rfl (Nat.le_refl _) (Nat.zero_le _) (by omega) hI
        rw [q1, q_X12_fillsFar_124]
        exact ih (s + 1) o1 (some (.int x4')) (x3 + 1) S' q2 h31 (by omega) (by omega) q3
theorem fillsFar_35 (hQ : QC (wnS S0) (wyS S0) (stN S0).toNat Q) (hw0 : wok EC (WD S0)) (hJ0 : JM (WD S0)) : ∀ (m n : Nat) (o1 o3 o4 : Option Value) (x2 : Int32) (S : WS), UPD mdF1 S0 S → x2.toInt = (n : Int) → 10 - n ≤ m → n ≤ 10 → Q (fun x => (S.1 192 x).toInt) n 0 0 →
    ∃ S' : WS, limK (RX (d + 1)) (mdOf 283) 35 [some (.ref 148), o1, some (.int x2), o3, o4] [] S = some (none, S') ∧ UPD mdF1 S0 S' ∧ Q (fun x => (S'.1 192 x).toInt) 10 0 0 := by
  have hst := st10 hw0
  intro m
  induction m with
  | zero =>
    intro n o1 o3 o4 x2 S hu h2 hm hn hI
    have e : n = 10 := by omega
    subst e
    refine ⟨S, ?_, hu, hI⟩
    rw [q_X12_fillsFar_35, ge_t (by show (10 : Int) ≤ _; omega), cond_true]
  | succ m ih =>
    intro n o1 o3 o4 x2 S hu h2 hm hn hI
    by_cases he : n = 10
    · subst he
      refine ⟨S, ?_, hu, hI⟩
      rw [q_X12_fillsFar_35, ge_t (by show (10 : Int) ≤ _; omega), cond_true]
    · rw [q_X12_fillsFar_35, ge_f (by show _ < (10 : Int); omega), cond_false]
      obtain ⟨S', p1, p3, p4, q1, q2, q3⟩ := fillsFar_43 (d := d) hQ x2 hw0 hJ0 h2 (by omega) _ 0 o1 o4 0 S hu rfl (Nat.le_refl _) (Nat.zero_le _) hI
      rw [q1]
      refine ih (n + 1) p1 p3 p4 (x2 + 1) S' q2 (inc_i h2 (by omega)) (by omega) (by omega) (hQ.2.2.2 _ _ q3)
theorem fillsFar_2 (x1 : Int32) (o3 o4 : Option Value) : ∀ (m j : Nat) (x2 : Int32) (S : WS), UPD mdF1 S0 S → x2.toInt = (j : Int) → 10 - j ≤ m → j ≤ 10 → (∀ x, x < j → (S.1 192 x).toInt = -1) →
    ∃ S' : WS, limK (RX (d + 1)) (mdOf 283) 2 [some (.ref 148), some (.int x1), some (.int x2), o3, o4] [] S = cond (cmpB .ge x1 0) (cond (inR x1 10) (limK (RX (d + 1)) (mdOf 283) 35 [some (.ref 148), some (.int x1), some (.int (0 : Int32)), o3, o4] [] (uI S' 192 (x1.toNatClampNeg) (0 : Int32))) none) (some (none, S')) ∧ UPD mdF1 S0 S' ∧ ∀ x, x < 10 → (S'.1 192 x).toInt = -1 := by
  intro m
  have hend : ∀ (j : Nat) (x2 : Int32) (S : WS), UPD mdF1 S0 S → x2.toInt = (j : Int) → j = 10 → (∀ x, x < j → (S.1 192 x).toInt = -1) → ∃ S' : WS, limK (RX (d + 1)) (mdOf 283) 2 [some (.ref 148), some (.int x1), some (.int x2), o3, o4] [] S = cond (cmpB .ge x1 0) (cond (inR x1 10) (limK (RX (d + 1)) (mdOf 283) 35 [some (.ref 148), some (.int x1), some (.int (0 : Int32)), o3, o4] [] (uI S' 192 (x1.toNatClampNeg) (0 : Int32))) none) (some (none, S')) ∧ UPD mdF1 S0 S' ∧ ∀ x, x < 10 → (S'.1 192 x).toInt = -1 := by
    intro j x2 S hu h2 hj hF
    subst hj
    refine ⟨S, ?_, hu, hF⟩
    rw [q_X12_fillsFar_2, ge_t (by show (10 : Int) ≤ _; omega), cond_true]
  induction m with
  | zero =>
    intro j x2 S hu h2 hm hj hF
    exact hend j x2 S hu h2 (by omega) hF
  | succ m ih =>
    intro j x2 S hu h2 hm hj hF
    by_cases he : j = 10
    · exact hend j x2 S hu h2 he hF
    · rw [q_X12_fillsFar_2, ge_f (by show _ < (10 : Int); omega), cond_false, inR_of (n := 10) (by omega) (by omega), cond_true, tnc h2]
      refine ih (j + 1) (x2 + 1) _ (up_far hu ⟨by decide, by decide⟩) (inc_i h2 (by omega)) (by omega) (by omega) (fun x hx => ?_)
      by_cases e : x = j
      · rw [e, uI_i]; rfl
      · rw [uI_j _ e]; exact hF x (by omega)
/-- fillsFar: it ends; from a step on, what it finds is the fewest roads -/
theorem fillsFar_rx {x : Int32} (hw : wok EC (WD S)) (hJ : JM (WD S)) (hx : -2 ≤ x.toInt ∧ x.toInt ≤ 9) : ∃ S', RX (d + 2) 283 [.ref 148, .int x] S = some (none, S') ∧ UPD mdF1 S S' ∧ (∀ y, y < 10 → x.toInt < 0 → (S'.1 192 y).toInt = -1) ∧ (0 ≤ x.toInt → x.toInt < stN S → FI (wnS S) (wyS S) x.toInt.toNat (stN S).toNat (fun y => (S'.1 192 y).toInt) 10 0 0) := by
  have hst := st10 hw
  obtain ⟨S1, q1, q2, q3⟩ := fillsFar_2 (S0 := S) (d := d) x none none _ 0 0 S (up_r hw) rfl (Nat.le_refl _) (by omega) (fun x hx => by omega)
  rw [e_X12_fillsFar, q_X12_fillsFar_0, q1]
  rcases c_ge x 0 with ⟨a1, a2⟩ | ⟨a1, a2⟩
  · have a2 : 0 ≤ x.toInt := a2
    have hu2 : UPD mdF1 S (uI S1 192 x.toNatClampNeg 0) := up_far q2 ⟨by decide, by decide⟩
    rw [a1, cond_true, inR_of (n := 10) (by omega) (by omega), cond_true]
    by_cases hlt : x.toInt < stN S
    · have hQ : QC (wnS S) (wyS S) (stN S).toNat (FI (wnS S) (wyS S) x.toInt.toNat (stN S).toNat) := qc_fi (by omega) (by omega) (fun a k ha hk => by
        have := jm_w hw hJ (s := a) (k := k) (by omega) (by unfold wnS at hk; omega)
        unfold wyS
        omega)
      have hF : ∀ y, y < 10 → ((uI S1 192 x.toNatClampNeg 0).1 192 y).toInt = if y = x.toInt.toNat then 0 else -1 := fun y hy => by
        by_cases e : y = x.toInt.toNat
        · rw [if_pos e, e, tnn, uI_i]; rfl
        · rw [if_neg e, tnn, uI_j _ e]; exact q3 y hy
      obtain ⟨S', p1, p2, p3⟩ := fillsFar_35 (d := d) hQ hw hJ 10 0 (some (.int x)) none none 0 _ hu2 rfl (by omega) (by omega) (by
        refine ⟨fun y hy => ?_, fun y m hy hm => ?_, fun y m hy hm hp => ?_, fun s' k' hc => by omega⟩
        · simp only [hF y hy]
          split <;> omega
        · simp only [hF y hy] at hm
          by_cases e : y = x.toInt.toNat
          · rw [if_pos e] at hm
            have : m = 0 := by omega
            subst this
            exact e.symm
          · rw [if_neg e] at hm
            omega
        · have e : m = 0 := by omega
          subst e
          have hp : x.toInt.toNat = y := hp
          simp only [hF y hy, if_pos hp.symm]
          omega)
      exact ⟨S', p1, p2, fun y _ h => by omega, fun _ _ => p3⟩
    · obtain ⟨S', p1, p2, -⟩ := fillsFar_35 (d := d) (qc_t (wn := wnS S) (wy := wyS S)) hw hJ 10 0 (some (.int x)) none none 0 _ hu2 rfl (by omega) (by omega) trivial
      exact ⟨S', p1, p2, fun y _ h => by omega, fun _ h => absurd h hlt⟩
  · have a2 : x.toInt < 0 := a2
    rw [a1, cond_false]
    exact ⟨S1, rfl, q2, fun y hy _ => q3 y hy, fun h => by omega⟩
end FIL
theorem s_hand_X12_fillsFar_0 : Sat EC JM 4 283 c_hand_X12_fillsFar_0 := sat_rx rfl rfl (fun av S hw hJ ha hf he => by
  match av, ha with
  | [v0, v1], ⟨g0, ⟨x, g1, g2⟩, _⟩ =>
    have g0 : v0 = .ref 148 := g0
    subst g0
    subst g1
    obtain ⟨S', q1, q2, -⟩ := fillsFar_rx (d := 2) hw hJ g2
    exact ⟨_, S', q1, cp_v hJ q2 rfl rfl rfl⟩)
theorem s_hand_X12_fillsFar_1 : Sat EC JM 4 283 c_hand_X12_fillsFar_1 := sat_rx rfl rfl (fun av S hw hJ ha hf he => by
  match av, ha with
  | [v0, v1], ⟨g0, ⟨x, g1, g2⟩, _⟩ =>
    have g0 : v0 = .ref 148 := g0
    subst g0
    subst g1
    obtain ⟨S', q1, q2, -⟩ := fillsFar_rx (d := 2) hw hJ g2
    exact ⟨_, S', q1, cp_v hJ q2 rfl rfl rfl⟩)
end
