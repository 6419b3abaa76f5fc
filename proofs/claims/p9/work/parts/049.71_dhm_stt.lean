section
/-! standing states of both sides alike: now, the log, what undo brings back, the slots -/
abbrev IG : Type := Nat → Nat → Int32
def H0 (I : IG) (x : Nat) : HO := (fun k j => I (x + k) j, fun _ _ => 0)
def KNL (R : RW) (w p : Nat → Int32) : Prop := ∀ a s, a < 6 → s < 10 → (0 < (R (35 + 10 * a + s)).toInt ↔ ∃ h : Nat, (h : Int) < (R 2).toInt ∧ w h = Int32.ofNat a ∧ p h = Int32.ofNat s)
/-- nobody has seen a STEP that isn't there -/
def SNZ (H : HO) (R : RW) : Prop := ∀ a s : Nat, a < 6 → s < 10 → (slH H ≤ (a : Int) ∨ stH H ≤ (s : Int)) → R (35 + 10 * a + s) = 0
def STA (I : IG) (x s : Nat) (G : RW) (w p : Nat → Int32) : Prop := ∃ R : RW, (∀ i, i < 96 → G i = R i) ∧ CSt (I, fun _ _ => 0) s R ∧ R 220 = I x 5 ∧ R 221 = -1 ∧ RV (H0 I x) R ∧ FLG R ∧ KNL R w p ∧ SNZ (H0 I x) R
def LG1 (u p : Int32) : Prop := (u = -2 ∨ (0 ≤ u.toInt ∧ u.toInt ≤ 5)) ∧ (p = -2 ∨ (0 ≤ p.toInt ∧ p.toInt ≤ 9))
def LGT (I : IG) (lc : Nat) (w p : Nat → Int32) (hr st : Int) : Prop := ∀ h : Nat, (h : Int) < hr → ∃ u : Int32, LG1 u (p h) ∧ (0 < st → u = w h) ∧ (I lc h).toInt = 16 * (u.toInt + 2) + (p h).toInt + 2 ∧ ((w h).toInt < 0 ↔ (p h).toInt < 0)
def UND (I : IG) (x : Nat) : Prop := ∃ U n : Nat, U ≤ 30 ∧ n < 30 ∧ (I 40 2).toInt = (U : Int) ∧ (I 148 60).toInt = (U : Int) ∧ (I 40 1).toInt = (n : Int) ∧ (∀ i, i < U → STA I x (45 + 2 * ((n + 30 - U + i) % 30)) (fun k => I 187 (96 * i + k)) (I 184) (I 185) ∧ (I 187 (96 * i + 2)).toInt ≤ (I 183 2).toInt) ∧ ∀ i j, i < j → j < U → (I 187 (96 * i + 2)).toInt ≤ (I 187 (96 * j + 2)).toInt
def SLT (I : IG) (x : Nat) : Prop := ∀ k, k < 3 → I 198 k ≠ 0 → STA I x (105 + 4 * k) (fun i => I 199 (1296 * k + i)) (fun h => I 199 (1296 * k + 96 + h)) (fun h => I 199 (1296 * k + 696 + h)) ∧ LGT I (108 + 4 * k) (fun h => I 199 (1296 * k + 96 + h)) (fun h => I 199 (1296 * k + 696 + h)) (I 199 (1296 * k + 2)).toInt (I x 0).toInt
def STT (I : IG) (x : Nat) : Prop := STA I x 36 (I 183) (I 184) (I 185) ∧ LGT I 39 (I 184) (I 185) (I 183 2).toInt (I x 0).toInt ∧ UND I x ∧ SLT I x
/-- the places of which it speaks -/
def ND (x c j : Nat) : Prop := (c = x ∧ (j = 0 ∨ j = 2 ∨ j = 5)) ∨ (c = 36 ∧ j < 6) ∨ (c = 37 ∧ j < 102) ∨ (c = 39 ∧ j < 600) ∨ (c = 40 ∧ (j = 1 ∨ j = 2)) ∨ (45 ≤ c ∧ c ≤ 104 ∧ (c % 2 = 1 → j < 6) ∧ (c % 2 = 0 → j < 102)) ∨ (105 ≤ c ∧ c ≤ 116 ∧ c % 4 ≠ 3 ∧ (c % 4 = 1 → j < 6) ∧ (c % 4 = 2 → j < 102) ∧ (c % 4 = 0 → j < 600)) ∨ (c = 148 ∧ j = 60) ∨ (c = 183 ∧ j < 96) ∨ (184 ≤ c ∧ c ≤ 185 ∧ j < 600) ∨ (c = 187 ∧ j < 2880) ∨ (c = 198 ∧ j < 3) ∨ (c = 199 ∧ j < 3888)
def HSX (I I' : IG) (x : Nat) : Prop := I' x 0 = I x 0 ∧ I' x 2 = I x 2 ∧ I' x 5 = I x 5
/-- the pile of what can be undone grows by the row of now -/
def HIS (I I' : IG) (U : Nat) : Prop := (U < 30 → (∀ k, k < 96 → I' 187 (96 * U + k) = I 183 k) ∧ ∀ j, j < 96 * U → I' 187 j = I 187 j) ∧ (U = 30 → (∀ k, k < 96 → I' 187 (2784 + k) = I 183 k) ∧ ∀ j, j < 2784 → I' 187 j = I 187 (j + 96))
section STTS
variable {I I' : IG} {x s s' lc lc' n U k : Nat} {G G' R : RW} {w p w' p' : Nat → Int32} {hr st : Int} {H H' : HO}
theorem rv_h (h0 : H'.1 0 0 = H.1 0 0) (h2 : H'.1 0 2 = H.1 0 2) (h : RV H R) : RV H' R := by
  have e0 : stH H' = stH H := by show (H'.1 0 0).toInt = (H.1 0 0).toInt; rw [h0]
  have e2 : slH H' = slH H := by show (H'.1 0 2).toInt = (H.1 0 2).toInt; rw [h2]
  unfold RV at h ⊢
  rw [e0, e2]
  exact h
theorem snz_h (h0 : H'.1 0 0 = H.1 0 0) (h2 : H'.1 0 2 = H.1 0 2) (h : SNZ H R) : SNZ H' R := by
  have e0 : stH H' = stH H := by show (H'.1 0 0).toInt = (H.1 0 0).toInt; rw [h0]
  have e2 : slH H' = slH H := by show (H'.1 0 2).toInt = (H.1 0 2).toInt; rw [h2]
  unfold SNZ at h ⊢
  rw [e0, e2]
  exact h
theorem cs_mv {T T' : TZ} (h : CSt T s R) (h1 : ∀ j, j < 6 → T'.1 s' j = T.1 s j) (h2 : ∀ j, j < 102 → T'.1 (s' + 1) j = T.1 (s + 1) j) : CSt T' s' R := by
  obtain ⟨k0, k1, k2, k3, k4, k5, k6⟩ := h
  exact ⟨by rw [h1 _ (by decide)]; exact k0, by rw [h1 _ (by decide)]; exact k1, by rw [h1 _ (by decide)]; exact k2, by rw [h1 _ (by decide)]; exact k3, by rw [h1 _ (by decide)]; exact k4, by rw [h1 _ (by decide)]; exact k5, fun i hi => by rw [h2 i hi]; exact k6 i hi⟩
theorem knl_mv (h : KNL R w p) (h6 : (R 2).toInt ≤ 600) (hw : ∀ h : Nat, h < 600 → (h : Int) < (R 2).toInt → w' h = w h ∧ p' h = p h) : KNL R w' p' := fun a s ha hs => by
  rw [h a s ha hs]
  constructor
  · rintro ⟨h, q1, q2, q3⟩
    obtain ⟨e1, e2⟩ := hw h (by omega) q1
    exact ⟨h, q1, by rw [e1, q2], by rw [e2, q3]⟩
  · rintro ⟨h, q1, q2, q3⟩
    obtain ⟨e1, e2⟩ := hw h (by omega) q1
    exact ⟨h, q1, by rw [← e1, q2], by rw [← e2, q3]⟩
theorem sta_hr (h : STA I x s G w p) : 0 ≤ (G 2).toInt ∧ (G 2).toInt ≤ 600 := by
  obtain ⟨R, h1, -, -, -, h5, -⟩ := h
  rw [h1 2 (by decide)]
  exact h5.1
theorem sta_mv (h : STA I x s G w p) (hx : HSX I I' x) (h1 : ∀ j, j < 6 → I' s' j = I s j) (h2 : ∀ j, j < 102 → I' (s' + 1) j = I (s + 1) j) (hG : ∀ i, i < 96 → G' i = G i) (hw : ∀ h : Nat, h < 600 → (h : Int) < (G 2).toInt → w' h = w h ∧ p' h = p h) : STA I' x s' G' w' p' := by
  obtain ⟨R, g1, g2, g3, g4, g5, g6, g7, g8⟩ := h
  have e2 : G 2 = R 2 := g1 2 (by decide)
  refine ⟨R, fun i hi => (hG i hi).trans (g1 i hi), cs_mv g2 h1 h2, by rw [hx.2.2]; exact g3, g4, rv_h (H := H0 I x) (H' := H0 I' x) hx.1 hx.2.1 g5, g6, knl_mv g7 g5.1.2 (fun h q1 q2 => hw h q1 (by rw [e2]; exact q2)), snz_h (H := H0 I x) (H' := H0 I' x) hx.1 hx.2.1 g8⟩
theorem lgt_mv (h : LGT I lc w p hr st) (h6 : hr ≤ 600) (h1 : ∀ h : Nat, h < 600 → (h : Int) < hr → I' lc' h = I lc h ∧ w' h = w h ∧ p' h = p h) : LGT I' lc' w' p' hr st := fun j hj => by
  obtain ⟨u, g1, g2, g3, g4⟩ := h j hj
  obtain ⟨e1, e2, e3⟩ := h1 j (by omega) hj
  exact ⟨u, by rw [e3]; exact g1, by rw [e2]; exact g2, by rw [e1, e3]; exact g3, by rw [e2, e3]; exact g4⟩
theorem slt_mv (h : SLT I x) (hx : HSX I I' x) (ho : ∀ c j, ((105 ≤ c ∧ c ≤ 116 ∧ c % 4 ≠ 3 ∧ (c % 4 = 1 → j < 6) ∧ (c % 4 = 2 → j < 102) ∧ (c % 4 = 0 → j < 600)) ∨ (c = 198 ∧ j < 3) ∨ (c = 199 ∧ j < 3888)) → I' c j = I c j) : SLT I' x := fun k hk hn => by
  rw [ho 198 k (.inr (.inl ⟨rfl, hk⟩))] at hn
  obtain ⟨h1, h2⟩ := h k hk hn
  have h6 := sta_hr h1
  have e : ∀ j, j < 1296 → I' 199 (1296 * k + j) = I 199 (1296 * k + j) := fun j hj => ho _ _ (by omega)
  have e' : ∀ j, j < 1296 → I' 199 (1296 * k + 96 + j) = I 199 (1296 * k + 96 + j) ∨ 1200 ≤ j := fun j hj => by
    by_cases q : 1200 ≤ j
    · exact .inr q
    · exact .inl (ho _ _ (by omega))
  have e96 : ∀ j, j < 600 → I' 199 (1296 * k + 96 + j) = I 199 (1296 * k + 96 + j) := fun j hj => ho _ _ (by omega)
  have e696 : ∀ j, j < 600 → I' 199 (1296 * k + 696 + j) = I 199 (1296 * k + 696 + j) := fun j hj => ho _ _ (by omega)
  refine ⟨sta_mv h1 hx (fun j hj => ho _ _ (by omega)) (fun j hj => ho _ _ (by omega)) (fun i hi => e i (by omega)) (fun h q1 _ => ⟨e96 h q1, e696 h q1⟩), ?_⟩
  rw [e 2 (by decide), hx.1]
  exact lgt_mv h2 h6.2 (fun h q1 _ => ⟨ho _ _ (by omega), e96 h q1, e696 h q1⟩)
theorem stt_hr (h : STT I x) : 0 ≤ (I 183 2).toInt ∧ (I 183 2).toInt ≤ 600 := sta_hr h.1
theorem nd_36 (h : k < 6) : ND x 36 k := .inr (.inl ⟨rfl, h⟩)
theorem nd_37 (h : k < 102) : ND x 37 k := .inr (.inr (.inl ⟨rfl, h⟩))
theorem nd_39 (h : k < 600) : ND x 39 k := .inr (.inr (.inr (.inl ⟨rfl, h⟩)))
theorem nd_40 (h : k = 1 ∨ k = 2) : ND x 40 k := .inr (.inr (.inr (.inr (.inl ⟨rfl, h⟩))))
theorem nd_k (hn : n < 30) (h : k < 6) : ND x (45 + 2 * n) k := .inr (.inr (.inr (.inr (.inr (.inl ⟨by omega, by omega, fun _ => h, fun q => by omega⟩)))))
theorem nd_kr (hn : n < 30) (h : k < 102) : ND x (45 + 2 * n + 1) k := .inr (.inr (.inr (.inr (.inr (.inl ⟨by omega, by omega, fun q => by omega, fun _ => h⟩)))))
theorem nd_sl {c j : Nat} (h : 105 ≤ c ∧ c ≤ 116 ∧ c % 4 ≠ 3 ∧ (c % 4 = 1 → j < 6) ∧ (c % 4 = 2 → j < 102) ∧ (c % 4 = 0 → j < 600)) : ND x c j := .inr (.inr (.inr (.inr (.inr (.inr (.inl h))))))
theorem nd_148 : ND x 148 60 := .inr (.inr (.inr (.inr (.inr (.inr (.inr (.inl ⟨rfl, rfl⟩)))))))
theorem nd_183 (h : k < 96) : ND x 183 k := .inr (.inr (.inr (.inr (.inr (.inr (.inr (.inr (.inl ⟨rfl, h⟩))))))))
theorem nd_184 (h : k < 600) : ND x 184 k := .inr (.inr (.inr (.inr (.inr (.inr (.inr (.inr (.inr (.inl ⟨by decide, by decide, h⟩)))))))))
theorem nd_185 (h : k < 600) : ND x 185 k := .inr (.inr (.inr (.inr (.inr (.inr (.inr (.inr (.inr (.inl ⟨by decide, by decide, h⟩)))))))))
theorem nd_187 (h : k < 2880) : ND x 187 k := .inr (.inr (.inr (.inr (.inr (.inr (.inr (.inr (.inr (.inr (.inl ⟨rfl, h⟩))))))))))
theorem nd_198 (h : k < 3) : ND x 198 k := .inr (.inr (.inr (.inr (.inr (.inr (.inr (.inr (.inr (.inr (.inr (.inl ⟨rfl, h⟩)))))))))))
theorem nd_199 (h : k < 3888) : ND x 199 k := .inr (.inr (.inr (.inr (.inr (.inr (.inr (.inr (.inr (.inr (.inr (.inr ⟨rfl, h⟩)))))))))))
theorem nd_s3 {c j : Nat} (h : (105 ≤ c ∧ c ≤ 116 ∧ c % 4 ≠ 3 ∧ (c % 4 = 1 → j < 6) ∧ (c % 4 = 2 → j < 102) ∧ (c % 4 = 0 → j < 600)) ∨ (c = 198 ∧ j < 3) ∨ (c = 199 ∧ j < 3888)) : ND x c j := by
  rcases h with h | ⟨rfl, h⟩ | ⟨rfl, h⟩
  · exact nd_sl h
  · exact nd_198 h
  · exact nd_199 h
theorem und_same (h : UND I x) (hx : HSX I I' x) (h40 : I' 40 1 = I 40 1 ∧ I' 40 2 = I 40 2 ∧ I' 148 60 = I 148 60) (hk : ∀ n j, n < 30 → (j < 6 → I' (45 + 2 * n) j = I (45 + 2 * n) j) ∧ (j < 102 → I' (45 + 2 * n + 1) j = I (45 + 2 * n + 1) j)) (e183 : I' 183 2 = I 183 2) (e184 : ∀ j, j < 600 → I' 184 j = I 184 j ∧ I' 185 j = I 185 j) (e187 : ∀ j, j < 2880 → I' 187 j = I 187 j) : UND I' x := by
  obtain ⟨U, n, u1, u2, u3, u4, u5, u6, u7⟩ := h
  refine ⟨U, n, u1, u2, by rw [h40.2.1]; exact u3, by rw [h40.2.2]; exact u4, by rw [h40.1]; exact u5, fun i hi => ?_, fun i j hi hj => ?_⟩
  · obtain ⟨g1, g2⟩ := u6 i hi
    have hm : (n + 30 - U + i) % 30 < 30 := Nat.mod_lt _ (by decide)
    refine ⟨sta_mv g1 hx (fun j hj => (hk _ j hm).1 hj) (fun j hj => (hk _ j hm).2 hj) (fun k hk => e187 _ (by omega)) (fun h q _ => e184 h q), ?_⟩
    rw [e183, e187 _ (by omega)]
    exact g2
  · rw [e187 _ (by omega), e187 _ (by omega)]
    exact u7 i j hi hj
theorem stt_same (h : STT I x) (hN : ∀ c j, ND x c j → I' c j = I c j) : STT I' x := by
  have hx : HSX I I' x := ⟨hN _ _ (.inl ⟨rfl, by decide⟩), hN _ _ (.inl ⟨rfl, by decide⟩), hN _ _ (.inl ⟨rfl, by decide⟩)⟩
  have hH := stt_hr h
  obtain ⟨h1, h2, h3, h4⟩ := h
  have e183 : ∀ j, j < 96 → I' 183 j = I 183 j := fun j hj => hN _ _ (nd_183 hj)
  have e184 : ∀ j, j < 600 → I' 184 j = I 184 j ∧ I' 185 j = I 185 j := fun j hj => ⟨hN _ _ (nd_184 hj), hN _ _ (nd_185 hj)⟩
  refine ⟨sta_mv h1 hx (fun j hj => hN _ _ (nd_36 hj)) (fun j hj => hN _ _ (nd_37 hj)) e183 (fun h q _ => e184 h q), ?_, und_same h3 hx ⟨hN _ _ (nd_40 (.inl rfl)), hN _ _ (nd_40 (.inr rfl)), hN _ _ nd_148⟩ (fun n j hn => ⟨fun q => hN _ _ (nd_k hn q), fun q => hN _ _ (nd_kr hn q)⟩) (e183 2 (by decide)) e184 (fun j hj => hN _ _ (nd_187 hj)), slt_mv h4 hx (fun c j q => hN _ _ (nd_s3 q))⟩
  rw [e183 2 (by decide), hx.1]
  exact lgt_mv h2 hH.2 (fun h q _ => ⟨hN _ _ (nd_39 q), e184 h q⟩)
end STTS
end
section
/-! the pile grows, and gives back -/
section PILE
variable {I I' : IG} {x s s' n U k : Nat} {G G' R : RW} {w p w' p' : Nat → Int32} {hr st : Int}
theorem stt_push (h : STT I x) (hx : HSX I I' x) (hn : (I' 40 1).toInt = ((I 40 1).toInt + 1) % 30) (hU : (I' 40 2).toInt = min ((I 40 2).toInt + 1) 30) (hV : (I' 148 60).toInt = min ((I 148 60).toInt + 1) 30)
    (hk : ∀ n : Nat, (I 40 1).toInt = (n : Int) → (∀ j, j < 6 → I' (45 + 2 * n) j = I 36 j) ∧ (∀ j, j < 102 → I' (45 + 2 * n + 1) j = I 37 j) ∧ ∀ c j, 45 ≤ c → c ≤ 104 → c ≠ 45 + 2 * n → c ≠ 45 + 2 * n + 1 → I' c j = I c j)
    (hh : ∀ U : Nat, (I 148 60).toInt = (U : Int) → HIS I I' U)
    (hl : ∀ h : Nat, h < 600 → (h : Int) < (I 183 2).toInt → I' 184 h = I 184 h ∧ I' 185 h = I 185 h)
    (ho : ∀ c j, (105 ≤ c ∧ c ≤ 116) ∨ c = 198 ∨ c = 199 → I' c j = I c j)
    (hs : STA I' x 36 (I' 183) (I' 184) (I' 185)) (hlg : LGT I' 39 (I' 184) (I' 185) (I' 183 2).toInt (I' x 0).toInt) (hm : (I 183 2).toInt ≤ (I' 183 2).toInt) : STT I' x := by
  obtain ⟨h1, h2, ⟨U, n, u1, u2, u3, u4, u5, u6, u7⟩, h4⟩ := h
  obtain ⟨k1, k2, k3⟩ := hk n u5
  obtain ⟨hh1, hh2⟩ := hh U u4
  refine ⟨hs, hlg, ?_, slt_mv h4 hx (fun c j q => ho _ _ (by omega))⟩
  by_cases hU30 : U = 30
  · obtain ⟨p1, p2⟩ := hh2 hU30
    have old : ∀ i, i < 29 → STA I' x (45 + 2 * (((n + 1) % 30 + 30 - 30 + i) % 30)) (fun k => I' 187 (96 * i + k)) (I' 184) (I' 185) ∧ I' 187 (96 * i + 2) = I 187 (96 * (i + 1) + 2) := fun i hi => by
      obtain ⟨g1, g2⟩ := u6 (i + 1) (by omega)
      have e : ((n + 1) % 30 + 30 - 30 + i) % 30 = (n + 30 - U + (i + 1)) % 30 := by omega
      have e2 : (n + 30 - U + (i + 1)) % 30 ≠ n := by omega
      rw [e]
      have g3 : (I 187 (96 * (i + 1) + 2)).toInt ≤ (I 183 2).toInt := g2
      refine ⟨sta_mv g1 hx (fun j hj => k3 _ _ (by omega) (by omega) (by omega) (by omega)) (fun j hj => k3 _ _ (by omega) (by omega) (by omega) (by omega)) (fun k hk => ?_) (fun h q1 q2 => hl h q1 (by have q2 : (h : Int) < (I 187 (96 * (i + 1) + 2)).toInt := q2; omega)), ?_⟩
      · show I' 187 (96 * i + k) = I 187 (96 * (i + 1) + k)
        rw [p2 _ (by omega), show 96 * i + k + 96 = 96 * (i + 1) + k by omega]
      · rw [p2 _ (by omega), show 96 * i + 2 + 96 = 96 * (i + 1) + 2 by omega]
    have top : STA I' x (45 + 2 * (((n + 1) % 30 + 30 - 30 + 29) % 30)) (fun k => I' 187 (96 * 29 + k)) (I' 184) (I' 185) := by
      have e : ((n + 1) % 30 + 30 - 30 + 29) % 30 = n := by omega
      rw [e]
      exact sta_mv h1 hx k1 k2 (fun k hk => p1 k hk) hl
    have t2 : I' 187 (96 * 29 + 2) = I 183 2 := p1 2 (by decide)
    refine ⟨30, (n + 1) % 30, by decide, by omega, by rw [hU]; omega, by rw [hV]; omega, by rw [hn]; omega, fun i hi => ?_, fun i j hi hj => ?_⟩
    · by_cases q : i < 29
      · obtain ⟨g1, g2⟩ := old i q
        refine ⟨g1, ?_⟩
        rw [g2]
        have := (u6 (i + 1) (by omega)).2
        omega
      · have q : i = 29 := by omega
        subst q
        refine ⟨top, ?_⟩
        rw [t2]
        exact hm
    · by_cases q : j < 29
      · rw [(old i (by omega)).2, (old j q).2]
        exact u7 _ _ (by omega) (by omega)
      · have q : j = 29 := by omega
        subst q
        rw [(old i (by omega)).2, t2]
        exact (u6 (i + 1) (by omega)).2
  · have hU' : U < 30 := by omega
    obtain ⟨p1, p2⟩ := hh1 hU'
    have old : ∀ i, i < U → STA I' x (45 + 2 * (((n + 1) % 30 + 30 - (U + 1) + i) % 30)) (fun k => I' 187 (96 * i + k)) (I' 184) (I' 185) ∧ I' 187 (96 * i + 2) = I 187 (96 * i + 2) := fun i hi => by
      obtain ⟨g1, g2⟩ := u6 i (by omega)
      have e : ((n + 1) % 30 + 30 - (U + 1) + i) % 30 = (n + 30 - U + i) % 30 := by omega
      have e2 : (n + 30 - U + i) % 30 ≠ n := by omega
      rw [e]
      refine ⟨sta_mv g1 hx (fun j hj => k3 _ _ (by omega) (by omega) (by omega) (by omega)) (fun j hj => k3 _ _ (by omega) (by omega) (by omega) (by omega)) (fun k hk => p2 _ (by omega)) (fun h q1 q2 => hl h q1 (by have q2 : (h : Int) < (I 187 (96 * i + 2)).toInt := q2; omega)), p2 _ (by omega)⟩
    have top : STA I' x (45 + 2 * (((n + 1) % 30 + 30 - (U + 1) + U) % 30)) (fun k => I' 187 (96 * U + k)) (I' 184) (I' 185) := by
      have e : ((n + 1) % 30 + 30 - (U + 1) + U) % 30 = n := by omega
      rw [e]
      exact sta_mv h1 hx k1 k2 (fun k hk => p1 k hk) hl
    have t2 : I' 187 (96 * U + 2) = I 183 2 := p1 2 (by decide)
    refine ⟨U + 1, (n + 1) % 30, by omega, by omega, by rw [hU]; omega, by rw [hV]; omega, by rw [hn]; omega, fun i hi => ?_, fun i j hi hj => ?_⟩
    · by_cases q : i < U
      · obtain ⟨g1, g2⟩ := old i q
        refine ⟨g1, ?_⟩
        rw [g2]
        have := (u6 i q).2
        omega
      · have q : i = U := by omega
        subst q
        refine ⟨top, ?_⟩
        rw [t2]
        exact hm
    · by_cases q : j < U
      · rw [(old i (by omega)).2, (old j q).2]
        exact u7 _ _ (by omega) (by omega)
      · have q : j = U := by omega
        subst q
        rw [(old i (by omega)).2, t2]
        exact (u6 i (by omega)).2
theorem stt_pop (h : STT I x) (hU : (I 40 2).toInt = ((U + 1 : Nat) : Int)) (hn : (I 40 1).toInt = (n : Int)) (hx : HSX I I' x) (hn' : (I' 40 1).toInt = (((n + 29) % 30 : Nat) : Int)) (hU' : (I' 40 2).toInt = (U : Int)) (hV' : (I' 148 60).toInt = (U : Int))
    (hk : (∀ j, j < 6 → I' 36 j = I (45 + 2 * ((n + 29) % 30)) j) ∧ (∀ j, j < 102 → I' 37 j = I (45 + 2 * ((n + 29) % 30) + 1) j))
    (h183 : ∀ k, k < 96 → I' 183 k = I 187 (96 * U + k))
    (ho : ∀ c j, (45 ≤ c ∧ c ≤ 116) ∨ c = 39 ∨ c = 198 ∨ c = 199 ∨ c = 184 ∨ c = 185 ∨ c = 187 → I' c j = I c j) : STT I' x := by
  obtain ⟨h1, h2, ⟨U1, n1, u1, u2, u3, u4, u5, u6, u7⟩, h4⟩ := h
  have eU : U1 = U + 1 := by omega
  have en : n1 = n := by omega
  subst eU
  subst en
  obtain ⟨g1, g2⟩ := u6 U (by omega)
  have g2 : (I 187 (96 * U + 2)).toInt ≤ (I 183 2).toInt := g2
  have hH := sta_hr g1
  have hH : 0 ≤ (I 187 (96 * U + 2)).toInt ∧ (I 187 (96 * U + 2)).toInt ≤ 600 := hH
  have e : (n1 + 30 - (U + 1) + U) % 30 = (n1 + 29) % 30 := by omega
  rw [e] at g1
  refine ⟨sta_mv g1 hx hk.1 hk.2 h183 (fun h _ _ => ⟨ho _ _ (by omega), ho _ _ (by omega)⟩), ?_, ⟨U, (n1 + 29) % 30, by omega, by omega, hU', hV', hn', fun i hi => ?_, fun i j hi hj => ?_⟩, slt_mv h4 hx (fun c j q => ho _ _ (by omega))⟩
  · rw [h183 2 (by decide), hx.1]
    refine lgt_mv (hr := (I 187 (96 * U + 2)).toInt) (fun j hj => h2 j (by omega)) hH.2 (fun h _ _ => ⟨ho _ _ (by omega), ho _ _ (by omega), ho _ _ (by omega)⟩)
  · obtain ⟨q1, q2⟩ := u6 i (by omega)
    have e : ((n1 + 29) % 30 + 30 - U + i) % 30 = (n1 + 30 - (U + 1) + i) % 30 := by omega
    rw [e, h183 2 (by decide), ho 187 _ (by omega)]
    exact ⟨sta_mv q1 hx (fun j hj => ho _ _ (by omega)) (fun j hj => ho _ _ (by omega)) (fun k hk => ho _ _ (by omega)) (fun h _ _ => ⟨ho _ _ (by omega), ho _ _ (by omega)⟩), u7 i U hi (by omega)⟩
  · rw [ho 187 _ (by omega), ho 187 _ (by omega)]
    exact u7 i j hi (by omega)
theorem stt_hold (h : STT I x) (hk : k < 3) (hx : HSX I I' x)
    (h1 : ∀ j, j < 6 → I' (105 + 4 * k) j = I 36 j) (h2 : ∀ j, j < 102 → I' (105 + 4 * k + 1) j = I 37 j) (h3 : ∀ j : Nat, j < 600 → (j : Int) < (I 183 2).toInt → I' (108 + 4 * k) j = I 39 j)
    (h4 : ∀ i, i < 96 → I' 199 (1296 * k + i) = I 183 i) (h5 : ∀ i, i < 600 → I' 199 (1296 * k + 96 + i) = I 184 i ∧ I' 199 (1296 * k + 696 + i) = I 185 i)
    (h6 : ∀ i, i < 3888 → (i < 1296 * k ∨ 1296 * k + 1296 ≤ i) → I' 199 i = I 199 i) (h7 : ∀ i, i ≠ k → I' 198 i = I 198 i)
    (ho : ∀ c j, c ≠ 105 + 4 * k → c ≠ 106 + 4 * k → c ≠ 108 + 4 * k → ND x c j → c ≠ 198 → c ≠ 199 → I' c j = I c j) : STT I' x := by
  have hH := stt_hr h
  have e183 : ∀ j, j < 96 → I' 183 j = I 183 j := fun j hj => ho _ _ (by omega) (by omega) (by omega) (nd_183 hj) (by omega) (by omega)
  have e184 : ∀ j, j < 600 → I' 184 j = I 184 j ∧ I' 185 j = I 185 j := fun j hj => ⟨ho _ _ (by omega) (by omega) (by omega) (nd_184 hj) (by omega) (by omega), ho _ _ (by omega) (by omega) (by omega) (nd_185 hj) (by omega) (by omega)⟩
  obtain ⟨g1, g2, g3, g4⟩ := h
  refine ⟨sta_mv g1 hx (fun j hj => ho _ _ (by omega) (by omega) (by omega) (nd_36 hj) (by omega) (by omega)) (fun j hj => ho _ _ (by omega) (by omega) (by omega) (nd_37 hj) (by omega) (by omega)) e183 (fun h q _ => e184 h q), ?_, und_same g3 hx ⟨ho _ _ (by omega) (by omega) (by omega) (nd_40 (.inl rfl)) (by omega) (by omega), ho _ _ (by omega) (by omega) (by omega) (nd_40 (.inr rfl)) (by omega) (by omega), ho _ _ (by omega) (by omega) (by omega) nd_148 (by omega) (by omega)⟩ (fun n j hn => ⟨fun q => ho _ _ (by omega) (by omega) (by omega) (nd_k hn q) (by omega) (by omega), fun q => ho _ _ (by omega) (by omega) (by omega) (nd_kr hn q) (by omega) (by omega)⟩) (e183 2 (by decide)) e184 (fun j hj => ho _ _ (by omega) (by omega) (by omega) (nd_187 hj) (by omega) (by omega)), fun a ha hn => ?_⟩
  · rw [e183 2 (by decide), hx.1]
    exact lgt_mv g2 hH.2 (fun h q _ => ⟨ho _ _ (by omega) (by omega) (by omega) (nd_39 q) (by omega) (by omega), e184 h q⟩)
  · by_cases e : a = k
    · subst e
      refine ⟨sta_mv g1 hx h1 h2 h4 (fun h q _ => h5 h q), ?_⟩
      rw [h4 2 (by decide), hx.1]
      exact lgt_mv g2 hH.2 (fun h q q' => ⟨h3 h q q', h5 h q⟩)
    · rw [h7 a e] at hn
      obtain ⟨q1, q2⟩ := g4 a ha hn
      have k96 : ∀ j, j < 1296 → I' 199 (1296 * a + j) = I 199 (1296 * a + j) := fun j hj => h6 _ (by omega) (by omega)
      have q6 := sta_hr q1
      have l5 : ∀ h, h < 600 → I' 199 (1296 * a + 96 + h) = I 199 (1296 * a + 96 + h) ∧ I' 199 (1296 * a + 696 + h) = I 199 (1296 * a + 696 + h) := fun h q => ⟨h6 _ (by omega) (by omega), h6 _ (by omega) (by omega)⟩
      refine ⟨sta_mv q1 hx (fun j hj => ho _ _ (by omega) (by omega) (by omega) (nd_sl (by omega)) (by omega) (by omega)) (fun j hj => ho _ _ (by omega) (by omega) (by omega) (nd_sl (by omega)) (by omega) (by omega)) (fun i hi => k96 i (by omega)) (fun h q _ => l5 h q), ?_⟩
      rw [k96 2 (by decide), hx.1]
      exact lgt_mv q2 q6.2 (fun h q _ => ⟨ho _ _ (by omega) (by omega) (by omega) (nd_sl (by omega)) (by omega) (by omega), l5 h q⟩)
theorem stt_restore (h : STT I x) (hk : k < 3) (hh : I 198 k ≠ 0) (hx : HSX I I' x)
    (h1 : ∀ j, j < 6 → I' 36 j = I (105 + 4 * k) j) (h2 : ∀ j, j < 102 → I' 37 j = I (105 + 4 * k + 1) j) (h3 : ∀ j : Nat, j < 600 → (j : Int) < (I 199 (1296 * k + 2)).toInt → I' 39 j = I (108 + 4 * k) j)
    (h4 : ∀ i, i < 96 → I' 183 i = I 199 (1296 * k + i)) (h5 : ∀ i, i < 600 → I' 184 i = I 199 (1296 * k + 96 + i) ∧ I' 185 i = I 199 (1296 * k + 696 + i))
    (h6 : (I' 40 2).toInt = 0) (h7 : (I' 148 60).toInt = 0) (h8 : I' 40 1 = I 40 1)
    (ho : ∀ c j, (105 ≤ c ∧ c ≤ 116) ∨ c = 198 ∨ c = 199 → I' c j = I c j) : STT I' x := by
  obtain ⟨-, -, ⟨U, n, u1, u2, u3, u4, u5, u6, u7⟩, g4⟩ := h
  obtain ⟨q1, q2⟩ := g4 k hk hh
  have q6 := sta_hr q1
  refine ⟨sta_mv q1 hx h1 h2 h4 (fun h q _ => h5 h q), ?_, ⟨0, n, by decide, u2, h6, h7, by rw [h8]; exact u5, fun i hi => absurd hi (by omega), fun i j _ hj => absurd hj (by omega)⟩, slt_mv g4 hx (fun c j q => ho _ _ (by omega))⟩
  rw [h4 2 (by decide), hx.1]
  exact lgt_mv q2 q6.2 (fun h q q' => ⟨h3 h q q', h5 h q⟩)
end PILE
end
section
/-! what an hour writes into the log -/
def HLG (H : HO) (R R' : RW) : Prop := LG1 (R' 222) (R' 223) ∧ (0 < stH H → R' 222 = R' 225) ∧ ((R' 225).toInt < 0 ↔ (R' 223).toInt < 0) ∧ ((R' 225 = -2 ∧ R' 223 = -2 ∧ ∀ i, 35 ≤ i → i ≤ 94 → R' i = R i) ∨ ∃ a s : Nat, a < 6 ∧ s < 10 ∧ (a : Int) < slH H ∧ (s : Int) < stH H ∧ R' 225 = Int32.ofNat a ∧ R' 223 = Int32.ofNat s ∧ R' (35 + 10 * a + s) = R (35 + 10 * a + s) + 1 ∧ ∀ i, 35 ≤ i → i ≤ 94 → i ≠ 35 + 10 * a + s → R' i = R i)
section LGS
variable {H : HO} {R R' : RW} {i n U k h : Nat} {w p w' p' : Nat → Int32}
theorem ofn_j {a b : Nat} (ha : a < 1000) (hb : b < 1000) (h : Int32.ofNat a = Int32.ofNat b) : a = b := by
  have h1 := ofn_i0 (a := a) (by omega)
  have h2 := ofn_i0 (a := b) (by omega)
  rw [h, h2] at h1
  omega
theorem hour_log (hH : HV H) (h : RV H R) (hF : FLG R) : HLG H R (hourF H R) := by
  have h6 := hH.2.1
  have hst := hH.1
  obtain ⟨b1, b2⟩ := rv_h2 hH h hF
  have b3 := rv_h3 b1
  have k1 : ∀ i, 35 ≤ i → i ≤ 94 ∨ 220 ≤ i → hourF H R i = drF H (h3F (h2F H R)) i := fun i h1 h2 => by
    unfold hourF
    rw [upj (by omega), lp_keep (N := 6) (fun R a ha => sl_k ha (by omega)) _ _ _ (by omega)]
  have k2 : ∀ i, 35 ≤ i → i ≤ 94 → h3F (h2F H R) i = R i := fun i h1 h2 => by
    rw [h3_k (by omega)]
    unfold h2F
    rw [upj (by omega), lp_keep (N := 6) (fun R a ha => se_k ha (by omega)) _ _ _ (by omega), lp_keep (N := 6) (fun R a ha => bed_k ha (by omega)) _ _ _ (by omega)]
  have e222 : h3F (h2F H R) 222 = h3F (h2F H R) 1 := by
    unfold h3F
    simp (disch := omega) only [upj, upi]
  revert b3 k1 k2 e222
  generalize h3F (h2F H R) = B
  intro b3 k1 k2 e222
  have e222' : drF H B 222 = B 1 := by rw [dr_k hH b3 (by omega), e222]
  unfold HLG
  rw [k1 222 (by decide) (by decide), k1 223 (by decide) (by decide), k1 225 (by decide) (by decide), e222']
  have q1 := b3.2.2.1
  have q0 := b3.2.1
  have u1 : B 1 = -2 ∨ (0 ≤ (B 1).toInt ∧ (B 1).toInt ≤ 5) := by
    rcases q1 with q | q
    · exact .inl q
    · exact .inr (by omega)
  by_cases hc : (B 1).toInt < 0 ∨ (B 0).toInt < 0
  · have ed : drF H B = up (up B 223 (-2)) 225 (-2) := by
      unfold drF
      rw [if_pos hc]
    have e3 : drF H B 223 = -2 := by rw [ed, upj (by decide), upi]
    have e5 : drF H B 225 = -2 := by rw [ed, upi]
    rw [e3, e5]
    refine ⟨⟨u1, .inl rfl⟩, fun hs => ?_, Iff.rfl, .inl ⟨rfl, rfl, fun i h1 h2 => ?_⟩⟩
    · rcases q0 with q | q
      · omega
      · rcases u1 with z | z
        · exact z
        · omega
    · rw [k1 i h1 (.inl h2), ed, upj (by omega), upj (by omega), k2 i h1 h2]
  · have hc1 : 0 ≤ (B 1).toInt := by omega
    have hc0 : 0 ≤ (B 0).toInt := by omega
    have l1 : (B 1).toInt < slH H := by
      rcases q1 with q | q
      · rw [q] at hc1; exact absurd hc1 (by decide)
      · exact q.2
    have l0 : (B 0).toInt < stH H := by
      rcases q0 with q | q
      · rw [q.2] at hc0; exact absurd hc0 (by decide)
      · exact q.2
    have ea : B 1 = Int32.ofNat (B 1).toInt.toNat := of_n0 (by omega) (by omega)
    have es : B 0 = Int32.ofNat (B 0).toInt.toNat := of_n0 (by omega) (by omega)
    have ed : drF H B = dr2F H (dr1F H B (B 1).toInt.toNat (B 0).toInt.toNat) (B 1).toInt.toNat (B 0).toInt.toNat := by
      unfold drF
      rw [if_neg hc]
    have ha : (B 1).toInt.toNat < 6 := by omega
    have hs : (B 0).toInt.toNat < 10 := by omega
    have la : (((B 1).toInt.toNat : Nat) : Int) < slH H := by omega
    have ls : (((B 0).toInt.toNat : Nat) : Int) < stH H := by omega
    revert ea es ed ha hs la ls
    generalize (B 1).toInt.toNat = a
    generalize (B 0).toInt.toNat = s
    intro ea es ed ha hs la ls
    have ek : ∀ i, i ≠ 0 → i ≠ 3 → drF H B i = dr1F H B a s i := fun i z0 z3 => by rw [ed, dr2_k ⟨z0, z3⟩]
    have e3 : drF H B 223 = B 0 := by
      rw [ek _ (by decide) (by decide)]
      unfold dr1F
      simp (disch := omega) only [upj, upi]
    have e5 : drF H B 225 = B 1 := by
      rw [ek _ (by decide) (by decide)]
      unfold dr1F
      simp (disch := omega) only [upj, upi]
    rw [e3, e5]
    refine ⟨⟨u1, .inr (by omega)⟩, fun _ => rfl, by omega, .inr ⟨a, s, ha, hs, la, ls, ea, es, ?_, fun i h1 h2 hi => ?_⟩⟩
    · rw [k1 _ (by omega) (.inl (by omega)), ek _ (by omega) (by omega)]
      unfold dr1F
      simp (disch := omega) only [upj, upi]
      rw [k2 _ (by omega) (by omega)]
    · rw [k1 i h1 (.inl h2), ek _ (by omega) (by omega)]
      unfold dr1F
      simp (disch := omega) only [upj]
      exact k2 i h1 h2
theorem knl_hour (hH : HV H) (h : RV H R) (hF : FLG R) (hh : (R 2).toInt = (n : Int)) (hn : n < 600) (hK : KNL R w p) (h1 : ∀ h : Nat, h < n → w' h = w h ∧ p' h = p h) (h2 : w' n = hourF H R 225) (h3 : p' n = hourF H R 223) : KNL (hourF H R) w' p' := fun a s ha hs => by
  obtain ⟨v1, v2, v3⟩ := rv_hour hH h hF (by omega)
  obtain ⟨-, -, -, hl⟩ := hour_log hH h hF
  have h8 := h.2.2.2.2.2.2 a s ha hs
  have e2 : (hourF H R 2).toInt = (n : Int) + 1 := by
    rw [v3, rv1_2 (by omega)]
    omega
  have hold : 0 < (R (35 + 10 * a + s)).toInt ↔ ∃ h : Nat, h < n ∧ w' h = Int32.ofNat a ∧ p' h = Int32.ofNat s := by
    rw [hK a s ha hs]
    constructor
    · rintro ⟨j, q1, q2, q3⟩
      obtain ⟨e1, e2⟩ := h1 j (by omega)
      exact ⟨j, by omega, by rw [e1, q2], by rw [e2, q3]⟩
    · rintro ⟨j, q1, q2, q3⟩
      obtain ⟨e1, e2⟩ := h1 j (by omega)
      exact ⟨j, by omega, by rw [← e1, q2], by rw [← e2, q3]⟩
  have new : (∃ h : Nat, (h : Int) < (hourF H R 2).toInt ∧ w' h = Int32.ofNat a ∧ p' h = Int32.ofNat s) ↔ (0 < (R (35 + 10 * a + s)).toInt ∨ (hourF H R 225 = Int32.ofNat a ∧ hourF H R 223 = Int32.ofNat s)) := by
    rw [hold]
    constructor
    · rintro ⟨j, q1, q2, q3⟩
      by_cases e : j = n
      · subst e
        exact .inr ⟨by rw [← h2, q2], by rw [← h3, q3]⟩
      · exact .inl ⟨j, by omega, q2, q3⟩
    · rintro (⟨j, q1, q2, q3⟩ | ⟨q2, q3⟩)
      · exact ⟨j, by omega, q2, q3⟩
      · exact ⟨n, by omega, by rw [h2, q2], by rw [h3, q3]⟩
  rw [new]
  rcases hl with ⟨l1, l2, l3⟩ | ⟨b, t, hb, ht, -, -, l1, l2, l3, l4⟩
  · rw [l3 _ (by omega) (by omega)]
    refine ⟨fun q => .inl q, fun q => q.elim id (fun q => ?_)⟩
    rw [l1] at q
    have z := ofn_i0 (a := a) (by omega)
    rw [← q.1] at z
    have z : (-2 : Int) = (a : Int) := z
    omega
  · by_cases e : a = b ∧ s = t
    · obtain ⟨rfl, rfl⟩ := e
      rw [l3]
      have z : (R (35 + 10 * a + s) + 1).toInt = (R (35 + 10 * a + s)).toInt + 1 := by
        rw [ad_i (by show _ ≤ _ + (1 : Int); omega) (by show _ + (1 : Int) ≤ _; omega)]
        rfl
      refine ⟨fun _ => .inr ⟨l1, l2⟩, fun _ => by omega⟩
    · rw [l4 _ (by omega) (by omega) (by omega)]
      refine ⟨fun q => .inl q, fun q => q.elim id (fun q => ?_)⟩
      rw [l1, l2] at q
      exact absurd ⟨(ofn_j (by omega) (by omega) q.1).symm, (ofn_j (by omega) (by omega) q.2).symm⟩ e
theorem snz_hour (hH : HV H) (h : RV H R) (hF : FLG R) (hS : SNZ H R) : SNZ H (hourF H R) := fun a s ha hs hc => by
  obtain ⟨-, -, -, hl⟩ := hour_log hH h hF
  rcases hl with ⟨l1, l2, l3⟩ | ⟨b, t, hb, ht, lb, lt, l1, l2, l3, l4⟩
  · rw [l3 _ (by omega) (by omega)]
    exact hS a s ha hs hc
  · rw [l4 _ (by omega) (by omega) (by omega)]
    exact hS a s ha hs hc
theorem go_s (hh : (R 2).toInt < 600) : goF H (n + 1) R = goF H n (hourF H R) := by
  show (if (R 2).toInt < 600 then goF H n (hourF H R) else R) = _
  rw [if_pos hh]
theorem go_2 (hH : HV H) : ∀ (m : Nat) (R : RW), RV H R → FLG R → (R 2).toInt + (m : Int) ≤ 600 → (goF H m R 2).toInt = (R 2).toInt + m := by
  intro m
  induction m with
  | zero => intro R _ _ _; show (R 2).toInt = _; omega
  | succ m ih =>
    intro R h hF hm
    have h0 := h.1
    obtain ⟨v1, v2, v3⟩ := rv_hour hH h hF (by omega)
    have e2 : (hourF H R 2).toInt = (R 2).toInt + 1 := by rw [v3, rv1_2 (by omega)]
    rw [go_s (by omega), ih _ v1 (flz_flg v2) (by omega)]
    omega
theorem snz_go (hH : HV H) : ∀ (m : Nat) (R : RW), RV H R → FLG R → SNZ H R → SNZ H (goF H m R) := by
  intro m
  induction m with
  | zero => exact fun R _ _ hS => hS
  | succ m ih =>
    intro R h hF hS
    show SNZ H (if (R 2).toInt < 600 then goF H m (hourF H R) else R)
    by_cases hh : (R 2).toInt < 600
    · rw [if_pos hh]
      obtain ⟨v1, v2, v3⟩ := rv_hour hH h hF hh
      exact ih _ v1 (flz_flg v2) (snz_hour hH h hF hS)
    · rw [if_neg hh]
      exact hS
/-- all hours of a stretch: what the log of both sides holds behind them -/
theorem go_log (hH : HV H) : ∀ (m n : Nat) (R : RW) (w p : Nat → Int32), RV H R → FLG R → (R 2).toInt = (n : Int) → n + m ≤ 600 → KNL R w p → (∀ h : Nat, h < n → w' h = w h ∧ p' h = p h) → (∀ i, i < m → w' (n + i) = goF H (i + 1) R 225 ∧ p' (n + i) = goF H (i + 1) R 223) → KNL (goF H m R) w' p' ∧ ∀ i, i < m → ∃ R0, HLG H R0 (goF H (i + 1) R) := by
  intro m
  induction m with
  | zero =>
    intro n R w p h hF hn hm hK h1 _
    refine ⟨knl_mv (R := R) hK h.1.2 (fun j q1 q2 => h1 j (by omega)), fun i hi => absurd hi (by omega)⟩
  | succ m ih =>
    intro n R w p h hF hn hm hK h1 h2
    obtain ⟨v1, v2, v3⟩ := rv_hour hH h hF (by omega)
    have e2 : (hourF H R 2).toInt = ((n + 1 : Nat) : Int) := by rw [v3, rv1_2 (by omega)]; omega
    have g1 : goF H 1 R = hourF H R := go_s (n := 0) (by omega)
    have hK' : KNL (hourF H R) w' p' := by
      have z := h2 0 (by omega)
      rw [Nat.zero_add, g1, Nat.add_zero] at z
      exact knl_hour hH h hF hn (by omega) hK h1 z.1 z.2
    obtain ⟨k1, k2⟩ := ih (n + 1) (hourF H R) w' p' v1 (flz_flg v2) e2 (by omega) hK' (fun _ _ => ⟨rfl, rfl⟩) (fun i hi => by
      have z := h2 (i + 1) (by omega)
      rw [go_s (by omega), show n + (i + 1) = n + 1 + i by omega] at z
      exact z)
    rw [go_s (by omega)]
    refine ⟨k1, fun i hi => ?_⟩
    cases i with
    | zero => rw [Nat.zero_add, g1]; exact ⟨R, hour_log hH h hF⟩
    | succ i =>
      rw [go_s (by omega)]
      exact k2 i (by omega)
end LGS
end
section
/-! what changes the standing state, in the class -/
def KPT (T T' : TZ) (n : Nat) : Prop := T'.2 = T.2 ∧ (T'.1 40 1).toInt = (((n + 1) % 30 : Nat) : Int) ∧ (T'.1 40 2).toInt = min ((T.1 40 2).toInt + 1) 30 ∧ (∀ j, j < 6 → T'.1 (45 + 2 * n) j = T.1 36 j) ∧ (∀ j, j < 102 → T'.1 (45 + 2 * n + 1) j = T.1 37 j) ∧ ∀ c j, c ≠ 45 + 2 * n → c ≠ 45 + 2 * n + 1 → ¬ (c = 40 ∧ (j = 1 ∨ j = 2)) → T'.1 c j = T.1 c j
section CMU
variable {x y d n U a i j k : Nat} {T T' T1 : TZ} {R R' : RW} {H : HO} {v x1 x2 x3 z : Int32}
theorem rck_k : ((List.range 30).all fun n => rcK 78 (45 + 2 * n)) = true := by decide +kernel
theorem keep_C (hn : (T.1 40 1).toInt = (n : Int)) (h30 : n < 30) (hU : 0 ≤ (T.1 40 2).toInt ∧ (T.1 40 2).toInt ≤ 30) : ∃ T', RX (d + 2) 46 [.ref 40, .ref 36] (wS x y T) = some (none, wS x y T') ∧ KPT T T' n := by
  have hcp : CPs (45 + 2 * n) 36 := .inl ⟨n, h30, rfl, rfl⟩
  have f1 : (cpT T (45 + 2 * n) 36).1 40 1 = T.1 40 1 := cpT_o (by omega) (by omega)
  have f2 : (cpT T (45 + 2 * n) 36).1 40 2 = T.1 40 2 := cpT_o (by omega) (by omega)
  rw [e_X4_keep, q_X4_keep_0, inR_of (n := 30) (by omega) (by omega), cond_true, tnc hn, List.all_eq_true.mp rck_k n (List.mem_range.mpr h30), cond_true, cp_C (d := d) hcp]
  show ∃ T', limK (RX (d + 1)) (mdOf 46) 13 _ [] _ = _ ∧ _
  rw [q_X4_keep_13, q_X4_keep_38, f1, f2]
  have e1 : ((T.1 40 1) + 1).toInt = (n : Int) + 1 := by
    rw [ad_i (by show _ ≤ _ + (1 : Int); omega) (by show _ + (1 : Int) ≤ _; omega), hn]
    rfl
  have e2 : ((T.1 40 2) + 1).toInt = (T.1 40 2).toInt + 1 := by
    rw [ad_i (by show _ ≤ _ + (1 : Int); omega) (by show _ + (1 : Int) ≤ _; omega)]
    rfl
  refine ⟨_, rfl, rfl, ?_, ?_, fun j hj => ?_, fun j hj => ?_, fun c j q1 q2 q3 => ?_⟩
  · rw [zI_j _ (by decide), zI_i, rem_ok (by omega) (by decide), e1]
    show ((n : Int) + 1) % 30 = _
    omega
  · rw [zI_i]
    split
    · rename_i h
      have h := Int32.lt_iff_toInt_lt.mp h
      rw [e2] at h
      have h : (30 : Int) < (T.1 40 2).toInt + 1 := h
      show (30 : Int) = _
      omega
    · rename_i h
      have h : ¬ (30 : Int) < ((T.1 40 2) + 1).toInt := fun q => h (Int32.lt_iff_toInt_lt.mpr q)
      rw [e2] at h ⊢
      omega
  · rw [zI_ne _ (by omega), zI_ne _ (by omega), cpT_f hj]
  · rw [zI_ne _ (by omega), zI_ne _ (by omega), cpT_r hj]
  · rw [zI_no _ (by omega), zI_no _ (by omega), cpT_o q1 q2]
theorem back_C (hn : (T.1 40 1).toInt = (n : Int)) (h30 : n < 30) (hU : (T.1 40 2).toInt = (U : Int)) (hU30 : U ≤ 30) : (U = 0 → RX (d + 2) 47 [.ref 40, .ref 36] (wS x y T) = some (some (.int 0), wS x y T)) ∧ (0 < U → ∃ T', RX (d + 2) 47 [.ref 40, .ref 36] (wS x y T) = some (some (.int 1), wS x y T') ∧ T'.2 = T.2 ∧ (T'.1 40 1).toInt = (((n + 29) % 30 : Nat) : Int) ∧ (T'.1 40 2).toInt = (U : Int) - 1 ∧ (∀ j, j < 6 → T'.1 36 j = T.1 (45 + 2 * ((n + 29) % 30)) j) ∧ (∀ j, j < 102 → T'.1 37 j = T.1 (45 + 2 * ((n + 29) % 30) + 1) j) ∧ ∀ c j, c ≠ 36 → c ≠ 37 → ¬ (c = 40 ∧ (j = 1 ∨ j = 2)) → T'.1 c j = T.1 c j) := by
  rw [e_X4_takeBack, q_X4_takeBack_0]
  refine ⟨fun q => ?_, fun q => ?_⟩
  · rw [ne_f (by rw [hU, q]; rfl), cond_false]
  · have e1 : ((T.1 40 1) + 30).toInt = (n : Int) + 30 := by
      rw [ad_i (by show _ ≤ _ + (30 : Int); omega) (by show _ + (30 : Int) ≤ _; omega), hn]
      rfl
    have e2 : (((T.1 40 1) + 30) - 1).toInt = (n : Int) + 29 := by
      rw [sb_i (by show _ ≤ _ - (1 : Int); omega) (by show _ - (1 : Int) ≤ _; omega), e1]
      show (n : Int) + 30 - 1 = _
      omega
    have e3 : ((((T.1 40 1) + 30) - 1) - (((T.1 40 1) + 30) - 1) / 30 * 30).toInt = (((n + 29) % 30 : Nat) : Int) := by
      rw [rem_ok (by omega) (by decide), e2]
      show ((n : Int) + 29) % 30 = _
      omega
    have e4 : ((T.1 40 2) - 1).toInt = (U : Int) - 1 := by
      rw [sb_i (by show _ ≤ _ - (1 : Int); omega) (by show _ - (1 : Int) ≤ _; omega), hU]
      rfl
    revert e3
    generalize ((((T.1 40 1) + 30) - 1) - (((T.1 40 1) + 30) - 1) / 30 * 30) = m
    intro e3
    have hm : (n + 29) % 30 < 30 := Nat.mod_lt _ (by decide)
    have hcp : CPs 36 (45 + 2 * ((n + 29) % 30)) := .inr (.inl ⟨_, hm, rfl, rfl⟩)
    rw [ne_t (by rw [hU]; show (U : Int) ≠ 0; omega), cond_true, inR_of (n := 30) (by omega) (by omega), cond_true, tnc e3, cp_C (d := d) hcp]
    show ∃ T', limK (RX (d + 1)) (mdOf 47) 48 _ [] _ = _ ∧ _
    rw [q_X4_takeBack_48]
    refine ⟨_, rfl, rfl, ?_, ?_, fun j hj => ?_, fun j hj => ?_, fun c j q1 q2 q3 => ?_⟩
    · rw [cpT_o (by decide) (by decide), zI_i, e3]
    · rw [cpT_o (by decide) (by decide), zI_j _ (by decide), zI_i, e4]
    · rw [cpT_f hj, zI_ne _ (by omega), zI_ne _ (by omega)]
    · rw [cpT_r hj, zI_ne _ (by omega), zI_ne _ (by omega)]
    · rw [cpT_o q1 q2, zI_no _ (by omega), zI_no _ (by omega)]
theorem hod_C : RX (d + 1) 192 [.int x1] (wS x y T) = some (some (.int (if 0 ≤ x1.toInt ∧ x1.toInt < 24 then 1 else 0)), wS x y T) := by
  have k14 : limK (RX d) (mdOf 192) 14 [some (.int x1)] [] (wS x y T) = some (some (.int 0), wS x y T) := by rw [q_X11_isHourOfDay_14, q_X11_isHourOfDay_15]; rfl
  rw [e_X11_isHourOfDay, q_X11_isHourOfDay_0]
  rcases c_lt x1 0 with ⟨a1, a2⟩ | ⟨a1, a2⟩
  · have a2 : x1.toInt < 0 := a2
    rw [a1, cond_true, k14, if_neg (by omega)]
  · have a2 : 0 ≤ x1.toInt := a2
    rw [a1, cond_false]
    rcases c_ge x1 24 with ⟨b1, b2⟩ | ⟨b1, b2⟩
    · have b2 : 24 ≤ x1.toInt := b2
      rw [b1, cond_true, k14, if_neg (by omega)]
    · have b2 : x1.toInt < 24 := b2
      rw [b1, cond_false, q_X11_isHourOfDay_15, if_pos ⟨a2, b2⟩]
      rfl
/-- a call that keeps what was and changes the standing state to R' -/
def MUT (T T' : TZ) (x n : Nat) (R' : RW) : Prop := ∃ T1, KPT T T1 n ∧ CSt T' 36 R' ∧ T'.2 = T.2 ∧ ∀ c j, c ≠ 36 → c ≠ 37 → c ≠ x + 11 → c ≠ x + 12 → T'.1 c j = T1.1 c j
theorem cs_kp (h : CSt T 36 R) (hk : KPT T T1 n) (h30 : n < 30) : CSt T1 36 R := cs_o h (fun j _ => hk.2.2.2.2.2 _ _ (by omega) (by omega) (by omega)) (fun j => hk.2.2.2.2.2 _ _ (by omega) (by omega) (by omega))
def NPP (sl : Int) (R : RW) (x1 x2 : Int32) : Prop := 0 ≤ x1.toInt ∧ x1.toInt < sl ∧ 1 ≤ x2.toInt ∧ x2.toInt ≤ 12 ∧ (R (4 + x1.toInt.toNat)).toInt ≤ 0
theorem nap_C (hx : x = 10 ∨ x = 23) (hC : CSt T 36 R) (h6 : (T.1 x 2).toInt ≤ 6) (hn : (T.1 40 1).toInt = (n : Int)) (h30 : n < 30) (hU : 0 ≤ (T.1 40 2).toInt ∧ (T.1 40 2).toInt ≤ 30) : (NPP (T.1 x 2).toInt R x1 x2 → ∃ T', RX (d + 4) 153 [.ref 0, .int x1, .int x2] (wS x y T) = some (some (.int 1), wS x y T') ∧ MUT T T' x n (fallF R x1.toInt.toNat x2)) ∧ (¬ NPP (T.1 x 2).toInt R x1 x2 → RX (d + 4) 153 [.ref 0, .int x1, .int x2] (wS x y T) = some (some (.int 0), wS x y T)) := by
  have k30 : limK (RX (d + 3)) (mdOf 153) 30 [some (.ref 0), some (.int x1), some (.int x2)] [] (wS x y T) = some (some (.int 0), wS x y T) := by rw [q_X11_nap_30 (hx := hx)]
  rw [e_X11_nap, q_X11_nap_0 (hx := hx), isSl_C hx]
  unfold NPP
  by_cases p1 : 0 ≤ x1.toInt ∧ x1.toInt < (T.1 x 2).toInt
  · rw [if_pos p1]
    show (_ → ∃ T', limK (RX (d + 3)) (mdOf 153) 5 _ [.int 1] _ = _ ∧ _) ∧ (_ → limK (RX (d + 3)) (mdOf 153) 5 _ [.int 1] _ = _)
    rw [q_X11_nap_5 (hx := hx), show cmpB .eq (1 : Int32) 0 = false from rfl, cond_false, k30]
    rcases c_lt x2 1 with ⟨a1, a2⟩ | ⟨a1, a2⟩
    · have a2 : x2.toInt < 1 := a2
      rw [a1, cond_true]
      exact ⟨fun q => by omega, fun _ => rfl⟩
    have a2 : 1 ≤ x2.toInt := a2
    rw [a1, cond_false]
    rcases c_gt x2 12 with ⟨b1, b2⟩ | ⟨b1, b2⟩
    · have b2 : 12 < x2.toInt := b2
      rw [b1, cond_true]
      exact ⟨fun q => by omega, fun _ => rfl⟩
    have b2 : x2.toInt ≤ 12 := b2
    have hxe : x1.toInt = ((x1.toInt.toNat : Nat) : Int) := by omega
    rw [b1, cond_false, show d + 3 = d + 1 + 2 from rfl, isAsleep_C (d := d + 1) (.inl rfl) hC hxe (by omega)]
    show (_ → ∃ T', limK (RX (d + 3)) (mdOf 153) 27 _ [.int _] _ = _ ∧ _) ∧ (_ → limK (RX (d + 3)) (mdOf 153) 27 _ [.int _] _ = _)
    rw [q_X11_nap_27 (hx := hx), asl_b, k30]
    by_cases p3 : 0 < (R (4 + x1.toInt.toNat)).toInt
    · rw [decide_eq_true p3]
      exact ⟨fun q => by omega, fun _ => rfl⟩
    · obtain ⟨T1, g1, g2⟩ := keep_C (x := x) (y := y) (d := d + 1) hn h30 hU
      obtain ⟨T2, m1, m2, m3, m4⟩ := layDown_C (x := x) (y := y) (d := d + 1) (n := x2) (.inl rfl) (cs_kp hC g2 h30) hxe (by omega)
      rw [decide_eq_false p3, show (!false) = true from rfl, cond_true, show d + 3 = d + 1 + 2 from rfl, g1]
      refine ⟨fun _ => ⟨T2, ?_, T1, g2, m2, m3.2.trans g2.1, fun c j q1 q2 q3 q4 => m3.1 c j q1 q2 q3 q4⟩, fun q => absurd ⟨p1.1, p1.2, a2, b2, by omega⟩ q⟩
      show limK (RX (d + 3)) (mdOf 153) 43 _ [] _ = _
      rw [q_X11_nap_43 (hx := hx), show d + 3 = d + 1 + 2 from rfl, m1]
      show limK (RX (d + 3)) (mdOf 153) 52 _ [] _ = _
      rw [q_X11_nap_52 (hx := hx)]
  · rw [if_neg p1]
    show (_ → ∃ T', limK (RX (d + 3)) (mdOf 153) 5 _ [.int 0] _ = _ ∧ _) ∧ (_ → limK (RX (d + 3)) (mdOf 153) 5 _ [.int 0] _ = _)
    rw [q_X11_nap_5 (hx := hx), show cmpB .eq (0 : Int32) 0 = true from rfl, cond_true, k30]
    exact ⟨fun q => absurd ⟨q.1, q.2.1⟩ p1, fun _ => rfl⟩
def WKP (sl : Int) (R : RW) (x1 : Int32) : Prop := 0 ≤ x1.toInt ∧ x1.toInt < sl ∧ 0 < (R (4 + x1.toInt.toNat)).toInt
theorem wake_C (hx : x = 10 ∨ x = 23) (hC : CSt T 36 R) (h6 : (T.1 x 2).toInt ≤ 6) (hn : (T.1 40 1).toInt = (n : Int)) (h30 : n < 30) (hU : 0 ≤ (T.1 40 2).toInt ∧ (T.1 40 2).toInt ≤ 30) : (WKP (T.1 x 2).toInt R x1 → ∃ T', RX (d + 4) 154 [.ref 0, .int x1] (wS x y T) = some (some (.int 1), wS x y T') ∧ MUT T T' x n (wkF R x1.toInt.toNat)) ∧ (¬ WKP (T.1 x 2).toInt R x1 → RX (d + 4) 154 [.ref 0, .int x1] (wS x y T) = some (some (.int 0), wS x y T)) := by
  have k19 : limK (RX (d + 3)) (mdOf 154) 19 [some (.ref 0), some (.int x1)] [] (wS x y T) = some (some (.int 0), wS x y T) := by rw [q_X11_wake_19 (hx := hx)]
  rw [e_X11_wake, q_X11_wake_0 (hx := hx), isSl_C hx]
  unfold WKP
  by_cases p1 : 0 ≤ x1.toInt ∧ x1.toInt < (T.1 x 2).toInt
  · rw [if_pos p1]
    show (_ → ∃ T', limK (RX (d + 3)) (mdOf 154) 5 _ [.int 1] _ = _ ∧ _) ∧ (_ → limK (RX (d + 3)) (mdOf 154) 5 _ [.int 1] _ = _)
    have hxe : x1.toInt = ((x1.toInt.toNat : Nat) : Int) := by omega
    rw [q_X11_wake_5 (hx := hx), show cmpB .eq (1 : Int32) 0 = false from rfl, cond_false, show d + 3 = d + 1 + 2 from rfl, isAsleep_C (d := d + 1) (.inl rfl) hC hxe (by omega)]
    show (_ → ∃ T', limK (RX (d + 3)) (mdOf 154) 16 _ [.int _] _ = _ ∧ _) ∧ (_ → limK (RX (d + 3)) (mdOf 154) 16 _ [.int _] _ = _)
    rw [q_X11_wake_16 (hx := hx), k19]
    by_cases p3 : 0 < (R (4 + x1.toInt.toNat)).toInt
    · obtain ⟨T1, g1, g2⟩ := keep_C (x := x) (y := y) (d := d + 1) hn h30 hU
      obtain ⟨T2, m1, m2, m3, m4⟩ := rouse_C (x := x) (y := y) (d := d + 1) (.inl rfl) (cs_kp hC g2 h30) hxe (by omega)
      rw [if_pos p3, show cmpB .ne (1 : Int32) 0 = true from rfl, cond_true, show d + 3 = d + 1 + 2 from rfl, g1]
      refine ⟨fun _ => ⟨T2, ?_, T1, g2, m2, m3.2.trans g2.1, fun c j q1 q2 q3 q4 => m3.1 c j q1 q2 q3 q4⟩, fun q => absurd ⟨p1.1, p1.2, p3⟩ q⟩
      show limK (RX (d + 3)) (mdOf 154) 32 _ [] _ = _
      rw [q_X11_wake_32 (hx := hx), show d + 3 = d + 1 + 2 from rfl, m1]
      show limK (RX (d + 3)) (mdOf 154) 40 _ [] _ = _
      rw [q_X11_wake_40 (hx := hx)]
    · rw [if_neg p3, show cmpB .ne (0 : Int32) 0 = false from rfl, cond_false]
      exact ⟨fun q => absurd q.2.2 p3, fun _ => rfl⟩
  · rw [if_neg p1]
    show (_ → ∃ T', limK (RX (d + 3)) (mdOf 154) 5 _ [.int 0] _ = _ ∧ _) ∧ (_ → limK (RX (d + 3)) (mdOf 154) 5 _ [.int 0] _ = _)
    rw [q_X11_wake_5 (hx := hx), show cmpB .eq (0 : Int32) 0 = true from rfl, cond_true, k19]
    exact ⟨fun q => absurd ⟨q.1, q.2.1⟩ p1, fun _ => rfl⟩
def BDP (sl : Int) (R : RW) (x1 x2 : Int32) : Prop := 0 ≤ x1.toInt ∧ x1.toInt < sl ∧ 0 ≤ x2.toInt ∧ x2.toInt < 24 ∧ R (22 + x1.toInt.toNat) ≠ x2
theorem bed_C (hx : x = 10 ∨ x = 23) (hC : CSt T 36 R) (h6 : (T.1 x 2).toInt ≤ 6) (hn : (T.1 40 1).toInt = (n : Int)) (h30 : n < 30) (hU : 0 ≤ (T.1 40 2).toInt ∧ (T.1 40 2).toInt ≤ 30) : (BDP (T.1 x 2).toInt R x1 x2 → ∃ T', RX (d + 4) 155 [.ref 0, .int x1, .int x2] (wS x y T) = some (some (.int 1), wS x y T') ∧ MUT T T' x n (up R (22 + x1.toInt.toNat) x2)) ∧ (¬ BDP (T.1 x 2).toInt R x1 x2 → RX (d + 4) 155 [.ref 0, .int x1, .int x2] (wS x y T) = some (some (.int 0), wS x y T)) := by
  have k28 : limK (RX (d + 3)) (mdOf 155) 28 [some (.ref 0), some (.int x1), some (.int x2)] [] (wS x y T) = some (some (.int 0), wS x y T) := by rw [q_X11_bed_28 (hx := hx)]
  rw [e_X11_bed, q_X11_bed_0 (hx := hx), isSl_C hx]
  unfold BDP
  by_cases p1 : 0 ≤ x1.toInt ∧ x1.toInt < (T.1 x 2).toInt
  · rw [if_pos p1]
    show (_ → ∃ T', limK (RX (d + 3)) (mdOf 155) 5 _ [.int 1] _ = _ ∧ _) ∧ (_ → limK (RX (d + 3)) (mdOf 155) 5 _ [.int 1] _ = _)
    rw [q_X11_bed_5 (hx := hx), show cmpB .eq (1 : Int32) 0 = false from rfl, cond_false, hod_C]
    by_cases p2 : 0 ≤ x2.toInt ∧ x2.toInt < 24
    · rw [if_pos p2]
      show (_ → ∃ T', limK (RX (d + 3)) (mdOf 155) 12 _ [.int 1] _ = _ ∧ _) ∧ (_ → limK (RX (d + 3)) (mdOf 155) 12 _ [.int 1] _ = _)
      have hxe : x1.toInt = ((x1.toInt.toNat : Nat) : Int) := by omega
      have e : T.1 (36 + 1) (17 * x1.toInt.toNat + 3) = R (22 + x1.toInt.toNat) := by rw [hC.2.2.2.2.2.2 _ (by omega), mp_3 (by omega)]
      rw [q_X11_bed_12 (hx := hx), show cmpB .eq (1 : Int32) 0 = false from rfl, cond_false, show d + 3 = d + 2 + 1 from rfl, of_C (d := d + 2) (s := 36) (.inl rfl) hxe (by omega) (k := 3) rfl (by decide), e]
      show (_ → ∃ T', limK (RX (d + 3)) (mdOf 155) 24 _ [.int _] _ = _ ∧ _) ∧ (_ → limK (RX (d + 3)) (mdOf 155) 24 _ [.int _] _ = _)
      rw [q_X11_bed_24 (hx := hx), k28]
      rcases c_ne (R (22 + x1.toInt.toNat)) x2 with ⟨a1, a2⟩ | ⟨a1, a2⟩
      · obtain ⟨T1, g1, g2⟩ := keep_C (x := x) (y := y) (d := d + 1) hn h30 hU
        rw [a1, cond_true, show d + 3 = d + 1 + 2 from rfl, g1]
        refine ⟨fun _ => ⟨zI T1 (36 + 1) (17 * x1.toInt.toNat + 3) x2, ?_, T1, g2, cs_w (cs_kp hC g2 h30) (by omega) (mp_3 (by omega)), g2.1, fun c j q1 q2 q3 q4 => zI_ne _ q2⟩, fun q => absurd ⟨p1.1, p1.2, p2.1, p2.2, fun z => a2 (by rw [z])⟩ q⟩
        show limK (RX (d + 3)) (mdOf 155) 41 _ [] _ = _
        rw [q_X11_bed_41 (hx := hx), show d + 3 = d + 2 + 1 from rfl, put_C (d := d + 2) (s := 36) (.inl rfl) hxe (by omega) (k := 3) rfl (by decide)]
        show limK (RX (d + 3)) (mdOf 155) 51 _ [] _ = _
        rw [q_X11_bed_51 (hx := hx)]
      · rw [a1, cond_false]
        exact ⟨fun q => absurd (Int32.toInt_inj.mp a2) q.2.2.2.2, fun _ => rfl⟩
    · rw [if_neg p2]
      show (_ → ∃ T', limK (RX (d + 3)) (mdOf 155) 12 _ [.int 0] _ = _ ∧ _) ∧ (_ → limK (RX (d + 3)) (mdOf 155) 12 _ [.int 0] _ = _)
      rw [q_X11_bed_12 (hx := hx), show cmpB .eq (0 : Int32) 0 = true from rfl, cond_true, k28]
      exact ⟨fun q => absurd ⟨q.2.2.1, q.2.2.2.1⟩ p2, fun _ => rfl⟩
  · rw [if_neg p1]
    show (_ → ∃ T', limK (RX (d + 3)) (mdOf 155) 5 _ [.int 0] _ = _ ∧ _) ∧ (_ → limK (RX (d + 3)) (mdOf 155) 5 _ [.int 0] _ = _)
    rw [q_X11_bed_5 (hx := hx), show cmpB .eq (0 : Int32) 0 = true from rfl, cond_true, k28]
    exact ⟨fun q => absurd ⟨q.1, q.2.1⟩ p1, fun _ => rfl⟩
def STP (st : Int) (R : RW) (x1 : Int32) : Prop := 0 ≤ x1.toInt ∧ x1.toInt < st ∧ R 0 ≠ x1
theorem set_C (hx : x = 10 ∨ x = 23) (hC : CSt T 36 R) (hn : (T.1 40 1).toInt = (n : Int)) (h30 : n < 30) (hU : 0 ≤ (T.1 40 2).toInt ∧ (T.1 40 2).toInt ≤ 30) : (STP (T.1 x 0).toInt R x1 → ∃ T', RX (d + 4) 156 [.ref 0, .int x1] (wS x y T) = some (some (.int 1), wS x y T') ∧ MUT T T' x n (up R 0 x1)) ∧ (¬ STP (T.1 x 0).toInt R x1 → RX (d + 4) 156 [.ref 0, .int x1] (wS x y T) = some (some (.int 0), wS x y T)) := by
  have k19 : limK (RX (d + 3)) (mdOf 156) 19 [some (.ref 0), some (.int x1)] [] (wS x y T) = some (some (.int 0), wS x y T) := by rw [q_X11_set_19 (hx := hx)]
  rw [e_X11_set, q_X11_set_0 (hx := hx), isSt_C hx]
  unfold STP
  by_cases p1 : 0 ≤ x1.toInt ∧ x1.toInt < (T.1 x 0).toInt
  · rw [if_pos p1]
    show (_ → ∃ T', limK (RX (d + 3)) (mdOf 156) 5 _ [.int 1] _ = _ ∧ _) ∧ (_ → limK (RX (d + 3)) (mdOf 156) 5 _ [.int 1] _ = _)
    rw [q_X11_set_5 (hx := hx), show cmpB .eq (1 : Int32) 0 = false from rfl, cond_false, k19, hC.2.1]
    rcases c_ne (R 0) x1 with ⟨a1, a2⟩ | ⟨a1, a2⟩
    · obtain ⟨T1, g1, g2⟩ := keep_C (x := x) (y := y) (d := d + 1) hn h30 hU
      rw [a1, cond_true, show d + 3 = d + 1 + 2 from rfl, g1]
      refine ⟨fun _ => ⟨zI T1 36 1 x1, ?_, T1, g2, cs_f (cs_kp hC g2 h30) (by decide) rfl, g2.1, fun c j q1 q2 q3 q4 => zI_ne _ q1⟩, fun q => absurd ⟨p1.1, p1.2, fun z => a2 (by rw [z])⟩ q⟩
      show limK (RX (d + 3)) (mdOf 156) 32 _ [] _ = _
      rw [q_X11_set_32 (hx := hx)]
    · rw [a1, cond_false]
      exact ⟨fun q => absurd (Int32.toInt_inj.mp a2) q.2.2, fun _ => rfl⟩
  · rw [if_neg p1]
    show (_ → ∃ T', limK (RX (d + 3)) (mdOf 156) 5 _ [.int 0] _ = _ ∧ _) ∧ (_ → limK (RX (d + 3)) (mdOf 156) 5 _ [.int 0] _ = _)
    rw [q_X11_set_5 (hx := hx), show cmpB .eq (0 : Int32) 0 = true from rfl, cond_true, k19]
    exact ⟨fun q => absurd ⟨q.1, q.2.1⟩ p1, fun _ => rfl⟩
end CMU
end
section
/-! what changes the standing state, in the reference -/
def WR (S S' : WS) (P : Nat → Nat → Prop) (g : Nat → Nat → Int32) : Prop := (∀ c j, P c j → S'.1 c j = g c j) ∧ (∀ c j, ¬ P c j → S'.1 c j = S.1 c j) ∧ S'.2 = S.2
/-- a call that keeps what was: the row of now is R' -/
def PSM (S S' : WS) (U : Nat) (R' : RW) : Prop := (∀ i, i < 96 → S'.1 183 i = R' i) ∧ HIS S.1 S'.1 U ∧ (S'.1 148 60).toInt = min ((S.1 148 60).toInt + 1) 30 ∧ (∀ c j, c < 181 ∨ c = 188 ∨ 189 ≤ c → ¬ (c = 148 ∧ (j = 51 ∨ (56 ≤ j ∧ j ≤ 60))) → S'.1 c j = S.1 c j) ∧ S'.2 = S.2
def PSL (S S' : WS) : Prop := ∀ j, S'.1 184 j = S.1 184 j ∧ S'.1 185 j = S.1 185 j
section RMU
variable {d i j a k n v U : Nat} {S S' S1 S2 : WS} {R R' : RW} {H : HO} {x1 x2 x3 z u w : Int32} {P P' : Nat → Nat → Prop} {g : Nat → Nat → Int32} {c0 : Nat}
theorem wr_0 (h : ∀ c j, ¬ P c j) : WR S S P g := ⟨fun c j q => absurd q (h c j), fun _ _ _ => rfl, rfl⟩
theorem wr_step (h : WR S S' P g) (hv : u = g c0 k) (hP : ∀ c j, P' c j ↔ (P c j ∨ (c = c0 ∧ j = k))) : WR S (uI S' c0 k u) P' g := by
  refine ⟨fun c j q => ?_, fun c j q => ?_, h.2.2⟩
  · by_cases e : c = c0 ∧ j = k
    · obtain ⟨rfl, rfl⟩ := e
      rw [uI_i, hv]
    · rw [uI_no _ _ _ _ e]
      exact h.1 c j (((hP c j).mp q).resolve_right e)
  · have e : ¬ (c = c0 ∧ j = k) := fun e => q ((hP c j).mpr (.inr e))
    rw [uI_no _ _ _ _ e]
    exact h.2.1 c j (fun z => q ((hP c j).mpr (.inl z)))
theorem wr_iff (h : WR S S' P g) (hP : ∀ c j, P' c j ↔ P c j) : WR S S' P' g := ⟨fun c j q => h.1 c j ((hP c j).mp q), fun c j q => h.2.1 c j (fun z => q ((hP c j).mpr z)), h.2.2⟩
theorem copies_M (hv : inR (S.1 148 18) 2 = true) (hR : ∀ i, i < 96 → S.1 183 i = R i) (h5 : R 220 = S.1 170 (S.1 148 18).toNatClampNeg) (h6 : R 221 = -1) : ∃ S', RX (d + 2) 235 [.ref 148] S = some (none, S') ∧ RM S' R ∧ (∀ c j, c ≠ 186 → ¬ (c = 148 ∧ (j = 56 ∨ j = 57)) → S'.1 c j = S.1 c j) ∧ S'.2 = S.2 := by
  have key : ∀ (m i : Nat) (x1 : Int32) (S1 : WS), i + m = 96 → x1.toInt = (i : Int) → WR S S1 (fun c j => c = 186 ∧ j < i) (fun c j => S.1 183 j) → ∃ S', limK (RX (d + 1)) (mdOf 235) 2 [some (.ref 148), some (.int x1)] [] S1 = some (none, S') ∧ RM S' R ∧ (∀ c j, c ≠ 186 → ¬ (c = 148 ∧ (j = 56 ∨ j = 57)) → S'.1 c j = S.1 c j) ∧ S'.2 = S.2 := by
    intro m
    induction m with
    | zero =>
      intro i x1 S1 hi hx hW
      have e18 : S1.1 148 18 = S.1 148 18 := hW.2.1 _ _ (by omega)
      have e170 : ∀ j, S1.1 170 j = S.1 170 j := fun j => hW.2.1 _ _ (by omega)
      rw [q_X12_copies_2, ge_t (by rw [hx]; show (96 : Int) ≤ _; omega), cond_true, e_X12_plainly, q_X12_plainly_0, e18, hv, cond_true]
      show ∃ S', limK (RX (d + 1)) (mdOf 235) 30 _ [] _ = _ ∧ _
      rw [q_X12_copies_30]
      refine ⟨_, rfl, ⟨fun j hj => ?_, ?_, ?_⟩, fun c j q1 q2 => ?_, hW.2.2⟩
      · rw [uI_ne _ _ _ _ (by decide), uI_ne _ _ _ _ (by decide), hW.1 186 j ⟨rfl, by omega⟩]
        exact hR j hj
      · rw [uI_j _ (by decide), uI_i, e170, h5]
      · rw [uI_i, h6]
      · rw [uI_no _ _ _ _ (by omega), uI_no _ _ _ _ (by omega)]
        exact hW.2.1 _ _ (by omega)
    | succ m ih =>
      intro i x1 S1 hi hx hW
      rw [q_X12_copies_2, ge_f (by rw [hx]; show _ < (96 : Int); omega), cond_false, inR_of (n := 96) (by omega) (by omega), cond_true, cond_true, tnc hx]
      exact ih (i + 1) (x1 + 1) _ (by omega) (inc_i hx (by omega)) (wr_step hW (hW.2.1 _ _ (by omega)) (fun c j => by omega))
  rw [e_X12_copies, q_X12_copies_0]
  exact key 96 0 0 S (by decide) rfl (wr_0 (fun c j => by omega))
theorem keepsRow_M : ∃ S', RX (d + 1) 234 [.ref 148] S = some (none, S') ∧ WR S S' (fun c j => c = 183 ∧ j < 96) (fun c j => S.1 186 j) := by
  have key : ∀ (m i : Nat) (x1 : Int32) (S1 : WS), i + m = 96 → x1.toInt = (i : Int) → WR S S1 (fun c j => c = 183 ∧ j < i) (fun c j => S.1 186 j) → ∃ S', limK (RX d) (mdOf 234) 2 [some (.ref 148), some (.int x1)] [] S1 = some (none, S') ∧ WR S S' (fun c j => c = 183 ∧ j < 96) (fun c j => S.1 186 j) := by
    intro m
    induction m with
    | zero =>
      intro i x1 S1 hi hx hW
      rw [q_X12_keepsRow_2, ge_t (by rw [hx]; show (96 : Int) ≤ _; omega), cond_true]
      exact ⟨S1, rfl, wr_iff hW (fun c j => by omega)⟩
    | succ m ih =>
      intro i x1 S1 hi hx hW
      rw [q_X12_keepsRow_2, ge_f (by rw [hx]; show _ < (96 : Int); omega), cond_false, inR_of (n := 96) (by omega) (by omega), cond_true, cond_true, tnc hx]
      exact ih (i + 1) (x1 + 1) _ (by omega) (inc_i hx (by omega)) (wr_step hW (hW.2.1 _ _ (by omega)) (fun c j => by omega))
  rw [e_X12_keepsRow, q_X12_keepsRow_0]
  exact key 96 0 0 S (by decide) rfl (wr_0 (fun c j => by omega))
theorem ix96 (hU : w.toInt = (U : Int)) (hU30 : U ≤ 30) (hx : x1.toInt = (i : Int)) (hi : i < 96) : (((96 : Int32) * w) + x1).toInt = ((96 * U + i : Nat) : Int) := by
  have hm : ((96 : Int32) * w).toInt = 96 * (U : Int) := by
    rw [mu_i (by rw [hU]; show _ ≤ (96 : Int) * _; omega) (by rw [hU]; show (96 : Int) * _ ≤ _; omega), hU]
    rfl
  rw [ad_i (by omega) (by omega), hm, hx]
  omega
/-- the pile's top is written, and then now -/
theorem keeps51 (hU : (S.1 148 60).toInt = (U : Int)) (hU30 : U < 30) : ∃ S', limK (RX (d + 1)) (mdOf 251) 49 [some (.ref 148), none] [] S = some (none, S') ∧ (∀ i, i < 96 → S'.1 183 i = S.1 186 i) ∧ (∀ k, k < 96 → S'.1 187 (96 * U + k) = S.1 183 k) ∧ (∀ j, ¬ (96 * U ≤ j ∧ j < 96 * U + 96) → S'.1 187 j = S.1 187 j) ∧ (S'.1 148 60).toInt = (U : Int) + 1 ∧ (∀ c j, c ≠ 183 → c ≠ 187 → ¬ (c = 148 ∧ j = 60) → S'.1 c j = S.1 c j) ∧ S'.2 = S.2 := by
  have key : ∀ (m i : Nat) (x1 : Int32) (S1 : WS), i + m = 96 → x1.toInt = (i : Int) → WR S S1 (fun c j => c = 187 ∧ 96 * U ≤ j ∧ j < 96 * U + i) (fun c j => S.1 183 (j - 96 * U)) → ∃ S', limK (RX (d + 1)) (mdOf 251) 51 [some (.ref 148), some (.int x1)] [] S1 = some (none, S') ∧ (∀ i, i < 96 → S'.1 183 i = S.1 186 i) ∧ (∀ k, k < 96 → S'.1 187 (96 * U + k) = S.1 183 k) ∧ (∀ j, ¬ (96 * U ≤ j ∧ j < 96 * U + 96) → S'.1 187 j = S.1 187 j) ∧ (S'.1 148 60).toInt = (U : Int) + 1 ∧ (∀ c j, c ≠ 183 → c ≠ 187 → ¬ (c = 148 ∧ j = 60) → S'.1 c j = S.1 c j) ∧ S'.2 = S.2 := by
    intro m
    induction m with
    | zero =>
      intro i x1 S1 hi hx hW
      have hi : i = 96 := by omega
      subst hi
      have e60 : S1.1 148 60 = S.1 148 60 := hW.2.1 _ _ (by omega)
      obtain ⟨S2, g1, g2⟩ := keepsRow_M (d := d) (S := uI S1 148 60 ((S1.1 148 60) + 1))
      rw [q_X12_keeps_51, ge_t (by rw [hx]; show (96 : Int) ≤ _; omega), cond_true, g1]
      show ∃ S', limK (RX (d + 1)) (mdOf 251) 97 _ [] _ = _ ∧ _
      rw [q_X12_keeps_97]
      refine ⟨S2, rfl, fun j hj => ?_, fun k hk => ?_, fun j hj => ?_, ?_, fun c j q1 q2 q3 => ?_, g2.2.2.trans hW.2.2⟩
      · rw [g2.1 183 j ⟨rfl, hj⟩]
        show (uI S1 148 60 ((S1.1 148 60) + 1)).1 186 j = _
        rw [uI_ne _ _ _ _ (by decide)]
        exact hW.2.1 _ _ (by omega)
      · rw [g2.2.1 _ _ (by omega), uI_ne _ _ _ _ (by decide), hW.1 _ _ ⟨rfl, by omega, by omega⟩]
        show S.1 183 (96 * U + k - 96 * U) = _
        rw [show 96 * U + k - 96 * U = k by omega]
      · rw [g2.2.1 _ _ (by omega), uI_ne _ _ _ _ (by decide)]
        exact hW.2.1 _ _ (by omega)
      · rw [g2.2.1 _ _ (by omega), uI_i, e60, ad_i (by show _ ≤ _ + (1 : Int); omega) (by show _ + (1 : Int) ≤ _; omega), hU]
        rfl
      · rw [g2.2.1 _ _ (by omega), uI_no _ _ _ _ (by omega)]
        exact hW.2.1 _ _ (by omega)
    | succ m ih =>
      intro i x1 S1 hi hx hW
      have e60 : S1.1 148 60 = S.1 148 60 := hW.2.1 _ _ (by omega)
      have hix := ix96 (w := S.1 148 60) hU (by omega) hx (by omega)
      rw [q_X12_keeps_51, ge_f (by rw [hx]; show _ < (96 : Int); omega), cond_false, inR_of (n := 96) (by omega) (by omega), cond_true, e60, inR_of (n := 2880) (by omega) (by omega), cond_true, tnc hx, tnc hix]
      refine ih (i + 1) (x1 + 1) _ (by omega) (inc_i hx (by omega)) (wr_step hW ?_ (fun c j => by omega))
      show S1.1 183 i = S.1 183 (96 * U + i - 96 * U)
      rw [show 96 * U + i - 96 * U = i by omega]
      exact hW.2.1 _ _ (by omega)
  rw [q_X12_keeps_49]
  exact key 96 0 0 S (by decide) rfl (wr_0 (fun c j => by omega))
theorem keeps49 {o : Option Value} : limK (RX (d + 1)) (mdOf 251) 49 [some (.ref 148), o] [] S = limK (RX (d + 1)) (mdOf 251) 49 [some (.ref 148), none] [] S := by rw [q_X12_keeps_49, q_X12_keeps_49]
theorem keeps_M (hU : (S.1 148 60).toInt = (U : Int)) (hU30 : U ≤ 30) : ∃ S', RX (d + 2) 251 [.ref 148] S = some (none, S') ∧ (∀ i, i < 96 → S'.1 183 i = S.1 186 i) ∧ HIS S.1 S'.1 U ∧ (S'.1 148 60).toInt = min ((S.1 148 60).toInt + 1) 30 ∧ (∀ c j, c ≠ 183 → c ≠ 187 → ¬ (c = 148 ∧ j = 60) → S'.1 c j = S.1 c j) ∧ S'.2 = S.2 := by
  rw [e_X12_keeps, q_X12_keeps_0]
  by_cases h30 : U = 30
  · have key : ∀ (m i : Nat) (x1 : Int32) (S1 : WS), i + m = 2784 → x1.toInt = (i : Int) → WR S S1 (fun c j => c = 187 ∧ j < i) (fun c j => S.1 187 (j + 96)) → ∃ S2, limK (RX (d + 1)) (mdOf 251) 11 [some (.ref 148), some (.int x1)] [] S1 = limK (RX (d + 1)) (mdOf 251) 49 [some (.ref 148), none] [] (uI S2 148 60 ((S2.1 148 60) - 1)) ∧ WR S S2 (fun c j => c = 187 ∧ j < 2784) (fun c j => S.1 187 (j + 96)) := by
      intro m
      induction m with
      | zero =>
        intro i x1 S1 hi hx hW
        rw [q_X12_keeps_11, ge_t (by rw [hx]; show (2784 : Int) ≤ _; omega), cond_true]
        exact ⟨S1, keeps49, wr_iff hW (fun c j => by omega)⟩
      | succ m ih =>
        intro i x1 S1 hi hx hW
        have e96 : (x1 + (96 : Int32)).toInt = ((i + 96 : Nat) : Int) := by
          rw [ad_i (by show _ ≤ _ + (96 : Int); omega) (by show _ + (96 : Int) ≤ _; omega), hx]
          rfl
        rw [q_X12_keeps_11, ge_f (by rw [hx]; show _ < (2784 : Int); omega), cond_false, inR_of (n := 2880) (by omega) (by omega), cond_true, inR_of (n := 2880) (x := x1) (by omega) (by omega), cond_true, tnc hx, tnc e96]
        exact ih (i + 1) (x1 + 1) _ (by omega) (inc_i hx (by omega)) (wr_step hW (hW.2.1 _ _ (by omega)) (fun c j => by omega))
    obtain ⟨S2, g1, g2⟩ := key 2784 0 0 S (by decide) rfl (wr_0 (fun c j => by omega))
    have e60 : S2.1 148 60 = S.1 148 60 := g2.2.1 _ _ (by omega)
    have e29 : ((uI S2 148 60 ((S2.1 148 60) - 1)).1 148 60).toInt = ((29 : Nat) : Int) := by
      rw [uI_i, e60, sb_i (by show _ ≤ _ - (1 : Int); omega) (by show _ - (1 : Int) ≤ _; omega), hU, h30]
      rfl
    obtain ⟨S3, k1, k2, k3, k4, k5, k6, k7⟩ := keeps51 (d := d) e29 (by decide)
    rw [ne_f (by rw [hU, h30]; rfl), cond_false, g1, k1]
    refine ⟨S3, rfl, fun i hi => ?_, ⟨fun q => by omega, fun _ => ⟨fun k hk => ?_, fun j hj => ?_⟩⟩, ?_, fun c j q1 q2 q3 => ?_, k7.trans g2.2.2⟩
    · rw [k2 i hi, uI_ne _ _ _ _ (by decide)]
      exact g2.2.1 _ _ (by omega)
    · rw [show 2784 + k = 96 * 29 + k by omega, k3 k hk, uI_ne _ _ _ _ (by decide)]
      exact g2.2.1 _ _ (by omega)
    · rw [k4 j (by omega), uI_ne _ _ _ _ (by decide), g2.1 _ _ ⟨rfl, hj⟩]
    · rw [k5, hU]
      omega
    · rw [k6 c j q1 q2 q3, uI_no _ _ _ _ (by omega)]
      exact g2.2.1 _ _ (by omega)
  · obtain ⟨S3, k1, k2, k3, k4, k5, k6, k7⟩ := keeps51 (d := d) hU (by omega)
    rw [ne_t (by rw [hU]; show (U : Int) ≠ 30; omega), cond_true, k1]
    refine ⟨S3, rfl, k2, ⟨fun _ => ⟨k3, fun j hj => k4 j (by omega)⟩, fun q => by omega⟩, ?_, k6, k7⟩
    rw [k5, hU]
    omega
theorem isSl_M (h : HM S v H) (hV : HV H) : RX (d + 2) 231 [.ref 148, .int x1] S = some (some (.int (if 0 ≤ x1.toInt ∧ x1.toInt < slH H then 1 else 0)), S) := by
  obtain ⟨i1, i2⟩ := inl_v h
  have hb := hV.2.1
  have es : slH H = (H.1 0 2).toInt := rfl
  have e : ((S.1 164 v) - (1 : Int32)).toInt = slH H - 1 := by
    rw [h.2.2.2.1, sb_i (by show _ ≤ _ - (1 : Int); omega) (by show _ - (1 : Int) ≤ _; omega)]
    rfl
  rw [e_X12_isSleeper, q_X12_isSleeper_0, i1, cond_true, i2, in_rx, e]
  show limK (RX (d + 1)) (mdOf 231) 16 _ [.int _] _ = _
  rw [q_X12_isSleeper_16]
  by_cases q : 0 ≤ x1.toInt ∧ x1.toInt < slH H
  · rw [if_pos q, if_pos ⟨q.1, by omega⟩]
    rfl
  · rw [if_neg q, if_neg (fun z => q ⟨z.1, by have := z.2; omega⟩)]
    rfl
theorem isSt_M (h : HM S v H) (hV : HV H) : RX (d + 2) 230 [.ref 148, .int x1] S = some (some (.int (if 0 ≤ x1.toInt ∧ x1.toInt < stH H then 1 else 0)), S) := by
  obtain ⟨i1, i2⟩ := inl_v h
  have hb := hV.1
  have es : stH H = (H.1 0 0).toInt := rfl
  have e : ((S.1 158 v) - (1 : Int32)).toInt = stH H - 1 := by
    rw [h.2.2.1, sb_i (by show _ ≤ _ - (1 : Int); omega) (by show _ - (1 : Int) ≤ _; omega)]
    rfl
  rw [e_X12_isStep, q_X12_isStep_0, i1, cond_true, i2, in_rx, e]
  show limK (RX (d + 1)) (mdOf 230) 16 _ [.int _] _ = _
  rw [q_X12_isStep_16]
  by_cases q : 0 ≤ x1.toInt ∧ x1.toInt < stH H
  · rw [if_pos q, if_pos ⟨q.1, by omega⟩]
    rfl
  · rw [if_neg q, if_neg (fun z => q ⟨z.1, by have := z.2; omega⟩)]
    rfl
theorem wakes_M (hR : RM S R) (hx : x1.toInt = (a : Int)) (ha : a < 6) : ∃ S', RX (d + 1) 254 [.ref 148, .int x1] S = some (none, S') ∧ RM S' (wkF R a) ∧ (∀ c j, c ≠ 186 → S'.1 c j = S.1 c j) ∧ S'.2 = S.2 := by
  have e4 := ixa (z := 4) (k := 4) rfl hx (by omega)
  have hxe := of_n0 hx (by omega)
  rw [e_X12_wakes, q_X12_wakes_0, inR_of (n := 96) (by omega) (by omega), cond_true, tnc e4, uI_j _ (show 1 ≠ 4 + a by omega), hR.1 1 (by decide), q_X12_wakes_27, q_X12_wakes_27]
  unfold wkF
  rcases c_ne (R 1) x1 with ⟨c1, c2⟩ | ⟨c1, c2⟩
  · rw [c1, cond_true, if_neg (fun q => c2 (by rw [q, hxe]))]
    exact ⟨_, rfl, rm_w hR (by omega), fun c j q => uI_ne _ _ _ _ q, rfl⟩
  · rw [c1, cond_false, if_pos (by rw [← hxe]; exact Int32.toInt_inj.mp c2)]
    exact ⟨_, rfl, rm_w (rm_w hR (by omega)) (by decide), fun c j q => by rw [uI_ne _ _ _ _ q, uI_ne _ _ _ _ q], rfl⟩
end RMU
end
