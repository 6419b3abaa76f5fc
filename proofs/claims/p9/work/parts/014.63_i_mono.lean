section
/-! runs without fuel: a step is monotone in what comes behind it -/
def SH (kk : KT → Option RK) : Prop := (∃ (pc' : Nat) (vec' : List (Option Value)) (st' : List Value) (S' : WS), ∀ k : KT, kk k = k pc' vec' st' S') ∨ (∃ o, ∀ k, kk k = o)
theorem sh_k {pc' : Nat} {vec' : List (Option Value)} {st' : List Value} {S' : WS} : SH (fun k => k pc' vec' st' S') := .inl ⟨pc', vec', st', S', fun _ => rfl⟩
theorem sh_o (o : Option RK) : SH (fun _ => o) := .inr ⟨o, fun _ => rfl⟩
theorem sh_c {c : Bool} {A B : KT → Option RK} (h1 : SH A) (h2 : SH B) : SH (fun k => cond c (A k) (B k)) := by
  cases c with
  | true => exact h1
  | false => exact h2
section SHS
variable {M : MD} {ev : EV'} {pc n i sl ci k0 t t0 t1 nL b np : Nat} {vec : List (Option Value)} {st : List Value} {S : WS} {cd : ClassFile.Cond} {off df lo hi z : Int} {offs : Array Int} {mx : Bool} {f : Int32 → Int32 → Int32}
theorem sh_pu {o : Option (List Value)} : SH (fun k => kpu k pc vec S o) := by
  cases o with
  | none => exact sh_o none
  | some st => exact sh_k
theorem sh_tg : SH (fun k => ktg k pc off vec st S) := sh_c sh_k (sh_o none)
theorem sh_tb {r : List Value} {x : Int32} : ∀ (os : List Int) (lo : Int), SH (fun k => ktb k pc vec r S x lo os)
  | [], _ => sh_o none
  | _ :: os, lo => sh_c sh_tg (sh_tb os (lo + 1))
theorem sh_ld : SH (fun k => kld k0 i sl k pc n vec st S) := sh_c sh_k sh_k
theorem sh_gs : SH (fun k => kgs k0 k pc vec st S) := sh_c sh_k (sh_c sh_k (sh_o none))
theorem sh_ic : SH (fun k => kic k nL pc vec i z st S) := by
  unfold kic
  cases vget vec i with
  | none => exact sh_o none
  | some v => cases v <;> first | exact sh_c sh_k (sh_o none) | exact sh_o none
theorem sh_pv {r : List Value} {a kd ty : Nat} {v : Value} : SH (fun k => kpv k pc vec r S a sl kd ty v) := by
  cases v with
  | int x => exact sh_c (sh_c sh_k (sh_c sh_k (sh_o none))) (sh_o none)
  | long x => exact sh_c sh_k (sh_o none)
  | ref x => exact sh_c sh_k (sh_o none)
  | _ => exact sh_o none
theorem sh_dv : SH (fun k => kdv f k pc vec S st) := by
  rcases st with _ | ⟨v0, r0⟩
  · exact sh_o none
  · cases v0 with
    | int x0 =>

      rcases r0 with _ | ⟨v1, r1⟩
      · exact sh_o none
      · cases v1 with
        | int x1 =>

          exact sh_c (sh_o none) sh_k
        | _ => exact sh_o none
    | _ => exact sh_o none
theorem sh_sI : SH (fun k => ksI k nL pc vec i S st) := by
  rcases st with _ | ⟨v0, r0⟩
  · exact sh_o none
  · cases v0 with
    | int x0 =>

      exact sh_c sh_k (sh_o none)
    | _ => exact sh_o none
theorem sh_sL : SH (fun k => ksL k nL pc vec i S st) := by
  rcases st with _ | ⟨v0, r0⟩
  · exact sh_o none
  · cases v0 with
    | long x0 =>

      exact sh_c sh_k (sh_o none)
    | _ => exact sh_o none
theorem sh_sA : SH (fun k => ksA k nL pc vec i S st) := by
  rcases st with _ | ⟨v0, r0⟩
  · exact sh_o none
  · cases v0 with
    | ref x0 =>

      exact sh_c sh_k (sh_o none)
    | _ => exact sh_o none
theorem sh_if : SH (fun k => kif cd off k pc vec S st) := by
  rcases st with _ | ⟨v0, r0⟩
  · exact sh_o none
  · cases v0 with
    | int x0 =>

      exact sh_c (sh_c sh_k sh_k) (sh_o none)
    | _ => exact sh_o none
theorem sh_cm : SH (fun k => kcm cd off k pc vec S st) := by
  rcases st with _ | ⟨v0, r0⟩
  · exact sh_o none
  · cases v0 with
    | int x0 =>

      rcases r0 with _ | ⟨v1, r1⟩
      · exact sh_o none
      · cases v1 with
        | int x1 =>

          exact sh_c (sh_c sh_k sh_k) (sh_o none)
        | _ => exact sh_o none
    | _ => exact sh_o none
theorem sh_tw : SH (fun k => ktw df lo hi offs k pc vec S st) := by
  rcases st with _ | ⟨v0, r0⟩
  · exact sh_o none
  · cases v0 with
    | int x0 =>

      exact sh_c sh_tg (sh_tb _ _)
    | _ => exact sh_o none
theorem sh_gf : SH (fun k => kgf k0 ci sl k pc vec S st) := by
  rcases st with _ | ⟨v0, r0⟩
  · exact sh_o none
  · cases v0 with
    | ref x0 =>

      exact sh_c (sh_c (sh_c sh_k (sh_o none)) (sh_o none)) (sh_c (sh_c sh_k (sh_o none)) (sh_c sh_k (sh_c sh_k (sh_o none))))
    | _ => exact sh_o none
theorem sh_pf : SH (fun k => kpf M k0 ci sl k pc vec S st) := by
  rcases st with _ | ⟨v0, r0⟩
  · exact sh_o none
  · skip
    rcases r0 with _ | ⟨v1, r1⟩
    · exact sh_o none
    · cases v1 with
      | ref x1 =>

        exact sh_c (sh_c (sh_c sh_pv (sh_o none)) (sh_o none)) (sh_o none)
      | _ => exact sh_o none
theorem sh_al : SH (fun k => kal t k pc vec S st) := by
  rcases st with _ | ⟨v0, r0⟩
  · exact sh_o none
  · cases v0 with
    | int x0 =>

      rcases r0 with _ | ⟨v1, r1⟩
      · exact sh_o none
      · cases v1 with
        | ref x1 =>

          exact sh_c (sh_c sh_k (sh_o none)) (sh_o none)
        | _ => exact sh_o none
    | _ => exact sh_o none
theorem sh_bl : SH (fun k => kbl k pc vec S st) := by
  rcases st with _ | ⟨v0, r0⟩
  · exact sh_o none
  · cases v0 with
    | int x0 =>

      rcases r0 with _ | ⟨v1, r1⟩
      · exact sh_o none
      · cases v1 with
        | ref x1 =>

          exact sh_c (sh_c sh_k (sh_o none)) (sh_c (sh_o none) (sh_c sh_k (sh_o none)))
        | _ => exact sh_o none
    | _ => exact sh_o none
theorem sh_ll : SH (fun k => kll k pc vec S st) := by
  rcases st with _ | ⟨v0, r0⟩
  · exact sh_o none
  · cases v0 with
    | int x0 =>

      rcases r0 with _ | ⟨v1, r1⟩
      · exact sh_o none
      · cases v1 with
        | ref x1 =>

          exact sh_c (sh_c sh_k (sh_o none)) (sh_o none)
        | _ => exact sh_o none
    | _ => exact sh_o none
theorem sh_rl : SH (fun k => krl k pc vec S st) := by
  rcases st with _ | ⟨v0, r0⟩
  · exact sh_o none
  · cases v0 with
    | int x0 =>

      rcases r0 with _ | ⟨v1, r1⟩
      · exact sh_o none
      · cases v1 with
        | ref x1 =>

          exact sh_c (sh_c sh_k (sh_o none)) (sh_o none)
        | _ => exact sh_o none
    | _ => exact sh_o none
theorem sh_as : SH (fun k => kas t0 t1 k pc vec S st) := by
  rcases st with _ | ⟨v0, r0⟩
  · exact sh_o none
  · cases v0 with
    | int x0 =>

      rcases r0 with _ | ⟨v1, r1⟩
      · exact sh_o none
      · cases v1 with
        | int x1 =>

          rcases r1 with _ | ⟨v2, r2⟩
          · exact sh_o none
          · cases v2 with
            | ref x2 =>

              exact sh_c (sh_c sh_k (sh_o none)) (sh_c (sh_c sh_k (sh_o none)) (sh_o none))
            | _ => exact sh_o none
        | _ => exact sh_o none
    | _ => exact sh_o none
theorem sh_ls : SH (fun k => kls k pc vec S st) := by
  rcases st with _ | ⟨v0, r0⟩
  · exact sh_o none
  · cases v0 with
    | long x0 =>

      rcases r0 with _ | ⟨v1, r1⟩
      · exact sh_o none
      · cases v1 with
        | int x1 =>

          rcases r1 with _ | ⟨v2, r2⟩
          · exact sh_o none
          · cases v2 with
            | ref x2 =>

              exact sh_c (sh_c sh_k (sh_o none)) (sh_o none)
            | _ => exact sh_o none
        | _ => exact sh_o none
    | _ => exact sh_o none
theorem sh_rs : SH (fun k => krs k pc vec S st) := by
  rcases st with _ | ⟨v0, r0⟩
  · exact sh_o none
  · cases v0 with
    | ref x0 =>

      rcases r0 with _ | ⟨v1, r1⟩
      · exact sh_o none
      · cases v1 with
        | int x1 =>

          rcases r1 with _ | ⟨v2, r2⟩
          · exact sh_o none
          · cases v2 with
            | ref x2 =>

              exact sh_c (sh_c sh_k (sh_o none)) (sh_o none)
            | _ => exact sh_o none
        | _ => exact sh_o none
    | _ => exact sh_o none
theorem sh_ln : SH (fun k => kln k pc vec S st) := by
  rcases st with _ | ⟨v0, r0⟩
  · exact sh_o none
  · cases v0 with
    | ref x0 =>

      exact sh_c (sh_c sh_k (sh_o none)) (sh_c sh_k (sh_o none))
    | _ => exact sh_o none
theorem sh_cp : SH (fun k => kcp k pc vec S st) := by
  rcases st with _ | ⟨v0, r0⟩
  · exact sh_o none
  · cases v0 with
    | int x0 =>

      rcases r0 with _ | ⟨v1, r1⟩
      · exact sh_o none
      · cases v1 with
        | int x1 =>

          rcases r1 with _ | ⟨v2, r2⟩
          · exact sh_o none
          · cases v2 with
            | ref x2 =>

              rcases r2 with _ | ⟨v3, r3⟩
              · exact sh_o none
              · cases v3 with
                | int x3 =>

                  rcases r3 with _ | ⟨v4, r4⟩
                  · exact sh_o none
                  · cases v4 with
                    | ref x4 =>

                      exact sh_c (sh_c sh_k (sh_o none)) (sh_o none)
                    | _ => exact sh_o none
                | _ => exact sh_o none
            | _ => exact sh_o none
        | _ => exact sh_o none
    | _ => exact sh_o none
theorem sh_mx : SH (fun k => kmx mx k pc vec S st) := by
  rcases st with _ | ⟨v0, r0⟩
  · exact sh_o none
  · cases v0 with
    | int x0 =>

      rcases r0 with _ | ⟨v1, r1⟩
      · exact sh_o none
      · cases v1 with
        | int x1 =>

          exact sh_c sh_k (sh_o none)
        | _ => exact sh_o none
    | _ => exact sh_o none
end SHS
section SHM
variable {M : MD} {pc : Nat} {vec : List (Option Value)} {st : List Value} {S : WS} {ev ev' : EV'} {x : IE} {k k' : KT} {y : RK}
theorem mo_a {kk : KT → Option RK} (h : SH kk) (hk : ∀ pc vec st S y, k pc vec st S = some y → k' pc vec st S = some y) (hy : kk k = some y) : kk k' = some y := by
  rcases h with ⟨p, v, s, S', h⟩ | ⟨o, h⟩
  · rw [h] at hy ⊢
    exact hk _ _ _ _ _ hy
  · rw [h] at hy ⊢
    exact hy
theorem mo_b {rest : List Value} {o o' : Option RK} (ho : ∀ y, o = some y → o' = some y) (hk : ∀ pc vec st S y, k pc vec st S = some y → k' pc vec st S = some y) (hy : kbd k pc vec rest o = some y) : kbd k' pc vec rest o' = some y := by
  cases o with
  | none => cases hy
  | some z =>
    rw [ho z rfl]
    exact hk _ _ _ _ _ hy
theorem cnd_t {α : Type} {c : Bool} {o : Option α} {z : α} (h : (bif c then o else none) = some z) : c = true ∧ o = some z := by
  cases c with
  | true => exact ⟨rfl, h⟩
  | false => cases h
theorem kcv_mo {b np : Nat} (he : ∀ b av S y, ev b av S = some y → ev' b av S = some y) (hk : ∀ pc vec st S y, k pc vec st S = some y → k' pc vec st S = some y) (h : kcv ev b np k pc vec st S = some y) : kcv ev' b np k' pc vec st S = some y := by
  unfold kcv at h ⊢
  split at h
  · rename_i o rest heq
    obtain ⟨h1, h⟩ := cnd_t h
    obtain ⟨h2, h⟩ := cnd_t h
    obtain ⟨h3, h⟩ := cnd_t h
    simp only [h1, h2, h3, cond_true]
    exact mo_b (he _ _ _) hk h
  · cases h
theorem kcs_mo {k0 b np : Nat} (he : ∀ b av S y, ev b av S = some y → ev' b av S = some y) (hk : ∀ pc vec st S y, k pc vec st S = some y → k' pc vec st S = some y) (h : kcs ev k0 b np k pc vec st S = some y) : kcs ev' k0 b np k' pc vec st S = some y := by
  unfold kcs at h ⊢
  obtain ⟨h1, h⟩ := cnd_t h
  rw [h1]
  exact mo_b (he _ _ _) hk h
theorem step_mo (he : ∀ b av S y, ev b av S = some y → ev' b av S = some y) (hk : ∀ pc vec st S y, k pc vec st S = some y → k' pc vec st S = some y) (h : stepK ev M x pc vec st S k = some y) : stepK ev' M x pc vec st S k' = some y := by
  unfold stepK at h
  split at h
  · exact mo_a (kk := fun k => stepK ev' M _ pc vec st S k) sh_k hk h
  · exact mo_a (kk := fun k => stepK ev' M _ pc vec st S k) sh_k hk h
  · exact mo_a (kk := fun k => stepK ev' M _ pc vec st S k) sh_k hk h
  · exact mo_a (kk := fun k => stepK ev' M _ pc vec st S k) sh_k hk h
  · exact mo_a (kk := fun k => stepK ev' M _ pc vec st S k) sh_pu hk h
  · exact mo_a (kk := fun k => stepK ev' M _ pc vec st S k) sh_pu hk h
  · exact mo_a (kk := fun k => stepK ev' M _ pc vec st S k) sh_pu hk h
  · exact mo_a (kk := fun k => stepK ev' M _ pc vec st S k) sh_pu hk h
  · exact mo_a (kk := fun k => stepK ev' M _ pc vec st S k) sh_pu hk h
  · exact mo_a (kk := fun k => stepK ev' M _ pc vec st S k) sh_pu hk h
  · exact mo_a (kk := fun k => stepK ev' M _ pc vec st S k) sh_sI hk h
  · exact mo_a (kk := fun k => stepK ev' M _ pc vec st S k) sh_sI hk h
  · exact mo_a (kk := fun k => stepK ev' M _ pc vec st S k) sh_sL hk h
  · exact mo_a (kk := fun k => stepK ev' M _ pc vec st S k) sh_sL hk h
  · exact mo_a (kk := fun k => stepK ev' M _ pc vec st S k) sh_sA hk h
  · exact mo_a (kk := fun k => stepK ev' M _ pc vec st S k) sh_sA hk h
  · exact mo_a (kk := fun k => stepK ev' M _ pc vec st S k) sh_ic hk h
  · exact mo_a (kk := fun k => stepK ev' M _ pc vec st S k) sh_pu hk h
  · exact mo_a (kk := fun k => stepK ev' M _ pc vec st S k) sh_pu hk h
  · exact mo_a (kk := fun k => stepK ev' M _ pc vec st S k) sh_pu hk h
  · exact mo_a (kk := fun k => stepK ev' M _ pc vec st S k) sh_pu hk h
  · exact mo_a (kk := fun k => stepK ev' M _ pc vec st S k) sh_pu hk h
  · exact mo_a (kk := fun k => stepK ev' M _ pc vec st S k) sh_pu hk h
  · exact mo_a (kk := fun k => stepK ev' M _ pc vec st S k) sh_pu hk h
  · exact mo_a (kk := fun k => stepK ev' M _ pc vec st S k) sh_pu hk h
  · exact mo_a (kk := fun k => stepK ev' M _ pc vec st S k) sh_pu hk h
  · exact mo_a (kk := fun k => stepK ev' M _ pc vec st S k) sh_dv hk h
  · exact mo_a (kk := fun k => stepK ev' M _ pc vec st S k) sh_dv hk h
  · exact mo_a (kk := fun k => stepK ev' M _ pc vec st S k) sh_pu hk h
  · exact mo_a (kk := fun k => stepK ev' M _ pc vec st S k) sh_pu hk h
  · exact mo_a (kk := fun k => stepK ev' M _ pc vec st S k) sh_pu hk h
  · exact mo_a (kk := fun k => stepK ev' M _ pc vec st S k) sh_pu hk h
  · exact mo_a (kk := fun k => stepK ev' M _ pc vec st S k) sh_pu hk h
  · exact mo_a (kk := fun k => stepK ev' M _ pc vec st S k) sh_pu hk h
  · exact mo_a (kk := fun k => stepK ev' M _ pc vec st S k) sh_pu hk h
  · exact mo_a (kk := fun k => stepK ev' M _ pc vec st S k) sh_pu hk h
  · exact mo_a (kk := fun k => stepK ev' M _ pc vec st S k) sh_pu hk h
  · exact mo_a (kk := fun k => stepK ev' M _ pc vec st S k) sh_pu hk h
  · exact mo_a (kk := fun k => stepK ev' M _ pc vec st S k) sh_pu hk h
  · exact mo_a (kk := fun k => stepK ev' M _ pc vec st S k) sh_pu hk h
  · exact mo_a (kk := fun k => stepK ev' M _ pc vec st S k) sh_pu hk h
  · exact mo_a (kk := fun k => stepK ev' M _ pc vec st S k) sh_pu hk h
  · exact mo_a (kk := fun k => stepK ev' M _ pc vec st S k) sh_tg hk h
  · exact mo_a (kk := fun k => stepK ev' M _ pc vec st S k) sh_if hk h
  · exact mo_a (kk := fun k => stepK ev' M _ pc vec st S k) sh_cm hk h
  · exact mo_a (kk := fun k => stepK ev' M _ pc vec st S k) sh_tw hk h
  · exact mo_a (kk := fun k => stepK ev' M _ pc vec st S k) sh_gf hk h
  · exact mo_a (kk := fun k => stepK ev' M _ pc vec st S k) sh_pf hk h
  · exact mo_a (kk := fun k => stepK ev' M _ pc vec st S k) sh_al hk h
  · exact mo_a (kk := fun k => stepK ev' M _ pc vec st S k) sh_bl hk h
  · exact mo_a (kk := fun k => stepK ev' M _ pc vec st S k) sh_ll hk h
  · exact mo_a (kk := fun k => stepK ev' M _ pc vec st S k) sh_rl hk h
  · exact mo_a (kk := fun k => stepK ev' M _ pc vec st S k) sh_as hk h
  · exact mo_a (kk := fun k => stepK ev' M _ pc vec st S k) sh_as hk h
  · exact mo_a (kk := fun k => stepK ev' M _ pc vec st S k) sh_ls hk h
  · exact mo_a (kk := fun k => stepK ev' M _ pc vec st S k) sh_rs hk h
  · exact mo_a (kk := fun k => stepK ev' M _ pc vec st S k) sh_ln hk h
  · exact mo_a (kk := fun k => stepK ev' M _ pc vec st S k) sh_ld hk h
  · exact mo_a (kk := fun k => stepK ev' M _ pc vec st S k) sh_k hk h
  · exact mo_a (kk := fun k => stepK ev' M _ pc vec st S k) sh_k hk h
  · exact mo_a (kk := fun k => stepK ev' M _ pc vec st S k) sh_gs hk h
  · exact mo_a (kk := fun k => stepK ev' M _ pc vec st S k) sh_cp hk h
  · exact mo_a (kk := fun k => stepK ev' M _ pc vec st S k) sh_mx hk h
  · exact mo_a (kk := fun k => stepK ev' M _ pc vec st S k) sh_mx hk h
  · exact h
  · exact h
  · exact h
  · exact h
  · exact kcv_mo he hk h
  · rename_i idx k0 b s0 p0 n3 n4 n5
    have e : stepK ev' M (.invokestatic idx, 3, k0, b, s0, p0) pc vec st S k' = kcs ev' k0 b ((md_p (mdOf b)).getD 5 0) k' pc vec st S := by
      have hk : Nat.blt k0 2 = true := by
        cases hq : Nat.blt k0 2 with
        | true => rfl
        | false =>
          unfold kcs at h
          rw [hq] at h
          cases h
      match k0, hk with
      | 0, _ => rfl
      | 1, _ => rfl
    rw [e]
    exact kcs_mo he hk h
  · cases h
theorem co_a {kk : KT → Option RK} {F : Nat → KT} (h : SH kk) (hk : ∀ pc vec st S y, k pc vec st S = some y → ∃ n, F n pc vec st S = some y) (hy : kk k = some y) : ∃ n, kk (F n) = some y := by
  rcases h with ⟨p, v, s, S', h⟩ | ⟨o, h⟩
  · rw [h] at hy
    obtain ⟨n, hn⟩ := hk _ _ _ _ _ hy
    exact ⟨n, by rw [h]; exact hn⟩
  · rw [h] at hy
    exact ⟨0, by rw [h]; exact hy⟩
theorem step_ct {F : Nat → KT} {EF : Nat → EV'} (hE : ∀ b av S y, ev b av S = some y → ∃ n, EF n b av S = some y) (hEm : ∀ n n', n ≤ n' → ∀ b av S y, EF n b av S = some y → EF n' b av S = some y)
    (hk : ∀ pc vec st S y, k pc vec st S = some y → ∃ n, F n pc vec st S = some y) (hFm : ∀ n n', n ≤ n' → ∀ pc vec st S y, F n pc vec st S = some y → F n' pc vec st S = some y) (h : stepK ev M x pc vec st S k = some y) : ∃ n, stepK (EF n) M x pc vec st S (F n) = some y := by
  have hbd : ∀ {pc : Nat} {vec : List (Option Value)} {rest : List Value} {b : Nat} {av : List Value}, kbd k pc vec rest (ev b av S) = some y → ∃ n, kbd (F n) pc vec rest (EF n b av S) = some y := fun {pc vec rest b av} h => by
    cases ho : ev b av S with
    | none => rw [ho] at h; cases h
    | some z =>
      rw [ho] at h
      obtain ⟨n1, h1⟩ := hE _ _ _ _ ho
      obtain ⟨n2, h2⟩ := hk _ _ _ _ _ h
      refine ⟨max n1 n2, ?_⟩
      rw [hEm n1 _ (Nat.le_max_left _ _) _ _ _ _ h1]
      exact hFm n2 _ (Nat.le_max_right _ _) _ _ _ _ _ h2
  unfold stepK at h
  split at h
  · obtain ⟨n, hn⟩ := co_a (F := F) sh_k hk h
    exact ⟨n, hn⟩
  · obtain ⟨n, hn⟩ := co_a (F := F) sh_k hk h
    exact ⟨n, hn⟩
  · obtain ⟨n, hn⟩ := co_a (F := F) sh_k hk h
    exact ⟨n, hn⟩
  · obtain ⟨n, hn⟩ := co_a (F := F) sh_k hk h
    exact ⟨n, hn⟩
  · obtain ⟨n, hn⟩ := co_a (F := F) sh_pu hk h
    exact ⟨n, hn⟩
  · obtain ⟨n, hn⟩ := co_a (F := F) sh_pu hk h
    exact ⟨n, hn⟩
  · obtain ⟨n, hn⟩ := co_a (F := F) sh_pu hk h
    exact ⟨n, hn⟩
  · obtain ⟨n, hn⟩ := co_a (F := F) sh_pu hk h
    exact ⟨n, hn⟩
  · obtain ⟨n, hn⟩ := co_a (F := F) sh_pu hk h
    exact ⟨n, hn⟩
  · obtain ⟨n, hn⟩ := co_a (F := F) sh_pu hk h
    exact ⟨n, hn⟩
  · obtain ⟨n, hn⟩ := co_a (F := F) sh_sI hk h
    exact ⟨n, hn⟩
  · obtain ⟨n, hn⟩ := co_a (F := F) sh_sI hk h
    exact ⟨n, hn⟩
  · obtain ⟨n, hn⟩ := co_a (F := F) sh_sL hk h
    exact ⟨n, hn⟩
  · obtain ⟨n, hn⟩ := co_a (F := F) sh_sL hk h
    exact ⟨n, hn⟩
  · obtain ⟨n, hn⟩ := co_a (F := F) sh_sA hk h
    exact ⟨n, hn⟩
  · obtain ⟨n, hn⟩ := co_a (F := F) sh_sA hk h
    exact ⟨n, hn⟩
  · obtain ⟨n, hn⟩ := co_a (F := F) sh_ic hk h
    exact ⟨n, hn⟩
  · obtain ⟨n, hn⟩ := co_a (F := F) sh_pu hk h
    exact ⟨n, hn⟩
  · obtain ⟨n, hn⟩ := co_a (F := F) sh_pu hk h
    exact ⟨n, hn⟩
  · obtain ⟨n, hn⟩ := co_a (F := F) sh_pu hk h
    exact ⟨n, hn⟩
  · obtain ⟨n, hn⟩ := co_a (F := F) sh_pu hk h
    exact ⟨n, hn⟩
  · obtain ⟨n, hn⟩ := co_a (F := F) sh_pu hk h
    exact ⟨n, hn⟩
  · obtain ⟨n, hn⟩ := co_a (F := F) sh_pu hk h
    exact ⟨n, hn⟩
  · obtain ⟨n, hn⟩ := co_a (F := F) sh_pu hk h
    exact ⟨n, hn⟩
  · obtain ⟨n, hn⟩ := co_a (F := F) sh_pu hk h
    exact ⟨n, hn⟩
  · obtain ⟨n, hn⟩ := co_a (F := F) sh_pu hk h
    exact ⟨n, hn⟩
  · obtain ⟨n, hn⟩ := co_a (F := F) sh_dv hk h
    exact ⟨n, hn⟩
  · obtain ⟨n, hn⟩ := co_a (F := F) sh_dv hk h
    exact ⟨n, hn⟩
  · obtain ⟨n, hn⟩ := co_a (F := F) sh_pu hk h
    exact ⟨n, hn⟩
  · obtain ⟨n, hn⟩ := co_a (F := F) sh_pu hk h
    exact ⟨n, hn⟩
  · obtain ⟨n, hn⟩ := co_a (F := F) sh_pu hk h
    exact ⟨n, hn⟩
  · obtain ⟨n, hn⟩ := co_a (F := F) sh_pu hk h
    exact ⟨n, hn⟩
  · obtain ⟨n, hn⟩ := co_a (F := F) sh_pu hk h
    exact ⟨n, hn⟩
  · obtain ⟨n, hn⟩ := co_a (F := F) sh_pu hk h
    exact ⟨n, hn⟩
  · obtain ⟨n, hn⟩ := co_a (F := F) sh_pu hk h
    exact ⟨n, hn⟩
  · obtain ⟨n, hn⟩ := co_a (F := F) sh_pu hk h
    exact ⟨n, hn⟩
  · obtain ⟨n, hn⟩ := co_a (F := F) sh_pu hk h
    exact ⟨n, hn⟩
  · obtain ⟨n, hn⟩ := co_a (F := F) sh_pu hk h
    exact ⟨n, hn⟩
  · obtain ⟨n, hn⟩ := co_a (F := F) sh_pu hk h
    exact ⟨n, hn⟩
  · obtain ⟨n, hn⟩ := co_a (F := F) sh_pu hk h
    exact ⟨n, hn⟩
  · obtain ⟨n, hn⟩ := co_a (F := F) sh_pu hk h
    exact ⟨n, hn⟩
  · obtain ⟨n, hn⟩ := co_a (F := F) sh_pu hk h
    exact ⟨n, hn⟩
  · obtain ⟨n, hn⟩ := co_a (F := F) sh_tg hk h
    exact ⟨n, hn⟩
  · obtain ⟨n, hn⟩ := co_a (F := F) sh_if hk h
    exact ⟨n, hn⟩
  · obtain ⟨n, hn⟩ := co_a (F := F) sh_cm hk h
    exact ⟨n, hn⟩
  · obtain ⟨n, hn⟩ := co_a (F := F) sh_tw hk h
    exact ⟨n, hn⟩
  · obtain ⟨n, hn⟩ := co_a (F := F) sh_gf hk h
    exact ⟨n, hn⟩
  · obtain ⟨n, hn⟩ := co_a (F := F) sh_pf hk h
    exact ⟨n, hn⟩
  · obtain ⟨n, hn⟩ := co_a (F := F) sh_al hk h
    exact ⟨n, hn⟩
  · obtain ⟨n, hn⟩ := co_a (F := F) sh_bl hk h
    exact ⟨n, hn⟩
  · obtain ⟨n, hn⟩ := co_a (F := F) sh_ll hk h
    exact ⟨n, hn⟩
  · obtain ⟨n, hn⟩ := co_a (F := F) sh_rl hk h
    exact ⟨n, hn⟩
  · obtain ⟨n, hn⟩ := co_a (F := F) sh_as hk h
    exact ⟨n, hn⟩
  · obtain ⟨n, hn⟩ := co_a (F := F) sh_as hk h
    exact ⟨n, hn⟩
  · obtain ⟨n, hn⟩ := co_a (F := F) sh_ls hk h
    exact ⟨n, hn⟩
  · obtain ⟨n, hn⟩ := co_a (F := F) sh_rs hk h
    exact ⟨n, hn⟩
  · obtain ⟨n, hn⟩ := co_a (F := F) sh_ln hk h
    exact ⟨n, hn⟩
  · obtain ⟨n, hn⟩ := co_a (F := F) sh_ld hk h
    exact ⟨n, hn⟩
  · obtain ⟨n, hn⟩ := co_a (F := F) sh_k hk h
    exact ⟨n, hn⟩
  · obtain ⟨n, hn⟩ := co_a (F := F) sh_k hk h
    exact ⟨n, hn⟩
  · obtain ⟨n, hn⟩ := co_a (F := F) sh_gs hk h
    exact ⟨n, hn⟩
  · obtain ⟨n, hn⟩ := co_a (F := F) sh_cp hk h
    exact ⟨n, hn⟩
  · obtain ⟨n, hn⟩ := co_a (F := F) sh_mx hk h
    exact ⟨n, hn⟩
  · obtain ⟨n, hn⟩ := co_a (F := F) sh_mx hk h
    exact ⟨n, hn⟩
  · exact ⟨0, h⟩
  · exact ⟨0, h⟩
  · exact ⟨0, h⟩
  · exact ⟨0, h⟩
  · unfold kcv at h
    split at h
    · rename_i o rest heq
      obtain ⟨h1, h⟩ := cnd_t h
      obtain ⟨h2, h⟩ := cnd_t h
      obtain ⟨h3, h⟩ := cnd_t h
      obtain ⟨n, hn⟩ := hbd h
      refine ⟨n, ?_⟩
      show kcv _ _ _ _ pc vec st S = some y
      unfold kcv
      simp only [heq, h1, h2, h3, cond_true]
      exact hn
    · cases h
  · rename_i idx k0 b s0 p0 n3 n4 n5
    unfold kcs at h
    obtain ⟨h1, h⟩ := cnd_t h
    obtain ⟨n, hn⟩ := hbd h
    refine ⟨n, ?_⟩
    have hk : Nat.blt k0 2 = true := by
      simp only [Bool.and_eq_true] at h1
      exact h1.1.1.1
    have e : stepK (EF n) M (.invokestatic idx, 3, k0, b, s0, p0) pc vec st S (F n) = kcs (EF n) k0 b ((md_p (mdOf b)).getD 5 0) (F n) pc vec st S := by
      match k0, hk with
      | 0, _ => rfl
      | 1, _ => rfl
    rw [e]
    unfold kcs
    rw [h1]
    exact hn
  · cases h
end SHM
/-! limits -/
noncomputable def limO {α : Type} (f : Nat → Option α) : Option α := @dite _ (∃ n y, f n = some y) (Classical.propDecidable _) (fun h => f (Classical.choose h)) (fun _ => none)
theorem limO_i {α : Type} {f : Nat → Option α} (hm : ∀ n n' y, n ≤ n' → f n = some y → f n' = some y) (y : α) : limO f = some y ↔ ∃ n, f n = some y := by
  unfold limO
  by_cases h : ∃ n y, f n = some y
  · rw [dif_pos h]
    obtain ⟨y', hy'⟩ := Classical.choose_spec h
    constructor
    · intro q; exact ⟨_, q⟩
    · intro ⟨n, hn⟩
      have h1 := hm _ _ _ (Nat.le_max_left n (Classical.choose h)) hn
      have h2 := hm _ _ _ (Nat.le_max_right n (Classical.choose h)) hy'
      rw [h1] at h2
      cases h2
      exact hy'
  · rw [dif_neg h]
    constructor
    · intro q; cases q
    · intro ⟨n, hn⟩; exact absurd ⟨n, y, hn⟩ h
theorem evK_mo {M : MD} {ev ev' : EV'} (he : ∀ b av S y, ev b av S = some y → ev' b av S = some y) : ∀ (n n' : Nat), n ≤ n' → ∀ pc vec st S y, evK ev M n pc vec st S = some y → evK ev' M n' pc vec st S = some y := by
  intro n
  induction n with
  | zero => intro n' _ pc vec st S y h; cases h
  | succ n ih =>
    intro n' hn pc vec st S y h
    obtain ⟨m, rfl⟩ : ∃ m, n' = m + 1 := ⟨n' - 1, by omega⟩
    rw [evK_s] at h ⊢
    cases hx : md_i M pc with
    | none => simp only [hx] at h; cases h
    | some x =>
      simp only [hx] at h ⊢
      exact step_mo he (ih m (by omega)) h
noncomputable def limK (ev : EV') (M : MD) : KT := fun pc vec st S => limO (fun n => evK ev M n pc vec st S)
theorem limK_i {ev : EV'} {M : MD} {pc : Nat} {vec : List (Option Value)} {st : List Value} {S : WS} {y : RK} : limK ev M pc vec st S = some y ↔ ∃ n, evK ev M n pc vec st S = some y := limO_i (fun n n' y h q => evK_mo (fun _ _ _ _ h => h) n n' h pc vec st S y q) y
theorem opt_ext {α : Type} {a b : Option α} (h : ∀ y, a = some y ↔ b = some y) : a = b := by
  cases a with
  | none =>
    cases b with
    | none => rfl
    | some y => exact absurd ((h y).mpr rfl) (fun q => by cases q)
  | some y => exact ((h y).mp rfl).symm
theorem limK_s {ev : EV'} {M : MD} (pc : Nat) (vec : List (Option Value)) (st : List Value) (S : WS) : limK ev M pc vec st S = (match md_i M pc with
    | none => none
    | some x => stepK ev M x pc vec st S (limK ev M)) := by
  apply opt_ext
  intro y
  rw [limK_i]
  cases hx : md_i M pc with
  | none =>
    constructor
    · intro ⟨n, hn⟩
      cases n with
      | zero => cases hn
      | succ n => rw [evK_s] at hn; simp only [hx] at hn; cases hn
    · intro q; cases q
  | some x =>
    constructor
    · intro ⟨n, hn⟩
      cases n with
      | zero => cases hn
      | succ n =>
        rw [evK_s] at hn
        simp only [hx] at hn ⊢
        exact step_mo (fun _ _ _ _ h => h) (fun pc vec st S y q => limK_i.mpr ⟨n, q⟩) hn
    · intro q
      simp only at q
      obtain ⟨n, hn⟩ := step_ct (F := fun n => evK ev M n) (EF := fun _ => ev) (fun b av S y q => ⟨0, q⟩) (fun _ _ _ _ _ _ _ q => q) (fun pc vec st S y q => limK_i.mp q) (fun n n' h pc vec st S y q => evK_mo (fun _ _ _ _ h => h) n n' h pc vec st S y q) q
      refine ⟨n + 1, ?_⟩
      rw [evK_s]
      simp only [hx]
      exact hn
theorem evSM_mo {fu fu' : Nat} (hf : fu ≤ fu') : ∀ (d : Nat) b av S y, evSM fu d b av S = some y → evSM fu' d b av S = some y := by
  intro d
  induction d with
  | zero => intro b av S y h; cases h
  | succ d ih =>
    intro b av S y h
    rw [evSM_s] at h ⊢
    obtain ⟨h1, h⟩ := cnd_t h
    rw [h1]
    exact evK_mo ih fu fu' hf _ _ _ _ _ h
noncomputable def RX : Nat → EV'
  | 0 => fun _ _ _ => none
  | d + 1 => fun b av S => bif Nat.ble (lg_sl av).length (md_n (mdOf b)) then limK (RX d) (mdOf b) 0 (vec0 (md_n (mdOf b)) av) [] S else none
theorem RX_s (d b : Nat) (av : List Value) (S : WS) : RX (d + 1) b av S = (bif Nat.ble (lg_sl av).length (md_n (mdOf b)) then limK (RX d) (mdOf b) 0 (vec0 (md_n (mdOf b)) av) [] S else none) := rfl
theorem evK_ct {M : MD} {ev : EV'} {EF : Nat → EV'} (hE : ∀ b av S y, ev b av S = some y → ∃ n, EF n b av S = some y) (hEm : ∀ n n', n ≤ n' → ∀ b av S y, EF n b av S = some y → EF n' b av S = some y) : ∀ (n pc : Nat) vec st S y, evK ev M n pc vec st S = some y → ∃ m, evK (EF m) M n pc vec st S = some y := by
  intro n
  induction n with
  | zero => intro pc vec st S y h; cases h
  | succ n ih =>
    intro pc vec st S y h
    rw [evK_s] at h
    cases hx : md_i M pc with
    | none => simp only [hx] at h; cases h
    | some x =>
      simp only [hx] at h
      obtain ⟨m, hm⟩ := step_ct (F := fun m => evK (EF m) M n) (EF := EF) hE hEm ih (fun m m' h pc vec st S y q => evK_mo (hEm m m' h) n n (Nat.le_refl n) pc vec st S y q) h
      refine ⟨m, ?_⟩
      rw [evK_s]
      simp only [hx]
      exact hm
theorem RX_i : ∀ (d b : Nat) (av : List Value) (S : WS) (y : RK), RX d b av S = some y ↔ ∃ fu, evSM fu d b av S = some y := by
  intro d
  induction d with
  | zero =>
    intro b av S y
    constructor
    · intro h; cases h
    · intro ⟨fu, h⟩; cases h
  | succ d ih =>
    intro b av S y
    rw [RX_s]
    constructor
    · intro h
      obtain ⟨h1, h⟩ := cnd_t h
      obtain ⟨n, hn⟩ := limK_i.mp h
      obtain ⟨m, hm⟩ := evK_ct (EF := fun m => evSM m d) (fun b av S y q => (ih b av S y).mp q) (fun n n' h b av S y q => evSM_mo h d b av S y q) n _ _ _ _ _ hn
      refine ⟨max n m, ?_⟩
      rw [evSM_s, h1]
      exact evK_mo (evSM_mo (Nat.le_max_right n m) d) n _ (Nat.le_max_left n m) _ _ _ _ _ hm
    · intro ⟨fu, h⟩
      rw [evSM_s] at h
      obtain ⟨h1, h⟩ := cnd_t h
      rw [h1]
      exact limK_i.mpr ⟨fu, evK_mo (fun b av S y q => (ih b av S y).mpr ⟨fu, q⟩) fu fu (Nat.le_refl fu) _ _ _ _ _ h⟩
/-- from numbers to cells -/
theorem RX_mex {d b : Nat} {av : List Value} {S S' : WS} {r : Option Value} {P : Option Value → List AE → Prop} (hb : okB b = true) (hn : nnS av) (h : RX d b av S = some (r, S')) (hp : P r (WD S')) : MEx d b av (WD S) P := by
  obtain ⟨fu, h⟩ := (RX_i d b av S _).mp h
  exact ⟨fu, r, WD S', (evS_T fu d b av S r S' hb hn h).1, hp⟩
/-- from cells to numbers -/
theorem mex_RX {d b : Nat} {av : List Value} {S : WS} {P : Option Value → List AE → Prop} (hb : okB b = true) (hn : nnS av) (h : MEx d b av (WD S) P) : ∃ r S', RX d b av S = some (r, S') ∧ P r (WD S') := by
  obtain ⟨fu, r, w', h1, h2⟩ := h
  obtain ⟨S', h3, h4, -⟩ := evS_P fu d b av S r w' hb hn h1
  subst h4
  exact ⟨r, S', (RX_i d b av S _).mpr ⟨fu, h3⟩, h2⟩
theorem RX_up {d b : Nat} {av : List Value} {S : WS} {y : RK} : RX d b av S = some y → RX (d + 1) b av S = some y := by
  revert b av S y
  induction d with
  | zero => intro b av S y h; cases h
  | succ d ih =>
    intro b av S y h
    rw [RX_s] at h ⊢
    obtain ⟨h1, h⟩ := cnd_t h
    rw [h1]
    obtain ⟨n, hn⟩ := limK_i.mp h
    exact limK_i.mpr ⟨n, evK_mo (fun b av S y q => ih q) n n (Nat.le_refl n) _ _ _ _ _ hn⟩
theorem RX_le {d d' b : Nat} {av : List Value} {S : WS} {y : RK} (hd : d ≤ d') (h : RX d b av S = some y) : RX d' b av S = some y := by
  obtain ⟨k, rfl⟩ := Nat.exists_eq_add_of_le hd
  induction k with
  | zero => exact h
  | succ k ih => exact RX_up (ih (Nat.le_add_right _ _))
/-! blocks: n steps at once -/
noncomputable def itK (ev : EV') (M : MD) (k : KT) (n : Nat) : KT := Nat.rec k (fun _ f pc vec st S => match md_i M pc with
    | none => none
    | some x => stepK ev M x pc vec st S f) n
theorem itK_lim (ev : EV') (M : MD) (n : Nat) : itK ev M (limK ev M) n = limK ev M := by
  induction n with
  | zero => rfl
  | succ n ih =>
    funext pc vec st S
    rw [limK_s]
    show (match md_i M pc with
      | none => none
      | some x => stepK ev M x pc vec st S (itK ev M (limK ev M) n)) = _
    rw [ih]
end
section
/-! blocks: up to a stop, or a call -/
def isCl (x : IE) : Bool := match x with
  | (.invokevirtual _, _) => true
  | (.invokestatic _, _) => true
  | _ => false
noncomputable def blkK (ev : EV') (M : MD) (stp : Nat → Bool) (k : KT) (n : Nat) : Bool → KT := Nat.rec (fun _ => k) (fun _ f first pc vec st S => cond (!first && stp pc) (k pc vec st S) (match md_i M pc with
    | none => none
    | some x => cond (isCl x) (stepK ev M x pc vec st S k) (stepK ev M x pc vec st S (f false)))) n
theorem blk_lim (ev : EV') (M : MD) (stp : Nat → Bool) (n : Nat) (first : Bool) (pc : Nat) (vec : List (Option Value)) (st : List Value) (S : WS) : blkK ev M stp (limK ev M) n first pc vec st S = limK ev M pc vec st S := by
  revert first pc vec st S
  induction n with
  | zero => intro first pc vec st S; rfl
  | succ n ih =>
    intro first pc vec st S
    show cond (!first && stp pc) (limK ev M pc vec st S) (match md_i M pc with
      | none => none
      | some x => cond (isCl x) (stepK ev M x pc vec st S (limK ev M)) (stepK ev M x pc vec st S (blkK ev M stp (limK ev M) n false))) = _
    have e : blkK ev M stp (limK ev M) n false = limK ev M := by
      funext pc vec st S
      exact ih false pc vec st S
    rw [e]
    cases (!first && stp pc) with
    | true => rfl
    | false =>
      rw [limK_s]
      cases md_i M pc with
      | none => rfl
      | some x =>
        show cond (isCl x) _ _ = _
        cases isCl x <;> rfl
end
