/-! all that is told, on both sides -/
section RDW
variable {S S' S0 S1 S2 S5 : WS} {v d : Nat} {o1 : Option Value}
theorem read_112w : ∀ (m : Nat) (o1 : Option Value) (S : WS), wok EC (WD S) → (v : Int) + sdS S = 1 → (ftS S = 0 → PI S) → 400 ≤ tkS S + m → ∃ S', limK (RX (d + 7)) (mdOf 211) 112 [some (.ref 148), o1] [] S = limK (RX (d + 7)) (mdOf 211) 134 [some (.ref 148), o1] [] S' ∧ (ftS S ≠ 0 → ftS S' ≠ 0) ∧ (woS S ≠ 0 → woS S' ≠ 0) ∧ FR v S S' := by
  intro m
  induction m using Nat.strongRecOn with
  | ind m ih =>
    intro o1 S hw hv hP hm
    have hs := sd1 hw
    have F0 : FR v S S := fr_r (by omega) hw
    rw [q_X12_read_112]
    rcases c_ne (S.1 148 13) 0 with ⟨a1, a2⟩ | ⟨a1, a2⟩
    · rw [a1, cond_true]
      exact ⟨S, rfl, fun z => z, fun z => z, F0⟩
    · have a2 : ftS S = 0 := a2
      obtain ⟨r, r1, -⟩ := is_rx (d := d + 6) (x := 0) hw
      rw [a1, cond_false, r1]
      show ∃ S', limK (RX (d + 7)) (mdOf 211) 124 _ [.int r] S = _ ∧ _
      rw [q_X12_read_124]
      cases cmpB .ne r 0 with
      | true => rw [cond_true]; exact ⟨S, rfl, fun z => z, fun z => z, F0⟩
      | false =>
        obtain ⟨S1, q1, q2, q3, q4⟩ := tellOne_rx (d := d) hv (hP a2) hw a2
        have e19 : sdS S1 = sdS S := sdq q2.1 rfl
        rw [cond_false, q1]
        show ∃ S', limK (RX (d + 7)) (mdOf 211) 131 _ [] S1 = _ ∧ _
        rw [q_X12_read_131]
        by_cases hf : ftS S1 = 0
        · obtain ⟨g1, g2⟩ := q4 hf
          have h4 := tk400 q2.1.1
          obtain ⟨S', p1, p2, p3, p4⟩ := ih (m - 1) (by omega) o1 S1 q2.1.1 (by omega) (fun _ => g1) (by omega)
          exact ⟨S', p1, fun z => absurd a2 z, fun z => p3 (q3.2 z), fr_t q2 p4⟩
        · rw [q_X12_read_112, ne_t (by show ftS S1 ≠ 0; exact hf), cond_true]
          exact ⟨S1, rfl, fun _ => hf, q3.2, q2⟩
end RDW
/-- what has no type there is as it was -/
def FRY (y : Nat) (S S' : WS) : Prop := ∀ c, ctyY y c = 0 → c < 200 → cellK S' c = cellK S c
def mdRt : MDs := c_X5_readTells.2.2.2.1
section FRYS
variable {x y c j n t ci : Nat} {T T' : TZ} {S S' S1 S2 : WS} {l h : Int} {md : MDs}
theorem fry_r (S : WS) : FRY y S S := fun _ _ _ => rfl
theorem fry_t (h : FRY y S S1) (k : FRY y S1 S2) : FRY y S S2 := fun c q1 q2 => (k c q1 q2).trans (h c q1 q2)
theorem fry_w (h : WD S' = WD S1) (k : FRY y S S1) : FRY y S S' := fun c q1 q2 => by
  have e := congrArg (fun w => w[c]?) h
  simp only [wd_get, blt_t q2, cond_true] at e
  exact (Option.some.inj e).trans (k c q1 q2)
theorem cellK_c (h1 : ∀ j, S'.1 c j = S.1 c j) (h2 : ∀ j, S'.2.1 c j = S.2.1 c j) (h3 : ∀ j, S'.2.2 c j = S.2.2 c j) : cellK S' c = cellK S c := by
  unfold cellK fvK
  simp only [h1, h2, h3, show S'.1 c = S.1 c from funext h1, show S'.2.1 c = S.2.1 c from funext h2]
theorem fry_z (h1 : ∀ c j, ctyY y c = 0 → T'.1 c j = T.1 c j) (h2 : ∀ c j, ctyY y c = 0 → T'.2 c j = T.2 c j) : FRY y (wS x y T) (wS x y T') := fun c q1 _ => cellK_c (fun j => h1 c j q1) (fun j => h2 c j q1) (fun _ => rfl)
theorem md_0 (h : md.all (fun q => !(Nat.beq q.1 0)) = true) (j : Nat) : mdF md 0 j = false := by
  unfold mdF
  rw [List.any_eq_false]
  intro q hq
  have h2 := List.all_eq_true.mp h q hq
  have h3 : Nat.beq q.1 0 = false := by simpa using h2
  rw [h3]
  simp
theorem agr_fry {E : WE} (hE : ∀ c, ctyY y c = 0 → E.1 c = 0) (hm : md.all (fun q => !(Nat.beq q.1 0)) = true) (ha : agr E (mdF md) (WD S) (WD S')) : FRY y S S' := fun c hc hlt => by
  have hbc := blt_t hlt
  have h0 : ∀ j, mdF md (E.1 c) j = false := fun j => by rw [hE c hc]; exact md_0 hm j
  cases k0 : Nat.beq (shC c).1 0 with
  | true =>
    have hsh : shC c = (0, (shC c).2.1, (shC c).2.2) := by
      have := Nat.eq_of_beq_eq_true k0
      rw [← this]
    rw [cell_o hsh, cell_o hsh]
    congr 4
    apply List.ext_getElem?
    intro j
    have h3 := ha.2.1 c j (h0 j)
    unfold fa at h3
    rw [wd_get, wd_get, hbc, cond_true, cond_true, cell_o hsh, cell_o hsh] at h3
    exact h3
  | false =>
    have h3 := ha.2.2.1 c (h0 1000) (h0 1001)
    unfold ra at h3
    rw [wd_get, wd_get, hbc, cond_true, cond_true] at h3
    unfold cellK at h3 ⊢
    rw [k0] at h3 ⊢
    cases k1 : Nat.beq (shC c).1 1 with
    | true =>
      rw [k1] at h3
      exact Option.some.inj h3
    | false =>
      rw [k1] at h3
      cases k2 : Nat.beq (shC c).1 2 with
      | true =>
        rw [k2] at h3
        exact Option.some.inj h3
      | false =>
        rw [k2] at h3
        exact Option.some.inj h3
theorem cell_I (h : cellK S' c = cellK S c) (hs : shC c = (1, t, n)) (hj : j < n) : S'.1 c j = S.1 c j := by
  rw [cell_i hs, cell_i hs] at h
  have h : (List.range n).map (S'.1 c) = (List.range n).map (S.1 c) := by
    injection h with h
    exact (Prod.mk.inj h).2
  have h5 := congrArg (fun l => l[j]?) h
  simp only [rng_at _ hj] at h5
  exact Option.some.inj h5
theorem cell_L (h : cellK S' c = cellK S c) (hs : shC c = (2, t, n)) (hj : j < n) : S'.2.1 c j = S.2.1 c j := by
  rw [cell_l hs, cell_l hs] at h
  have h : (List.range n).map (S'.2.1 c) = (List.range n).map (S.2.1 c) := by
    injection h with h
    injection h with h
  have h5 := congrArg (fun l => l[j]?) h
  simp only [rng_at _ hj] at h5
  exact Option.some.inj h5
theorem cell_O (h : cellK S' c = cellK S c) (hs : shC c = (0, ci, n)) (hj : j < (flK ci).length) (hk : Nat.beq ((flK ci).getD j 9) 0 = true) : S'.1 c j = S.1 c j := by
  rw [cell_o hs, cell_o hs] at h
  have h : (List.range (flK ci).length).map (fun j => fvK ci j c S') = (List.range (flK ci).length).map (fun j => fvK ci j c S) := by
    injection h with h
    injection h with h
    injection h with h
    exact (Prod.mk.inj h).2
  have h5 := congrArg (fun l => l[j]?) h
  simp only [rng_at _ hj] at h5
  have h5 := Option.some.inj h5
  unfold fvK at h5
  rw [hk] at h5
  injection h5
end FRYS
section TLS
variable {x y d D s a st sl n v t t0 t1 t2 t3 t4 E L n0 r w : Nat} {T T' T0 T1 T2 T3 T4 : TZ} {S S' S0 S1 S2 S3 S4 : WS} {x1 x2 x3 u i : Int32} {o1 o2 o3 o4 o5 : Option Value}
theorem nn1 {z : Nat} : nnS [Value.ref z] := fun q => by
  rcases List.mem_singleton.mp q with q
  cases q
theorem sat_w {c : Ctr} {dd b : Nat} (h : Sat (EX y 0 5) JT dd b c) (hdd : dd ≤ 51) (hc1 : c.1 = 2) (hca : c.2.1 = [.inr (.inr (.inr (.inr (.inr (.inr 0)))))]) (hcf : c.2.2.1 = ([], [])) (hcm : subM c.2.2.2.1 mdRt = true) (hb : okB b = true) (hw : wok (EX y 0 5) (WD S)) {z : RK} (hr : RX 51 b [.ref 1] S = some z) : wok (EX y 0 5) (WD z.2) ∧ agr (EX y 0 5) (mdF mdRt) (WD S) (WD z.2) := by
  obtain ⟨r, S1, q1, q2⟩ := mex_RX hb nn1 (h 1 [.ref 1] (WD S) (by rw [hc1]; rfl) (by rw [hc1]; decide) hw trivial (by rw [hca]; exact ⟨rfl, trivial⟩) (by rw [hcf]; exact nof) (by rw [hcf]; exact noe))
  have h1 := RX_le hdd q1
  rw [hr] at h1
  cases h1
  exact ⟨q2.1, agr.le (subM_ok hcm) q2.2.2.1⟩
/-- how one thing goes -/
def ITg (x y d E v t : Nat) (i : Int32) (T : TZ) (S : WS) : Prop := ∃ (T' : TZ) (S' : WS) (t' n st sl L n0 : Nat), limK (RX 51) (mdOf 54) 4 [some (.ref 1), some (.int 1), some (.int i)] [] (wS x y T) = limK (RX 51) (mdOf 54) 138 [some (.ref 1), some (.int 1), some (.int i)] [] (wS x y T') ∧ RX (d + 7) 214 [.ref 148] S = some (none, S') ∧ CU T' S' E t' ∧ t + 2 ≤ t' ∧ (T'.1 1 5).toInt = 0 ∧ HRl T' S' y v t' n st sl L n0 ∧ wok (EX y 0 5) (WD (wS x y T')) ∧ FRY y (wS x y T) (wS x y T')
def ITb (x y d : Nat) (i : Int32) (T : TZ) (S : WS) : Prop := ∃ (r : Int32) (T' : TZ) (S' : WS), limK (RX 51) (mdOf 54) 4 [some (.ref 1), some (.int 1), some (.int i)] [] (wS x y T) = limK (RX 51) (mdOf 54) 138 [some (.ref 1), some (.int r), some (.int i)] [] (wS x y T') ∧ RX (d + 7) 214 [.ref 148] S = some (none, S') ∧ (r = 0 ∨ (r = 1 ∧ wok (EX y 0 5) (WD (wS x y T')))) ∧ (T'.1 1 5).toInt ≠ 0 ∧ (ftS S' ≠ 0 ∨ woS S' ≠ 0) ∧ FRY y (wS x y T) (wS x y T')
theorem it_of {b : Nat} {rr : Option RK} (h : GOOD x y E v t (RX 51 b [.ref 1] (wS x y T)) rr ∨ BAD x y (RX 51 b [.ref 1] (wS x y T)) rr) (hr : RX (d + 7) 214 [.ref 148] S = rr)
    (hc : ∀ (r : Int32) T', RX 51 b [.ref 1] (wS x y T) = some (some (.int r), wS x y T') → limK (RX 51) (mdOf 54) 4 [some (.ref 1), some (.int 1), some (.int i)] [] (wS x y T) = limK (RX 51) (mdOf 54) 138 [some (.ref 1), some (.int r), some (.int i)] [] (wS x y T'))
    (hs : ∀ z, RX 51 b [.ref 1] (wS x y T) = some z → wok (EX y 0 5) (WD z.2) ∧ agr (EX y 0 5) (mdF mdRt) (WD (wS x y T)) (WD z.2)) : ITg x y d E v t i T S ∨ ITb x y d i T S := by
  rcases h with ⟨T', S', t', n', st', sl', L', n0', p1, p2, p3, p4, p5, p6⟩ | ⟨r, T', S', p1, p2, p3, p4, p5⟩
  · obtain ⟨q1, q2⟩ := hs _ p1
    exact .inl ⟨T', S', t', n', st', sl', L', n0', hc 1 T' p1, hr.trans p2, p3, p4, p5, p6, q1, agr_fry (fun _ q => q) rfl q2⟩
  · obtain ⟨q1, q2⟩ := hs _ p1
    refine .inr ⟨r, T', S', hc r T' p1, hr.trans p2, ?_, p4, p5, agr_fry (fun _ q => q) rfl q2⟩
    rcases p3 with e | e
    · exact .inl e
    · exact .inr ⟨e, q1⟩
set_option maxHeartbeats 4000000 in
theorem it_l (hy : y = 10 ∨ y = 23) (hv : v ≤ 1) (hC : CU T S E t) (hb : (T.1 1 5).toInt = 0) (hR : HRl T S y v t n st sl L n0) (hw : wok (EX y 0 5) (WD (wS x y T))) (hk : (T.1 5 t).toInt ≠ 0) (hi : i.toInt < 400) : ITg x y d E v t i T S ∨ ITb x y d i T S := by
  have hwS := hC.2.2.2.2.2.2.2
  have hE := hC.1.1
  have ht := hC.2.1
  have h8 : T.1 1 8 = T.1 5 t := hC.2.2.2.2.1
  have hK := (hC.1.2.1 t hC.2.1).1
  have e19 : (S.1 148 19).toInt = (v : Int) := hR.2.2.2.2.2.2.2.2.2
  have i2 : inR (S.1 148 19) 2 = true := inR_of (by omega) (by omega)
  have t19 : (S.1 148 19).toNatClampNeg = v := tnc e19
  have hcl : limK (RX 51) (mdOf 54) 4 [some (.ref 1), some (.int 1), some (.int i)] [] (wS x y T) = _ := (q_X5_readTells_4 (RX 51) x y hy 1 i T).trans (by rw [ge_f (show i.toInt < (400 : Int32).toInt from hi), cond_false, show cmpB .eq (1 : Int32) 0 = false from rfl, cond_false, eq_f (show (T.1 1 8).toInt ≠ (0 : Int32).toInt by rw [h8]; exact hk), cond_false])
  have hrf : RX (d + 7) 214 [.ref 148] S = _ := (e_X12_tellOne (d + 6) S).trans ((q_X12_tellOne_0 (RX (d + 6)) none S).trans (by rw [int_tk hwS, cond_true, i2, t19, tnc (show (S.1 148 11).toInt = (t : Int) from hC.2.2.2.1)]))
  have hmem : ((T.1 5 t).toInt, (S.1 151 t).toInt) ∈ kT := hK
  rw [h8] at hcl
  -- the seven kinds, and the others
  have key : ∀ p ∈ kT, p.1 ≠ 0 → (p = (128, 20) ∨ p = (130, 21) ∨ p = (131, 22) ∨ p = (132, 23) ∨ p = (133, 24) ∨ p = (134, 25) ∨ p = (135, 26)) ∨ ((p.1 < 128 ∨ 135 < p.1 ∨ p.1 = 129) ∧ (p.2 < 20 ∨ 26 < p.2)) := by decide
  rcases key _ hmem hk with h | ⟨h1, h2⟩
  · rcases h with h | h | h | h | h | h | h
    · have k1 : (T.1 5 t).toInt = 128 := congrArg Prod.fst h
      have k2 : (S.1 151 t).toInt = 20 := congrArg Prod.snd h
      rw [k1] at hcl
      rw [k2] at hrf
      refine it_of (b := 56) (one_step (D := 26) (d := d) (o1 := none) hy hv hC hb hR (Int32.toInt_inj.mp k1)) ?_ (fun r T' q => ?_) (fun z q => sat_w (c := c_X5_takeStep) (dd := 7) (by rcases hy with rfl | rfl; exact sp10_X5_takeStep; exact sp23_X5_takeStep) (by decide) rfl rfl rfl (by decide +kernel) (by decide +kernel) hw q)
      · rw [hrf]; rfl
      · rw [hcl, ← q_X5_readTells_76 (RX 51) x y hy (some (.int 1)) i r T']
        show kbd _ 76 _ _ (RX 51 56 [.ref 1] (wS x y T)) = _
        rw [q]
        rfl
    · have k1 : (T.1 5 t).toInt = 130 := congrArg Prod.fst h
      have k2 : (S.1 151 t).toInt = 21 := congrArg Prod.snd h
      rw [k1] at hcl
      rw [k2] at hrf
      refine it_of (b := 57) (one_road (D := 26) (d := d) (o1 := none) hy hv hC hR (Int32.toInt_inj.mp k1)) ?_ (fun r T' q => ?_) (fun z q => sat_w (c := c_X5_takeRoad) (dd := 5) (by rcases hy with rfl | rfl; exact sp10_X5_takeRoad; exact sp23_X5_takeRoad) (by decide) rfl rfl rfl (by decide +kernel) (by decide +kernel) hw q)
      · rw [hrf]; rfl
      · rw [hcl, ← q_X5_readTells_84 (RX 51) x y hy (some (.int 1)) i r T']
        show kbd _ 84 _ _ (RX 51 57 [.ref 1] (wS x y T)) = _
        rw [q]
        rfl
    · have k1 : (T.1 5 t).toInt = 131 := congrArg Prod.fst h
      have k2 : (S.1 151 t).toInt = 22 := congrArg Prod.snd h
      rw [k1] at hcl
      rw [k2] at hrf
      refine it_of (b := 58) (one_slp (D := 26) (d := d) (o1 := none) hy hv hC hb hR (Int32.toInt_inj.mp k1)) ?_ (fun r T' q => ?_) (fun z q => sat_w (c := c_X5_takeSleeper) (dd := 7) (by rcases hy with rfl | rfl; exact sp10_X5_takeSleeper; exact sp23_X5_takeSleeper) (by decide) rfl rfl rfl (by decide +kernel) (by decide +kernel) hw q)
      · rw [hrf]; rfl
      · rw [hcl, ← q_X5_readTells_92 (RX 51) x y hy (some (.int 1)) i r T']
        show kbd _ 92 _ _ (RX 51 58 [.ref 1] (wS x y T)) = _
        rw [q]
        rfl
    · have k1 : (T.1 5 t).toInt = 132 := congrArg Prod.fst h
      have k2 : (S.1 151 t).toInt = 23 := congrArg Prod.snd h
      rw [k1] at hcl
      rw [k2] at hrf
      refine it_of (b := 59) (one_does (D := 26) (d := d) (o1 := none) hy hv hC hb hR (Int32.toInt_inj.mp k1)) ?_ (fun r T' q => ?_) (fun z q => sat_w (c := c_X5_takeDoes) (dd := 49) (by rcases hy with rfl | rfl; exact sp10_X5_takeDoes; exact sp23_X5_takeDoes) (by decide) rfl rfl rfl (by decide +kernel) (by decide +kernel) hw q)
      · rw [hrf]; rfl
      · rw [hcl, ← q_X5_readTells_100 (RX 51) x y hy (some (.int 1)) i r T']
        show kbd _ 100 _ _ (RX 51 59 [.ref 1] (wS x y T)) = _
        rw [q]
        rfl
    · have k1 : (T.1 5 t).toInt = 133 := congrArg Prod.fst h
      have k2 : (S.1 151 t).toInt = 24 := congrArg Prod.snd h
      rw [k1] at hcl
      rw [k2] at hrf
      refine it_of (b := 60) (one_begins (D := 26) (d := d) (o1 := none) hy hv hC hR (Int32.toInt_inj.mp k1)) ?_ (fun r T' q => ?_) (fun z q => sat_w (c := c_X5_takeBegins) (dd := 4) (by rcases hy with rfl | rfl; exact sp10_X5_takeBegins; exact sp23_X5_takeBegins) (by decide) rfl rfl rfl (by decide +kernel) (by decide +kernel) hw q)
      · rw [hrf]; rfl
      · rw [hcl, ← q_X5_readTells_108 (RX 51) x y hy (some (.int 1)) i r T']
        show kbd _ 108 _ _ (RX 51 60 [.ref 1] (wS x y T)) = _
        rw [q]
        rfl
    · have k1 : (T.1 5 t).toInt = 134 := congrArg Prod.fst h
      have k2 : (S.1 151 t).toInt = 25 := congrArg Prod.snd h
      rw [k1] at hcl
      rw [k2] at hrf
      refine it_of (b := 61) (one_naps (D := 26) (d := d) (o1 := none) hy hv hC hR (Int32.toInt_inj.mp k1)) ?_ (fun r T' q => ?_) (fun z q => sat_w (c := c_X5_takeNaps) (dd := 7) (by rcases hy with rfl | rfl; exact sp10_X5_takeNaps; exact sp23_X5_takeNaps) (by decide) rfl rfl rfl (by decide +kernel) (by decide +kernel) hw q)
      · rw [hrf]; rfl
      · rw [hcl, ← q_X5_readTells_116 (RX 51) x y hy (some (.int 1)) i r T']
        show kbd _ 116 _ _ (RX 51 61 [.ref 1] (wS x y T)) = _
        rw [q]
        rfl
    · have k1 : (T.1 5 t).toInt = 135 := congrArg Prod.fst h
      have k2 : (S.1 151 t).toInt = 26 := congrArg Prod.snd h
      rw [k1] at hcl
      rw [k2] at hrf
      refine it_of (b := 62) (one_seed (D := 26) (d := d) (o1 := none) hy hv hC hR (Int32.toInt_inj.mp k1)) ?_ (fun r T' q => ?_) (fun z q => sat_w (c := c_X5_takeSeed) (dd := 7) (by rcases hy with rfl | rfl; exact sp10_X5_takeSeed; exact sp23_X5_takeSeed) (by decide) rfl rfl rfl (by decide +kernel) (by decide +kernel) hw q)
      · rw [hrf]; rfl
      · rw [hcl, ← q_X5_readTells_124 (RX 51) x y hy (some (.int 1)) i r T']
        show kbd _ 124 _ _ (RX 51 62 [.ref 1] (wS x y T)) = _
        rw [q]
        rfl
  · obtain ⟨S', q1, q2, q3⟩ := fail_x (d := d + 5) (m := 1) hwS (.inl rfl)
    have h1 : (T.1 5 t).toInt < 128 ∨ 135 < (T.1 5 t).toInt ∨ (T.1 5 t).toInt = 129 := h1
    have h2 : (S.1 151 t).toInt < 20 ∨ 26 < (S.1 151 t).toInt := h2
    refine .inr ⟨0, zI (zI T 1 5 1) 1 6 (T.1 1 9), S', ?_, ?_, .inl rfl, ?_, .inl q3, fry_z (fun c j q => ?_) (fun _ _ _ => rfl)⟩
    · have h128 : limK (RX 51) (mdOf 54) 128 [some (.ref 1), some (.int 1), some (.int i)] [] (wS x y T) = limK (RX 51) (mdOf 54) 138 [some (.ref 1), some (.int 0), some (.int i)] [] (wS x y (zI (zI T 1 5 1) 1 6 (T.1 1 9))) := by
        rw [q_X5_readTells_128 (hy := hy), stop_c (d := 50) hy]
        show limK (RX 51) (mdOf 54) 137 _ [.int 0] _ = _
        rw [q_X5_readTells_137 (hy := hy)]
      rw [hcl]
      by_cases hlt : (T.1 5 t).toInt < 128 ∨ 135 < (T.1 5 t).toInt
      · rw [show (decide ((T.1 5 t).toInt < 128) || decide (135 < (T.1 5 t).toInt)) = true by simpa using hlt, cond_true, h128]
      · have h129 : (T.1 5 t).toInt = 129 := by omega
        rw [h129]
        exact h128
    · rw [hrf, show (decide ((S.1 151 t).toInt < 20) || decide (26 < (S.1 151 t).toInt)) = true by simpa using h2, cond_true, q1]
      show limK (RX (d + 6)) (mdOf 214) 256 _ [] _ = _
      rw [q_X12_tellOne_256]
    · rw [zI_j _ (by decide), zI_i]
      decide
    · have hc : c ≠ 1 := fun e => by rw [e] at q; exact absurd q (by show ¬ (2 = 0); decide)
      rw [zI_ne _ hc, zI_ne _ hc]
end TLS
