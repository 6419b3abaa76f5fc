/-! the slots, on both sides -/
def alL : MDs := [(3, 1), (4, 1000), (4, 1001), (32, 1000), (32, 1001), (47, 2), (48, 1000), (48, 1001), (97, 1000), (97, 1001), (5, 1000), (5, 1001), (54, 1000), (54, 1001)]
/-- what isn't written stays alike -/
def alB (md : MDs) : Bool := alL.all (fun q => !(mdF md q.1 q.2)) && nzR ctyC md
def c_cp35 : Ctr := (26, [.inr (.inr (.inr (.inr (.inr (.inr 0))))), .inr (.inr (.inr (.inr (.inl 26)))), .inl (0, 600)], ([], []), [(27, 1000)], [(none, ([], []))])
theorem s_cp35 : Sat EC JC 1 35 c_cp35 := chk_ok2 (d := 0) (l := []) (mi := []) (fu := 200) (k := 0) (m0 := [(27, 1000)]) (as := []) (trivial) (js_of rfl) (by decide +kernel)
section SLT
variable {x y d k : Nat} {T T' : TZ} {S S' S0 : WS} {x1 : Int32} {md : MDs} {w w' : List AE}
theorem rls_md (hB : alB md = true) (hU : UPD md S S') (hR : RLS S) : RLS S' := by
  unfold alB at hB
  simp only [Bool.and_eq_true] at hB
  have hm : ∀ q ∈ alL, mdF md q.1 q.2 = false := fun q hq => mfl hB.1 hq
  have e21 : S'.1 2 1 = S.1 2 1 := by
    have h3 := hU.2.2.1 2 1 (hm (3, 1) (by simp [alL]))
    rw [fa_o (c := 2) (j := 1) rfl rfl (by decide) rfl, fa_o (c := 2) (j := 1) rfl rfl (by decide) rfl] at h3
    injection h3 with h3
    injection h3
  have e148 : S'.1 148 2 = S.1 148 2 := up_fl hU rfl rfl (hm (47, 2) (by simp [alL]))
  obtain ⟨a1, a2, ⟨a3, a4, a5⟩, a6, a7⟩ := hR
  refine ⟨fun i hi => ?_, fun i hi => ?_, ⟨by rw [e21, e148]; exact a3, by rw [e21]; exact a4, by rw [e21]; exact a5⟩, fun i hi h2 => ?_, fun s hs => ?_⟩
  · show (S'.2.1 4 i).toInt = _
    rw [up_ll (t := 0) (n := 18) (c := 4) hU rfl rfl (hm (5, 1000) (by simp [alL])) (hm (5, 1001) (by simp [alL])) hi]
    exact a1 i hi
  · rw [up_ll (t := 0) (n := 18) (c := 155) hU rfl rfl (hm (54, 1000) (by simp [alL])) (hm (54, 1001) (by simp [alL])) hi]
    exact a2 i hi
  · rw [e21] at h2
    rw [up_er (t := 1) (n := 2000) (c := 3) hU rfl rfl (hm (4, 1000) (by simp [alL])) (hm (4, 1001) (by simp [alL])) hi, up_er (t := 1) (n := 2000) (c := 149) hU rfl rfl (hm (48, 1000) (by simp [alL])) (hm (48, 1001) (by simp [alL])) hi]
    exact a6 i hi h2
  · rw [up_er (t := 2) (n := 3) (c := 44) hU rfl rfl (hm (32, 1000) (by simp [alL])) (hm (32, 1001) (by simp [alL])) hs, up_er (t := 2) (n := 3) (c := 198) hU rfl rfl (hm (97, 1000) (by simp [alL])) (hm (97, 1001) (by simp [alL])) hs]
    exact a7 s hs
theorem alk_md (hB : alB md = true) (hw : wok EC w') (hl : w'.length = 200) (ha : agr EC (mdF md) w w') (h : ALK w) : ALK w' := by
  obtain ⟨x, y, T, rfl, hxy, hR⟩ := h
  obtain ⟨S', rfl⟩ := wd_of hw hl
  have hB2 := hB
  unfold alB at hB2
  simp only [Bool.and_eq_true] at hB2
  have hn : WD S' = WD (wS x y (S'.1, S'.2.1)) := nz (E := EC) (md := md) hB2.2 ha
  refine ⟨x, y, (S'.1, S'.2.1), hn, hxy, ?_⟩
  have hU : UPD md (wS x y T) (wS x y (S'.1, S'.2.1)) := by
    refine ⟨by rw [← hn]; exact hw, ?_⟩
    rw [← hn]
    exact ha
  exact rls_md hB hU hR
end SLT
