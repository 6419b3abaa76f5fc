/-! printed by wip/gen/lawpair.py: the law's calls in pairs -/
def RI (w : List AE) : Prop := (∃ n, IV n n w) ∧ ALK w
def PR (b b' : Nat) (cmp : Bool) (args : List Value) (w : List AE) : Prop := MEx 100 b (.ref 0 :: args) w (fun r w1 => isRI r ∧ wok EC w1 ∧ w1.length = 200 ∧ MEx 100 b' (.ref 148 :: args) w1 (fun r' w2 => isRI r' ∧ (cmp = true → r = r') ∧ RI w2))
section PRS
variable {b b' : Nat} {args : List Value} {w : List AE} {n m : Int32} {x y : Nat} {T' : TZ} {Sf S2 : WS}
theorem ri_len (h : RI w) : w.length = 200 := by
  obtain ⟨⟨n, hI⟩, -⟩ := h
  exact iv_len hI
theorem ri_wok (h : RI w) : wok EC w := by
  obtain ⟨⟨n, hI⟩, -⟩ := h
  exact hI.1
theorem pr_of (hI : IV n n w) (hA : ALK w) (hk : MEx 100 b (.ref 0 :: args) w (fun r w' => isRI r ∧ IV n n w' ∧ (ALK w → ALK w'))) (hm : ∀ w1, IV n n w1 → MEx 100 b' (.ref 148 :: args) w1 (fun r w' => isRI r ∧ IV n n w' ∧ (ALK w1 → ALK w'))) : PR b b' false args w := mex_post hk (fun r w1 q => ⟨q.1, q.2.1.1, iv_len q.2.1, mex_post (hm w1 q.2.1) (fun r' w2 z => ⟨z.1, (fun e => by cases e), ⟨⟨n, z.2.1⟩, z.2.2 (q.2.2 hA)⟩⟩)⟩)
theorem pr_feed (h : RI w) (x1 x2 x3 x4 x5 : Int32) : PR 145 194 false [.int x1, .int x2, .int x3, .int x4, .int x5] w := by
  obtain ⟨⟨n, hI⟩, x, y, T, rfl, hxy, hR⟩ := h
  obtain ⟨r1, r2, S1, S2, e1, e2, hA⟩ := feed_l (a := x1) (b := x2) (c := x3) (e := x4) (f := x5) hxy hR
  refine mex_post (mex_and (k_feed hI x1 x2 x3 x4 x5) (RX_mex (P := fun _ w' => w' = WD S1) (by decide +kernel) (fun q => by simp at q) (RX_le (d' := 100) (by decide) e1) rfl)) (fun r w1 q => ?_)
  obtain ⟨⟨v, n1, rfl, hI1, hF⟩, rfl⟩ := q
  refine ⟨⟨v, rfl⟩, hI1.1, iv_len hI1, mex_post (mex_and (m_feed hI1 x1 x2 x3 x4 x5) (RX_mex (P := fun _ w' => w' = WD S2) (by decide +kernel) (fun q => by simp at q) (RX_le (d' := 100) (by decide) e2) rfl)) (fun r' w2 q => ?_)⟩
  obtain ⟨⟨v', n2, rfl, hI2, hG⟩, rfl⟩ := q
  obtain ⟨rfl, rfl⟩ := fd_eq hF hG
  exact ⟨⟨v, rfl⟩, fun _ => rfl, ⟨⟨n1, hI2⟩, hA⟩⟩
theorem pr_back (h : RI w) (x1 : Int32) : PR 146 196 false [.int x1] w := by
  obtain ⟨⟨n, hI⟩, x, y, T, rfl, hxy, hR⟩ := h
  obtain ⟨r1, r2, S1, S2, e1, e2, hA⟩ := back_l (x1 := x1) hxy hR
  refine mex_post (mex_and (k_back hI x1) (RX_mex (P := fun _ w' => w' = WD S1) (by decide +kernel) (fun q => by simp at q) (RX_le (d' := 100) (by decide) e1) rfl)) (fun r w1 q => ?_)
  obtain ⟨⟨v, n1, rfl, hI1, hF⟩, rfl⟩ := q
  refine ⟨⟨v, rfl⟩, hI1.1, iv_len hI1, mex_post (mex_and (m_back hI1 x1) (RX_mex (P := fun _ w' => w' = WD S2) (by decide +kernel) (fun q => by simp at q) (RX_le (d' := 100) (by decide) e2) rfl)) (fun r' w2 q => ?_)⟩
  obtain ⟨⟨v', n2, rfl, hI2, hG⟩, rfl⟩ := q
  obtain ⟨rfl, rfl⟩ := bk_eq hF hG
  exact ⟨⟨v, rfl⟩, fun _ => rfl, ⟨⟨n1, hI2⟩, hA⟩⟩
theorem pr_hold (h : RI w) (x1 : Int32) : PR 186 306 false [.int x1] w := by
  obtain ⟨⟨n, hI⟩, x, y, T, rfl, hxy, hR⟩ := h
  obtain ⟨r1, r2, S1, Sx, S2, e1, eS, e2, hA⟩ := hold_l (x1 := x1) hxy hI.1 hI.2.1 hR
  refine mex_post (mex_and (k_hold hI x1) (RX_mex (P := fun _ w' => w' = WD S1) (by decide +kernel) (fun q => by simp at q) (RX_le (d' := 100) (by decide) e1) rfl)) (fun r w1 q => ?_)
  obtain ⟨⟨hr, hI1⟩, rfl⟩ := q
  refine ⟨hr, hI1.1, iv_len hI1, mex_post (mex_and (m_hold hI1 x1) (by
    rw [eS]
    exact RX_mex (P := fun _ w' => w' = WD S2) (by decide +kernel) (fun q => by simp at q) (RX_le (d' := 100) (by decide) e2) rfl)) (fun r' w2 q => ?_)⟩
  obtain ⟨⟨hr', hI2⟩, rfl⟩ := q
  exact ⟨hr', (fun e => by cases e), ⟨⟨n, hI2⟩, hA⟩⟩
theorem pr_restore (h : RI w) (x1 : Int32) : PR 187 307 true [.int x1] w := by
  obtain ⟨⟨n, hI⟩, x, y, T, rfl, hxy, hR⟩ := h
  obtain ⟨r1, S1, S2, e1, e2, hA⟩ := restore_l (x1 := x1) hxy hI.1 hI.2.1 hR
  refine mex_post (mex_and (k_restore hI x1) (RX_mex (P := fun r w' => r = some (.int r1) ∧ w' = WD S1) (by decide +kernel) (fun q => by simp at q) (RX_le (d' := 100) (by decide) e1) ⟨rfl, rfl⟩)) (fun r w1 q => ?_)
  obtain ⟨⟨hr, hI1⟩, rfl, rfl⟩ := q
  refine ⟨hr, hI1.1, iv_len hI1, mex_post (mex_and (m_restore hI1 x1) (RX_mex (P := fun r w' => r = some (.int r1) ∧ w' = WD S2) (by decide +kernel) (fun q => by simp at q) (RX_le (d' := 100) (by decide) e2) ⟨rfl, rfl⟩)) (fun r' w2 q => ?_)⟩
  obtain ⟨⟨hr', hI2⟩, rfl, rfl⟩ := q
  exact ⟨hr', fun _ => rfl, ⟨⟨n, hI2⟩, hA⟩⟩
theorem alk_r (hxy : XY x y) (hS : WD Sf = WD (wS x y T')) (hU : UPD mdRa Sf S2) (h : RLS S2) : ALK (WD S2) := by
  have hU' : agr EC (mdF mdRa) (WD (wS x y T')) (WD S2) := by
    rw [← hS]
    exact hU.2
  have hn := nz (E := EC) (md := mdRa) (by decide +kernel) hU'
  exact ⟨x, y, (S2.1, S2.2.1), hn, hxy, ⟨h.1, h.2.1, h.2.2.1, h.2.2.2.1, h.2.2.2.2⟩⟩
theorem pr_read (h : RI w) : PR 147 211 false [] w := by
  obtain ⟨⟨n, hI⟩, x, y, T, rfl, hxy, hR⟩ := h
  obtain ⟨r0, Sf, e1, hU, hJf, hc⟩ := read_l (d := 0) hxy hI.1 hI.2.1 hI.2.2.1 hR
  refine mex_post (mex_and (k_read hI) (RX_mex (P := fun _ w' => w' = WD Sf) (by decide +kernel) nn1 (RX_le (d' := 100) (by decide) e1) rfl)) (fun r w1 q => ?_)
  obtain ⟨⟨hr, hI1⟩, rfl⟩ := q
  obtain ⟨r2, S2, e2, hU2, hM2, h02⟩ := readM_rx (d := 0) hU.1 hI1.2.2.1
  refine ⟨hr, hI1.1, wd_len, mex_post (mex_and (m_read hI1) (RX_mex (P := fun _ w' => w' = WD S2) (by decide +kernel) nn1 (RX_le (d' := 100) (by decide) e2) rfl)) (fun r' w2 q => ?_)⟩
  obtain ⟨⟨hr', hI2⟩, rfl⟩ := q
  refine ⟨hr', (fun e => by cases e), ⟨⟨0, hI2⟩, ?_⟩⟩
  have e21 : S2.1 2 1 = 0 := by
    have h5 := hI2.2.2.2.1
    rw [fa_o (c := 2) (j := 1) rfl rfl (by decide) rfl] at h5
    injection h5 with h5
    injection h5
  have e148 : S2.1 148 2 = 0 := Int32.toInt_inj.mp h02
  have e44 : ∀ s, s < 3 → S2.1 44 s = Sf.1 44 s := fun s hs => up_er (t := 2) (n := 3) (c := 44) hU2 rfl rfl rfl rfl hs
  have key : (∀ s, s < 3 → S2.1 44 s = S2.1 198 s) → RLS S2 := fun h5 => ⟨fun i hi => by
    show (S2.2.1 4 i).toInt = _
    rw [up_ll (t := 0) (n := 18) (c := 4) hU2 rfl rfl rfl rfl hi, up_ll (t := 0) (n := 18) (c := 4) hU rfl rfl rfl rfl hi]
    exact hR.1 i hi, fun i hi => by
    rw [up_ll (t := 0) (n := 18) (c := 155) hU2 rfl rfl rfl rfl hi, up_ll (t := 0) (n := 18) (c := 155) hU rfl rfl rfl rfl hi]
    exact hR.2.1 i hi, ⟨by rw [e21, e148], by rw [e21]; decide, by rw [e21]; decide⟩, fun i _ h2 => by
    rw [e21] at h2
    have h2 : (i : Int) < 0 := h2
    omega, h5⟩
  rcases hc with ⟨v, S2', S7, S', T1, T5, t, n', st, sl, L, n0, E, -, g1, g2, rfl, g4, g5, g6, g7, g8, g9, g10, g11⟩ | ⟨v, S2', S7, S', T1, r3, u, -, g2, g3, g4, g5, g6, g7, g8, g9, g10⟩
  · rw [show (0 : Nat) + 8 = 8 from rfl] at g8 e2
    rw [e2] at g8
    cases g8
    refine alk_r (xys hxy) rfl hU2 (key (fun s hs => ?_))
    rw [e44 s hs, g9.2.2.2.2.2.2.2.1 s hs]
    match s, hs with
    | 0, _ => rfl
    | 1, _ => rfl
    | 2, _ => rfl
  · rw [show (0 : Nat) + 8 = 8 from rfl] at g6 e2
    rw [e2] at g6
    injection g6 with g6
    obtain ⟨-, g6⟩ := Prod.mk.inj g6
    refine alk_r hxy g4 hU2 (key (fun s hs => ?_))
    have h44 : ctyY y 44 = 0 := by rcases hxy with ⟨-, rfl⟩ | ⟨-, rfl⟩ <;> rfl
    rw [e44 s hs, cell_I (c := 44) (fry_w g4 g5 44 h44 (by decide)) rfl hs, g6, g8, uI_ne _ _ _ _ (by decide), up_er (t := 2) (n := 3) (c := 198) g10.1 rfl rfl rfl rfl hs, up_er (t := 2) (n := 3) (c := 198) g9 rfl rfl rfl rfl hs, up_er (t := 2) (n := 3) (c := 198) hU rfl rfl rfl rfl hs]
    exact hR.2.2.2.2 s hs
theorem pr_place (h : RI w) : PR 148 212 false [] w := by
  obtain ⟨⟨n, hI⟩, hA⟩ := h
  exact pr_of hI hA (k_place hI) (fun w1 h1 => m_place h1)
theorem pr_now (h : RI w) (x1 : Int32) : PR 149 248 false [.int x1] w := by
  obtain ⟨⟨n, hI⟩, hA⟩ := h
  exact pr_of hI hA (k_now hI x1) (fun w1 h1 => m_now h1 x1)
theorem pr_sleeper (h : RI w) (x1 x2 : Int32) : PR 150 249 false [.int x1, .int x2] w := by
  obtain ⟨⟨n, hI⟩, hA⟩ := h
  exact pr_of hI hA (k_sleeper hI x1 x2) (fun w1 h1 => m_sleeper h1 x1 x2)
theorem pr_was (h : RI w) (x1 x2 : Int32) : PR 151 250 false [.int x1, .int x2] w := by
  obtain ⟨⟨n, hI⟩, hA⟩ := h
  exact pr_of hI hA (k_was hI x1 x2) (fun w1 h1 => m_was h1 x1 x2)
theorem pr_hours (h : RI w) (x1 : Int32) : PR 152 252 false [.int x1] w := by
  obtain ⟨⟨n, hI⟩, hA⟩ := h
  exact pr_of hI hA (k_hours hI x1) (fun w1 h1 => m_hours h1 x1)
theorem pr_nap (h : RI w) (x1 x2 : Int32) : PR 153 253 false [.int x1, .int x2] w := by
  obtain ⟨⟨n, hI⟩, hA⟩ := h
  exact pr_of hI hA (k_nap hI x1 x2) (fun w1 h1 => m_nap h1 x1 x2)
theorem pr_wake (h : RI w) (x1 : Int32) : PR 154 255 false [.int x1] w := by
  obtain ⟨⟨n, hI⟩, hA⟩ := h
  exact pr_of hI hA (k_wake hI x1) (fun w1 h1 => m_wake h1 x1)
theorem pr_bed (h : RI w) (x1 x2 : Int32) : PR 155 256 false [.int x1, .int x2] w := by
  obtain ⟨⟨n, hI⟩, hA⟩ := h
  exact pr_of hI hA (k_bed hI x1 x2) (fun w1 h1 => m_bed h1 x1 x2)
theorem pr_set (h : RI w) (x1 : Int32) : PR 156 257 false [.int x1] w := by
  obtain ⟨⟨n, hI⟩, hA⟩ := h
  exact pr_of hI hA (k_set hI x1) (fun w1 h1 => m_set h1 x1)
theorem pr_undo (h : RI w) : PR 157 258 false [] w := by
  obtain ⟨⟨n, hI⟩, hA⟩ := h
  exact pr_of hI hA (k_undo hI) (fun w1 h1 => m_undo h1)
theorem pr_then (h : RI w) (x1 x2 : Int32) : PR 158 260 false [.int x1, .int x2] w := by
  obtain ⟨⟨n, hI⟩, hA⟩ := h
  exact pr_of hI hA (k_then hI x1 x2) (fun w1 h1 => m_then h1 x1 x2)
theorem pr_ends (h : RI w) : PR 159 261 false [] w := by
  obtain ⟨⟨n, hI⟩, hA⟩ := h
  exact pr_of hI hA (k_ends hI) (fun w1 h1 => m_ends h1)
theorem pr_gains (h : RI w) (x1 x2 : Int32) : PR 160 263 false [.int x1, .int x2] w := by
  obtain ⟨⟨n, hI⟩, hA⟩ := h
  exact pr_of hI hA (k_gains hI x1 x2) (fun w1 h1 => m_gains h1 x1 x2)
theorem pr_line (h : RI w) (x1 : Int32) : PR 161 268 false [.int x1] w := by
  obtain ⟨⟨n, hI⟩, hA⟩ := h
  exact pr_of hI hA (k_line hI x1) (fun w1 h1 => m_line h1 x1)
theorem pr_lineAt (h : RI w) (x1 x2 : Int32) : PR 162 269 false [.int x1, .int x2] w := by
  obtain ⟨⟨n, hI⟩, hA⟩ := h
  exact pr_of hI hA (k_lineAt hI x1 x2) (fun w1 h1 => m_lineAt h1 x1 x2)
theorem pr_fair (h : RI w) (x1 : Int32) : PR 163 270 false [.int x1] w := by
  obtain ⟨⟨n, hI⟩, hA⟩ := h
  exact pr_of hI hA (k_fair hI x1) (fun w1 h1 => m_fair h1 x1)
theorem pr_rests (h : RI w) (x1 x2 : Int32) : PR 164 273 false [.int x1, .int x2] w := by
  obtain ⟨⟨n, hI⟩, hA⟩ := h
  exact pr_of hI hA (k_rests hI x1 x2) (fun w1 h1 => m_rests h1 x1 x2)
theorem pr_round (h : RI w) (x1 : Int32) : PR 165 277 false [.int x1] w := by
  obtain ⟨⟨n, hI⟩, hA⟩ := h
  exact pr_of hI hA (k_round hI x1) (fun w1 h1 => m_round h1 x1)
theorem pr_reach (h : RI w) : PR 166 284 false [] w := by
  obtain ⟨⟨n, hI⟩, hA⟩ := h
  exact pr_of hI hA (k_reach hI) (fun w1 h1 => m_reach h1)
theorem pr_far (h : RI w) (x1 : Int32) : PR 167 285 false [.int x1] w := by
  obtain ⟨⟨n, hI⟩, hA⟩ := h
  exact pr_of hI hA (k_far hI x1) (fun w1 h1 => m_far h1 x1)
theorem pr_farAt (h : RI w) (x1 x2 : Int32) : PR 168 287 false [.int x1, .int x2] w := by
  obtain ⟨⟨n, hI⟩, hA⟩ := h
  exact pr_of hI hA (k_farAt hI x1 x2) (fun w1 h1 => m_farAt h1 x1 x2)
theorem pr_trapped (h : RI w) : PR 169 288 false [] w := by
  obtain ⟨⟨n, hI⟩, hA⟩ := h
  exact pr_of hI hA (k_trapped hI) (fun w1 h1 => m_trapped h1)
theorem pr_bestBed (h : RI w) (x1 x2 x3 : Int32) : PR 170 274 false [.int x1, .int x2, .int x3] w := by
  obtain ⟨⟨n, hI⟩, hA⟩ := h
  exact pr_of hI hA (k_bestBed hI x1 x2 x3) (fun w1 h1 => m_bestBed h1 x1 x2 x3)
theorem pr_bestStart (h : RI w) (x1 x2 : Int32) : PR 171 275 false [.int x1, .int x2] w := by
  obtain ⟨⟨n, hI⟩, hA⟩ := h
  exact pr_of hI hA (k_bestStart hI x1 x2) (fun w1 h1 => m_bestStart h1 x1 x2)
theorem pr_free (h : RI w) (x1 : Int32) : PR 172 278 false [.int x1] w := by
  obtain ⟨⟨n, hI⟩, hA⟩ := h
  exact pr_of hI hA (k_free hI x1) (fun w1 h1 => m_free h1 x1)
theorem pr_handed (h : RI w) (x1 x2 : Int32) : PR 173 293 false [.int x1, .int x2] w := by
  obtain ⟨⟨n, hI⟩, hA⟩ := h
  exact pr_of hI hA (k_handed hI x1 x2) (fun w1 h1 => m_handed h1 x1 x2)
theorem pr_luckiest (h : RI w) (x1 : Int32) : PR 174 297 false [.int x1] w := by
  obtain ⟨⟨n, hI⟩, hA⟩ := h
  exact pr_of hI hA (k_luckiest hI x1) (fun w1 h1 => m_luckiest h1 x1)
theorem pr_best (h : RI w) (x1 x2 : Int32) : PR 175 292 false [.int x1, .int x2] w := by
  obtain ⟨⟨n, hI⟩, hA⟩ := h
  exact pr_of hI hA (k_best hI x1 x2) (fun w1 h1 => m_best h1 x1 x2)
theorem pr_needed (h : RI w) (x1 : Int32) : PR 176 279 false [.int x1] w := by
  obtain ⟨⟨n, hI⟩, hA⟩ := h
  exact pr_of hI hA (k_needed hI x1) (fun w1 h1 => m_needed h1 x1)
theorem pr_mean (h : RI w) (x1 x2 : Int32) : PR 177 281 false [.int x1, .int x2] w := by
  obtain ⟨⟨n, hI⟩, hA⟩ := h
  exact pr_of hI hA (k_mean hI x1 x2) (fun w1 h1 => m_mean h1 x1 x2)
theorem pr_knows (h : RI w) (x1 : Int32) : PR 178 298 false [.int x1] w := by
  obtain ⟨⟨n, hI⟩, hA⟩ := h
  exact pr_of hI hA (k_knows hI x1) (fun w1 h1 => m_knows h1 x1)
theorem pr_behind (h : RI w) (x1 x2 : Int32) : PR 180 294 false [.int x1, .int x2] w := by
  obtain ⟨⟨n, hI⟩, hA⟩ := h
  exact pr_of hI hA (k_behind hI x1 x2) (fun w1 h1 => m_behind h1 x1 x2)
theorem pr_longest (h : RI w) (x1 : Int32) : PR 181 296 false [.int x1] w := by
  obtain ⟨⟨n, hI⟩, hA⟩ := h
  exact pr_of hI hA (k_longest hI x1) (fun w1 h1 => m_longest h1 x1)
theorem pr_tell (h : RI w) (x1 x2 x3 : Int32) : PR 182 300 false [.int x1, .int x2, .int x3] w := by
  obtain ⟨⟨n, hI⟩, hA⟩ := h
  exact pr_of hI hA (k_tell hI x1 x2 x3) (fun w1 h1 => m_tell h1 x1 x2 x3)
theorem pr_forget (h : RI w) : PR 183 301 false [] w := by
  obtain ⟨⟨n, hI⟩, hA⟩ := h
  exact pr_of hI hA (k_forget hI) (fun w1 h1 => m_forget h1)
theorem pr_fits (h : RI w) (x1 x2 x3 : Int32) : PR 184 304 false [.int x1, .int x2, .int x3] w := by
  obtain ⟨⟨n, hI⟩, hA⟩ := h
  exact pr_of hI hA (k_fits hI x1 x2 x3) (fun w1 h1 => m_fits h1 x1 x2 x3)
theorem pr_doubt (h : RI w) (x1 x2 : Int32) : PR 185 305 false [.int x1, .int x2] w := by
  obtain ⟨⟨n, hI⟩, hA⟩ := h
  exact pr_of hI hA (k_doubt hI x1 x2) (fun w1 h1 => m_doubt h1 x1 x2)
theorem pr_count (h : RI w) (x1 : Int32) : PR 188 308 false [.int x1] w := by
  obtain ⟨⟨n, hI⟩, hA⟩ := h
  exact pr_of hI hA (k_count hI x1) (fun w1 h1 => m_count h1 x1)
end PRS
