/-! ===== printed by wip/pd_law.py: the law's loop, over any world WW and any relation Sim of class and reference ===== -/
theorem sc_cmp0 {x : Int64} {v : Int32} (h : x = v.toInt64) : lg_cmp x v.toInt64 = 0 := by rw [h]; simp [lg_cmp]
section LAW
variable (l : Launch) (D : va_G) (tc : Nat → ClassId) (b : Nat) (Sim : Nat → am_W → Prop) (N : Nat)
def lh_add : Prop := ∀ (n : Nat) (w : am_W) (a0 : Int32), Sim n w → 4 * n + 5 ≤ N → ∃ (v v1 : Int32) (w1 w2 : am_W) (f0 f1 : List Value), am_nth w 0 = some (.inr (4, f0)) ∧ am_M lw_tbl vwCl l D tc b yX4_add cX4_add 2 (some .int) 8 0 0 [.ref 0, .int a0] (w) (am_is (some (.int v)) (w1)) ∧ am_nth w1 12 = some (.inr (5, f1)) ∧ am_M lw_tbl vwCl l D tc b yX5_add cX5_add 2 (some .int) 8 0 0 [.ref 12, .int a0] (w1) (am_is (some (.int v1)) (w2)) ∧ (False → v = v1) ∧ Sim (n + 1) w2
def lh_end : Prop := ∀ (n : Nat) (w : am_W) (a0 a1 : Int32), (a1 = 0 ∨ a1 = 1) → Sim n w → 4 * n + 5 ≤ N → ∃ (v v1 : Int32) (w1 w2 : am_W) (f0 f1 : List Value), am_nth w 0 = some (.inr (4, f0)) ∧ am_M lw_tbl vwCl l D tc b yX4_end cX4_end 3 (some .int) 8 0 0 [.ref 0, .int a0, .int a1] (w) (am_is (some (.int v)) (w1)) ∧ am_nth w1 12 = some (.inr (5, f1)) ∧ am_M lw_tbl vwCl l D tc b yX5_end cX5_end 5 (some .int) 8 0 0 [.ref 12, .int a0, .int a1] (w1) (am_is (some (.int v1)) (w2)) ∧ (False → v = v1) ∧ Sim (n + 1) w2
def lh_sync : Prop := ∀ (n : Nat) (w : am_W), Sim n w → 4 * n + 5 ≤ N → ∃ (v v1 : Int32) (w1 w2 : am_W) (f0 f1 : List Value), am_nth w 0 = some (.inr (4, f0)) ∧ am_M lw_tbl vwCl l D tc b yX4_sync cX4_sync 4 (some .int) 8 0 0 [.ref 0] (w) (am_is (some (.int v)) (w1)) ∧ am_nth w1 12 = some (.inr (5, f1)) ∧ am_M lw_tbl vwCl l D tc b yX5_sync cX5_sync 4 (some .int) 8 0 0 [.ref 12] (w1) (am_is (some (.int v1)) (w2)) ∧ (False → v = v1) ∧ Sim (n + 1) w2
def lh_merge : Prop := ∀ (n : Nat) (w : am_W) (a0 : Int32), Sim n w → 4 * n + 5 ≤ N → ∃ (v v1 : Int32) (w1 w2 : am_W) (f0 f1 : List Value), am_nth w 0 = some (.inr (4, f0)) ∧ am_M lw_tbl vwCl l D tc b yX4_merge cX4_merge 6 (some .int) 8 0 0 [.ref 0, .int a0] (w) (am_is (some (.int v)) (w1)) ∧ am_nth w1 12 = some (.inr (5, f1)) ∧ am_M lw_tbl vwCl l D tc b yX5_merge cX5_merge 6 (some .int) 8 0 0 [.ref 12, .int a0] (w1) (am_is (some (.int v1)) (w2)) ∧ (False → v = v1) ∧ Sim (n + 1) w2
def lh_drop : Prop := ∀ (n : Nat) (w : am_W) (a0 : Int32), Sim n w → 4 * n + 5 ≤ N → ∃ (v v1 : Int32) (w1 w2 : am_W) (f0 f1 : List Value), am_nth w 0 = some (.inr (4, f0)) ∧ am_M lw_tbl vwCl l D tc b yX4_drop cX4_drop 6 (some .int) 8 0 0 [.ref 0, .int a0] (w) (am_is (some (.int v)) (w1)) ∧ am_nth w1 12 = some (.inr (5, f1)) ∧ am_M lw_tbl vwCl l D tc b yX5_drop cX5_drop 7 (some .int) 8 0 0 [.ref 12, .int a0] (w1) (am_is (some (.int v1)) (w2)) ∧ (False → v = v1) ∧ Sim (n + 1) w2
def lh_cut : Prop := ∀ (n : Nat) (w : am_W) (a0 a1 : Int32), Sim n w → 4 * n + 5 ≤ N → ∃ (v v1 : Int32) (w1 w2 : am_W) (f0 f1 : List Value), am_nth w 0 = some (.inr (4, f0)) ∧ am_M lw_tbl vwCl l D tc b yX4_cut cX4_cut 3 (some .int) 8 0 0 [.ref 0, .int a0, .int a1] (w) (am_is (some (.int v)) (w1)) ∧ am_nth w1 12 = some (.inr (5, f1)) ∧ am_M lw_tbl vwCl l D tc b yX5_cut cX5_cut 3 (some .int) 8 0 0 [.ref 12, .int a0, .int a1] (w1) (am_is (some (.int v1)) (w2)) ∧ (False → v = v1) ∧ Sim (n + 1) w2
def lh_start : Prop := ∀ (n : Nat) (w : am_W), Sim n w → 4 * n + 5 ≤ N → ∃ (v v1 : Int32) (w1 w2 : am_W) (f0 f1 : List Value), am_nth w 0 = some (.inr (4, f0)) ∧ am_M lw_tbl vwCl l D tc b yX4_start cX4_start 1 (some .int) 8 0 0 [.ref 0] (w) (am_is (some (.int v)) (w1)) ∧ am_nth w1 12 = some (.inr (5, f1)) ∧ am_M lw_tbl vwCl l D tc b yX5_start cX5_start 3 (some .int) 8 0 0 [.ref 12] (w1) (am_is (some (.int v1)) (w2)) ∧ (False → v = v1) ∧ Sim (n + 1) w2
def lh_count : Prop := ∀ (n : Nat) (w : am_W) (a0 : Int32), Sim n w → 4 * n + 5 ≤ N → ∃ (v v1 : Int32) (w1 w2 : am_W) (f0 f1 : List Value), am_nth w 0 = some (.inr (4, f0)) ∧ am_M lw_tbl vwCl l D tc b yX4_count cX4_count 2 (some .int) 8 0 0 [.ref 0, .int a0] (w) (am_is (some (.int v)) (w1)) ∧ am_nth w1 12 = some (.inr (5, f1)) ∧ am_M lw_tbl vwCl l D tc b yX5_count cX5_count 2 (some .int) 8 0 0 [.ref 12, .int a0] (w1) (am_is (some (.int v1)) (w2)) ∧ (False → v = v1) ∧ Sim (n + 1) w2
def lh_row : Prop := ∀ (n : Nat) (w : am_W) (a0 a1 : Int32), Sim n w → 4 * n + 5 ≤ N → ∃ (v v1 : Int32) (w1 w2 : am_W) (f0 f1 : List Value), am_nth w 0 = some (.inr (4, f0)) ∧ am_M lw_tbl vwCl l D tc b yX4_row cX4_row 4 (some .int) 8 0 0 [.ref 0, .int a0, .int a1] (w) (am_is (some (.int v)) (w1)) ∧ am_nth w1 12 = some (.inr (5, f1)) ∧ am_M lw_tbl vwCl l D tc b yX5_row cX5_row 4 (some .int) 8 0 0 [.ref 12, .int a0, .int a1] (w1) (am_is (some (.int v1)) (w2)) ∧ (False → v = v1) ∧ Sim (n + 1) w2
def lh_at : Prop := ∀ (n : Nat) (w : am_W) (a0 a1 : Int32), Sim n w → 4 * n + 5 ≤ N → ∃ (k vb : Int32) (w1 w2 : am_W) (f1 f2 : List Value) (q1 : Nat → Int64), am_MW lw_tbl vwCl l D tc b yL_at cL_at 5 (some .int) [(0, 10, 13, 13)] 8 1 6 [.ref 0, .int a0, .int a1, .ref 21] w (am_is (some (.int k)) w1) ∧ am_nth w1 12 = some (.inr (5, f1)) ∧ am_M lw_tbl vwCl l D tc b yX5_at cX5_at 4 (some .int) 8 0 0 [.ref 12, .int a0, .int a1] (w1) (am_is (some (.int vb)) (w2)) ∧ am_nth w2 12 = some (.inr (5, f2)) ∧ am_M lw_tbl vwCl l D tc b yX5_thrown cX5_thrown 1 (some .int) 8 0 0 [.ref 12] (w2) (am_is (some (.int k)) (w2)) ∧ am_nth w2 21 = some (.inl (3, 1, .inr (.inl q1))) ∧ (k = 0 → q1 (0 : Int32).toNatClampNeg = vb.toInt64) ∧ Sim (n + 1) w2
def lh_wrong : Prop := ∀ (n : Nat) (w : am_W) (a0 : Int32), Sim n w → 4 * n + 5 ≤ N → ∃ (v v1 : Int32) (w1 w2 : am_W) (f0 f1 : List Value), am_nth w 0 = some (.inr (4, f0)) ∧ am_M lw_tbl vwCl l D tc b yX4_wrong cX4_wrong 4 (some .int) 8 0 0 [.ref 0, .int a0] (w) (am_is (some (.int v)) (w1)) ∧ am_nth w1 12 = some (.inr (5, f1)) ∧ am_M lw_tbl vwCl l D tc b yX5_wrong cX5_wrong 5 (some .int) 8 0 0 [.ref 12, .int a0] (w1) (am_is (some (.int v1)) (w2)) ∧ (False → v = v1) ∧ Sim (n + 1) w2
def lh_poke : Prop := ∀ (n : Nat) (w : am_W) (a0 a1 a2 : Int32), Sim n w → 4 * n + 5 ≤ N → ∃ (k vb : Int32) (w1 w2 : am_W) (f1 f2 : List Value) (q1 : Nat → Int64), am_MW lw_tbl vwCl l D tc b yL_poke cL_poke 6 (some .int) [(0, 12, 15, 13)] 8 1 6 [.ref 0, .int a0, .int a1, .int a2, .ref 21] w (am_is (some (.int k)) w1) ∧ am_nth w1 12 = some (.inr (5, f1)) ∧ am_M lw_tbl vwCl l D tc b yX5_poke cX5_poke 4 (some .int) 8 0 0 [.ref 12, .int a0, .int a1, .int a2] (w1) (am_is (some (.int vb)) (w2)) ∧ am_nth w2 12 = some (.inr (5, f2)) ∧ am_M lw_tbl vwCl l D tc b yX5_thrown cX5_thrown 1 (some .int) 8 0 0 [.ref 12] (w2) (am_is (some (.int k)) (w2)) ∧ am_nth w2 21 = some (.inl (3, 1, .inr (.inl q1))) ∧ (k = 0 → q1 (0 : Int32).toNatClampNeg = vb.toInt64) ∧ Sim (n + 1) w2
def lh_octet : Prop := ∀ (n : Nat) (w : am_W) (a0 a1 : Int32), Sim n w → 4 * n + 5 ≤ N → ∃ (k vb : Int32) (w1 w2 : am_W) (f1 f2 : List Value) (q1 : Nat → Int64), am_MW lw_tbl vwCl l D tc b yL_octet cL_octet 5 (some .int) [(0, 10, 13, 13)] 8 1 6 [.ref 0, .int a0, .int a1, .ref 21] w (am_is (some (.int k)) w1) ∧ am_nth w1 12 = some (.inr (5, f1)) ∧ am_M lw_tbl vwCl l D tc b yX5_octet cX5_octet 3 (some .int) 8 0 0 [.ref 12, .int a0, .int a1] (w1) (am_is (some (.int vb)) (w2)) ∧ am_nth w2 12 = some (.inr (5, f2)) ∧ am_M lw_tbl vwCl l D tc b yX5_thrown cX5_thrown 1 (some .int) 8 0 0 [.ref 12] (w2) (am_is (some (.int k)) (w2)) ∧ am_nth w2 21 = some (.inl (3, 1, .inr (.inl q1))) ∧ (k = 0 → q1 (0 : Int32).toNatClampNeg = vb.toInt64) ∧ Sim (n + 1) w2
def lh_writes : Prop := ∀ (n : Nat) (w : am_W), Sim n w → 4 * n + 5 ≤ N → ∃ (v v1 : Int32) (w1 w2 : am_W) (f0 f1 : List Value), am_nth w 0 = some (.inr (4, f0)) ∧ am_M lw_tbl vwCl l D tc b yX4_writes cX4_writes 1 (some .int) 8 0 0 [.ref 0] (w) (am_is (some (.int v)) (w1)) ∧ am_nth w1 12 = some (.inr (5, f1)) ∧ am_M lw_tbl vwCl l D tc b yX5_writes cX5_writes 1 (some .int) 8 0 0 [.ref 12] (w1) (am_is (some (.int v1)) (w2)) ∧ (False → v = v1) ∧ Sim (n + 1) w2
end LAW
section LAW2
variable {l : Launch} {D : va_G} {tc : Nat → ClassId} {b : Nat} {Sim : Nat → am_W → Prop} {N : Nat} {ini : am_I} {sb Ln : Nat} {xs : Nat → Int32} {P : Array Value → State → Prop} {Q0 : List Frame → Array Value → State → State → Prop}
set_option maxHeartbeats 4000000 in
set_option maxRecDepth 100000 in
theorem law_add (hsb : sb < b) (H_add : lh_add l D tc b Sim N) {n : Nat} {w : am_W} {i : Int32} {o5 o6 : Option Value} {cells slots : Nat} (hsim : Sim n w) (hle : 4 * n + 5 ≤ N) (h0 : vp_in i Ln) (h1 : vp_in (i + 1) Ln) (h2 : vp_in (i + 2) Ln) (h3 : vp_in (i + 3) Ln) (hc1 : cells + 1 ≤ room_1.cells) (hc2 : slots + 6 ≤ room_1.slots)
    (kk : ∀ (w1 : am_W) (o5 o6 : Option Value) (cells1 slots1 : Nat), Sim (n + 1) w1 → cells1 ≤ cells + 1 → slots1 ≤ slots + 6 → am_RQ lw_tbl vwCl l D tc b RL cL_law 7 (some .boolean) ini room_1 (sc_Q sb Ln xs P Q0) cells1 slots1 571 [some (.retAddr sb), some (.ref 0), some (.ref 12), some (.ref 21), some (.int i), o5, o6] [] w1) :
    am_RQ lw_tbl vwCl l D tc b RL cL_law 7 (some .boolean) ini room_1 (sc_Q sb Ln xs P Q0) cells slots 120 [some (.retAddr sb), some (.ref 0), some (.ref 12), some (.ref 21), some (.int i), o5, o6] [] w := by
  refine am_s am_cls okL_law rfl ?_
  refine sc_ld okL_law rfl rfl ?_
  iterate 3 refine am_s am_cls okL_law rfl ?_
  refine sc_al okL_law rfl rfl hsb h1 ?_
  obtain ⟨v, v1, w1, w2, f0, f1, hx0, hc, hy1, hr, he, hs⟩ := H_add n w (xs (i + 1).toNatClampNeg) hsim hle
  refine am_cV okL_law rfl hc cv_L_34 coX4_add rfl hx0 rfl ⟨rfl, rfl, rfl⟩ ⟨by omega, by omega⟩ ?_
  rintro _ _ ⟨rfl, rfl⟩
  iterate 2 refine am_s am_cls okL_law rfl ?_
  refine sc_ld okL_law rfl rfl ?_
  iterate 3 refine am_s am_cls okL_law rfl ?_
  refine sc_al okL_law rfl rfl hsb h1 ?_
  refine am_cV okL_law rfl hr cv_L_38 coX5_add rfl hy1 rfl ⟨rfl, rfl, rfl⟩ ⟨by omega, by omega⟩ ?_
  rintro _ _ ⟨rfl, rfl⟩
  iterate 2 refine am_s am_cls okL_law rfl ?_
  exact kk _ _ _ _ _ hs (by omega) (by omega)
set_option maxHeartbeats 4000000 in
set_option maxRecDepth 100000 in
theorem law_end (hsb : sb < b) (H_end : lh_end l D tc b Sim N) {n : Nat} {w : am_W} {i : Int32} {o5 o6 : Option Value} {cells slots : Nat} (hsim : Sim n w) (hle : 4 * n + 5 ≤ N) (h0 : vp_in i Ln) (h1 : vp_in (i + 1) Ln) (h2 : vp_in (i + 2) Ln) (h3 : vp_in (i + 3) Ln) (hc1 : cells + 1 ≤ room_1.cells) (hc2 : slots + 6 ≤ room_1.slots)
    (kk : ∀ (w1 : am_W) (o5 o6 : Option Value) (cells1 slots1 : Nat), Sim (n + 1) w1 → cells1 ≤ cells + 1 → slots1 ≤ slots + 6 → am_RQ lw_tbl vwCl l D tc b RL cL_law 7 (some .boolean) ini room_1 (sc_Q sb Ln xs P Q0) cells1 slots1 571 [some (.retAddr sb), some (.ref 0), some (.ref 12), some (.ref 21), some (.int i), o5, o6] [] w1) :
    am_RQ lw_tbl vwCl l D tc b RL cL_law 7 (some .boolean) ini room_1 (sc_Q sb Ln xs P Q0) cells slots 145 [some (.retAddr sb), some (.ref 0), some (.ref 12), some (.ref 21), some (.int i), o5, o6] [] w := by
  refine am_s am_cls okL_law rfl ?_
  refine sc_ld okL_law rfl rfl ?_
  iterate 3 refine am_s am_cls okL_law rfl ?_
  refine sc_al okL_law rfl rfl hsb h1 ?_
  refine sc_ld okL_law rfl rfl ?_
  iterate 3 refine am_s am_cls okL_law rfl ?_
  refine sc_al okL_law rfl rfl hsb h2 ?_
  refine am_b okL_law rfl (fun h_158 => ?_) (fun h_158 => ?_)
  · skip
    refine am_s am_cls okL_law rfl ?_
    obtain ⟨v, v1, w1, w2, f0, f1, hx0, hc, hy1, hr, he, hs⟩ := H_end n w (xs (i + 1).toNatClampNeg) 0 (by decide) hsim hle
    refine am_cV okL_law rfl hc cv_L_39 coX4_end rfl hx0 rfl ⟨rfl, rfl, rfl⟩ ⟨by omega, by omega⟩ ?_
    rintro _ _ ⟨rfl, rfl⟩
    iterate 2 refine am_s am_cls okL_law rfl ?_
    refine sc_ld okL_law rfl rfl ?_
    iterate 3 refine am_s am_cls okL_law rfl ?_
    refine sc_al okL_law rfl rfl hsb h1 ?_
    refine sc_ld okL_law rfl rfl ?_
    iterate 3 refine am_s am_cls okL_law rfl ?_
    refine sc_al okL_law rfl rfl hsb h2 ?_
    refine am_b okL_law rfl (fun h_183 => ?_) (fun h_183 => ?_)
    · skip
      refine am_s am_cls okL_law rfl ?_
      refine am_cV okL_law rfl hr cv_L_43 coX5_end rfl hy1 rfl ⟨rfl, rfl, rfl⟩ ⟨by omega, by omega⟩ ?_
      rintro _ _ ⟨rfl, rfl⟩
      iterate 2 refine am_s am_cls okL_law rfl ?_
      exact kk _ _ _ _ _ hs (by omega) (by omega)
    · exact absurd h_158 h_183
  · skip
    iterate 2 refine am_s am_cls okL_law rfl ?_
    obtain ⟨v, v1, w1, w2, f0, f1, hx0, hc, hy1, hr, he, hs⟩ := H_end n w (xs (i + 1).toNatClampNeg) 1 (by decide) hsim hle
    refine am_cV okL_law rfl hc cv_L_39 coX4_end rfl hx0 rfl ⟨rfl, rfl, rfl⟩ ⟨by omega, by omega⟩ ?_
    rintro _ _ ⟨rfl, rfl⟩
    iterate 2 refine am_s am_cls okL_law rfl ?_
    refine sc_ld okL_law rfl rfl ?_
    iterate 3 refine am_s am_cls okL_law rfl ?_
    refine sc_al okL_law rfl rfl hsb h1 ?_
    refine sc_ld okL_law rfl rfl ?_
    iterate 3 refine am_s am_cls okL_law rfl ?_
    refine sc_al okL_law rfl rfl hsb h2 ?_
    refine am_b okL_law rfl (fun h_183 => ?_) (fun h_183 => ?_)
    · exact absurd h_183 h_158
    · skip
      iterate 2 refine am_s am_cls okL_law rfl ?_
      refine am_cV okL_law rfl hr cv_L_43 coX5_end rfl hy1 rfl ⟨rfl, rfl, rfl⟩ ⟨by omega, by omega⟩ ?_
      rintro _ _ ⟨rfl, rfl⟩
      iterate 2 refine am_s am_cls okL_law rfl ?_
      exact kk _ _ _ _ _ hs (by omega) (by omega)
set_option maxHeartbeats 4000000 in
set_option maxRecDepth 100000 in
theorem law_sync (hsb : sb < b) (H_sync : lh_sync l D tc b Sim N) {n : Nat} {w : am_W} {i : Int32} {o5 o6 : Option Value} {cells slots : Nat} (hsim : Sim n w) (hle : 4 * n + 5 ≤ N) (h0 : vp_in i Ln) (h1 : vp_in (i + 1) Ln) (h2 : vp_in (i + 2) Ln) (h3 : vp_in (i + 3) Ln) (hc1 : cells + 1 ≤ room_1.cells) (hc2 : slots + 6 ≤ room_1.slots)
    (kk : ∀ (w1 : am_W) (o5 o6 : Option Value) (cells1 slots1 : Nat), Sim (n + 1) w1 → cells1 ≤ cells + 1 → slots1 ≤ slots + 6 → am_RQ lw_tbl vwCl l D tc b RL cL_law 7 (some .boolean) ini room_1 (sc_Q sb Ln xs P Q0) cells1 slots1 571 [some (.retAddr sb), some (.ref 0), some (.ref 12), some (.ref 21), some (.int i), o5, o6] [] w1) :
    am_RQ lw_tbl vwCl l D tc b RL cL_law 7 (some .boolean) ini room_1 (sc_Q sb Ln xs P Q0) cells slots 198 [some (.retAddr sb), some (.ref 0), some (.ref 12), some (.ref 21), some (.int i), o5, o6] [] w := by
  refine am_s am_cls okL_law rfl ?_
  obtain ⟨v, v1, w1, w2, f0, f1, hx0, hc, hy1, hr, he, hs⟩ := H_sync n w hsim hle
  refine am_cV okL_law rfl hc cv_L_44 coX4_sync rfl hx0 rfl ⟨rfl, rfl, rfl⟩ ⟨by omega, by omega⟩ ?_
  rintro _ _ ⟨rfl, rfl⟩
  iterate 2 refine am_s am_cls okL_law rfl ?_
  refine am_cV okL_law rfl hr cv_L_48 coX5_sync rfl hy1 rfl ⟨rfl, rfl, rfl⟩ ⟨by omega, by omega⟩ ?_
  rintro _ _ ⟨rfl, rfl⟩
  iterate 2 refine am_s am_cls okL_law rfl ?_
  exact kk _ _ _ _ _ hs (by omega) (by omega)
set_option maxHeartbeats 4000000 in
set_option maxRecDepth 100000 in
theorem law_merge (hsb : sb < b) (H_merge : lh_merge l D tc b Sim N) {n : Nat} {w : am_W} {i : Int32} {o5 o6 : Option Value} {cells slots : Nat} (hsim : Sim n w) (hle : 4 * n + 5 ≤ N) (h0 : vp_in i Ln) (h1 : vp_in (i + 1) Ln) (h2 : vp_in (i + 2) Ln) (h3 : vp_in (i + 3) Ln) (hc1 : cells + 1 ≤ room_1.cells) (hc2 : slots + 6 ≤ room_1.slots)
    (kk : ∀ (w1 : am_W) (o5 o6 : Option Value) (cells1 slots1 : Nat), Sim (n + 1) w1 → cells1 ≤ cells + 1 → slots1 ≤ slots + 6 → am_RQ lw_tbl vwCl l D tc b RL cL_law 7 (some .boolean) ini room_1 (sc_Q sb Ln xs P Q0) cells1 slots1 571 [some (.retAddr sb), some (.ref 0), some (.ref 12), some (.ref 21), some (.int i), o5, o6] [] w1) :
    am_RQ lw_tbl vwCl l D tc b RL cL_law 7 (some .boolean) ini room_1 (sc_Q sb Ln xs P Q0) cells slots 211 [some (.retAddr sb), some (.ref 0), some (.ref 12), some (.ref 21), some (.int i), o5, o6] [] w := by
  refine am_s am_cls okL_law rfl ?_
  refine sc_ld okL_law rfl rfl ?_
  iterate 3 refine am_s am_cls okL_law rfl ?_
  refine sc_al okL_law rfl rfl hsb h1 ?_
  obtain ⟨v, v1, w1, w2, f0, f1, hx0, hc, hy1, hr, he, hs⟩ := H_merge n w (xs (i + 1).toNatClampNeg) hsim hle
  refine am_cV okL_law rfl hc cv_L_49 coX4_merge rfl hx0 rfl ⟨rfl, rfl, rfl⟩ ⟨by omega, by omega⟩ ?_
  rintro _ _ ⟨rfl, rfl⟩
  iterate 2 refine am_s am_cls okL_law rfl ?_
  refine sc_ld okL_law rfl rfl ?_
  iterate 3 refine am_s am_cls okL_law rfl ?_
  refine sc_al okL_law rfl rfl hsb h1 ?_
  refine am_cV okL_law rfl hr cv_L_52 coX5_merge rfl hy1 rfl ⟨rfl, rfl, rfl⟩ ⟨by omega, by omega⟩ ?_
  rintro _ _ ⟨rfl, rfl⟩
  iterate 2 refine am_s am_cls okL_law rfl ?_
  exact kk _ _ _ _ _ hs (by omega) (by omega)
set_option maxHeartbeats 4000000 in
set_option maxRecDepth 100000 in
theorem law_drop (hsb : sb < b) (H_drop : lh_drop l D tc b Sim N) {n : Nat} {w : am_W} {i : Int32} {o5 o6 : Option Value} {cells slots : Nat} (hsim : Sim n w) (hle : 4 * n + 5 ≤ N) (h0 : vp_in i Ln) (h1 : vp_in (i + 1) Ln) (h2 : vp_in (i + 2) Ln) (h3 : vp_in (i + 3) Ln) (hc1 : cells + 1 ≤ room_1.cells) (hc2 : slots + 6 ≤ room_1.slots)
    (kk : ∀ (w1 : am_W) (o5 o6 : Option Value) (cells1 slots1 : Nat), Sim (n + 1) w1 → cells1 ≤ cells + 1 → slots1 ≤ slots + 6 → am_RQ lw_tbl vwCl l D tc b RL cL_law 7 (some .boolean) ini room_1 (sc_Q sb Ln xs P Q0) cells1 slots1 571 [some (.retAddr sb), some (.ref 0), some (.ref 12), some (.ref 21), some (.int i), o5, o6] [] w1) :
    am_RQ lw_tbl vwCl l D tc b RL cL_law 7 (some .boolean) ini room_1 (sc_Q sb Ln xs P Q0) cells slots 236 [some (.retAddr sb), some (.ref 0), some (.ref 12), some (.ref 21), some (.int i), o5, o6] [] w := by
  refine am_s am_cls okL_law rfl ?_
  refine sc_ld okL_law rfl rfl ?_
  iterate 3 refine am_s am_cls okL_law rfl ?_
  refine sc_al okL_law rfl rfl hsb h1 ?_
  obtain ⟨v, v1, w1, w2, f0, f1, hx0, hc, hy1, hr, he, hs⟩ := H_drop n w (xs (i + 1).toNatClampNeg) hsim hle
  refine am_cV okL_law rfl hc cv_L_53 coX4_drop rfl hx0 rfl ⟨rfl, rfl, rfl⟩ ⟨by omega, by omega⟩ ?_
  rintro _ _ ⟨rfl, rfl⟩
  iterate 2 refine am_s am_cls okL_law rfl ?_
  refine sc_ld okL_law rfl rfl ?_
  iterate 3 refine am_s am_cls okL_law rfl ?_
  refine sc_al okL_law rfl rfl hsb h1 ?_
  refine am_cV okL_law rfl hr cv_L_56 coX5_drop rfl hy1 rfl ⟨rfl, rfl, rfl⟩ ⟨by omega, by omega⟩ ?_
  rintro _ _ ⟨rfl, rfl⟩
  iterate 2 refine am_s am_cls okL_law rfl ?_
  exact kk _ _ _ _ _ hs (by omega) (by omega)
set_option maxHeartbeats 4000000 in
set_option maxRecDepth 100000 in
theorem law_cut (hsb : sb < b) (H_cut : lh_cut l D tc b Sim N) {n : Nat} {w : am_W} {i : Int32} {o5 o6 : Option Value} {cells slots : Nat} (hsim : Sim n w) (hle : 4 * n + 5 ≤ N) (h0 : vp_in i Ln) (h1 : vp_in (i + 1) Ln) (h2 : vp_in (i + 2) Ln) (h3 : vp_in (i + 3) Ln) (hc1 : cells + 1 ≤ room_1.cells) (hc2 : slots + 6 ≤ room_1.slots)
    (kk : ∀ (w1 : am_W) (o5 o6 : Option Value) (cells1 slots1 : Nat), Sim (n + 1) w1 → cells1 ≤ cells + 1 → slots1 ≤ slots + 6 → am_RQ lw_tbl vwCl l D tc b RL cL_law 7 (some .boolean) ini room_1 (sc_Q sb Ln xs P Q0) cells1 slots1 571 [some (.retAddr sb), some (.ref 0), some (.ref 12), some (.ref 21), some (.int i), o5, o6] [] w1) :
    am_RQ lw_tbl vwCl l D tc b RL cL_law 7 (some .boolean) ini room_1 (sc_Q sb Ln xs P Q0) cells slots 261 [some (.retAddr sb), some (.ref 0), some (.ref 12), some (.ref 21), some (.int i), o5, o6] [] w := by
  refine am_s am_cls okL_law rfl ?_
  refine sc_ld okL_law rfl rfl ?_
  iterate 3 refine am_s am_cls okL_law rfl ?_
  refine sc_al okL_law rfl rfl hsb h1 ?_
  refine sc_ld okL_law rfl rfl ?_
  iterate 3 refine am_s am_cls okL_law rfl ?_
  refine sc_al okL_law rfl rfl hsb h2 ?_
  obtain ⟨v, v1, w1, w2, f0, f1, hx0, hc, hy1, hr, he, hs⟩ := H_cut n w (xs (i + 1).toNatClampNeg) (xs (i + 2).toNatClampNeg) hsim hle
  refine am_cV okL_law rfl hc cv_L_57 coX4_cut rfl hx0 rfl ⟨rfl, rfl, rfl⟩ ⟨by omega, by omega⟩ ?_
  rintro _ _ ⟨rfl, rfl⟩
  iterate 2 refine am_s am_cls okL_law rfl ?_
  refine sc_ld okL_law rfl rfl ?_
  iterate 3 refine am_s am_cls okL_law rfl ?_
  refine sc_al okL_law rfl rfl hsb h1 ?_
  refine sc_ld okL_law rfl rfl ?_
  iterate 3 refine am_s am_cls okL_law rfl ?_
  refine sc_al okL_law rfl rfl hsb h2 ?_
  refine am_cV okL_law rfl hr cv_L_60 coX5_cut rfl hy1 rfl ⟨rfl, rfl, rfl⟩ ⟨by omega, by omega⟩ ?_
  rintro _ _ ⟨rfl, rfl⟩
  iterate 2 refine am_s am_cls okL_law rfl ?_
  exact kk _ _ _ _ _ hs (by omega) (by omega)
set_option maxHeartbeats 4000000 in
set_option maxRecDepth 100000 in
theorem law_start (hsb : sb < b) (H_start : lh_start l D tc b Sim N) {n : Nat} {w : am_W} {i : Int32} {o5 o6 : Option Value} {cells slots : Nat} (hsim : Sim n w) (hle : 4 * n + 5 ≤ N) (h0 : vp_in i Ln) (h1 : vp_in (i + 1) Ln) (h2 : vp_in (i + 2) Ln) (h3 : vp_in (i + 3) Ln) (hc1 : cells + 1 ≤ room_1.cells) (hc2 : slots + 6 ≤ room_1.slots)
    (kk : ∀ (w1 : am_W) (o5 o6 : Option Value) (cells1 slots1 : Nat), Sim (n + 1) w1 → cells1 ≤ cells + 1 → slots1 ≤ slots + 6 → am_RQ lw_tbl vwCl l D tc b RL cL_law 7 (some .boolean) ini room_1 (sc_Q sb Ln xs P Q0) cells1 slots1 571 [some (.retAddr sb), some (.ref 0), some (.ref 12), some (.ref 21), some (.int i), o5, o6] [] w1) :
    am_RQ lw_tbl vwCl l D tc b RL cL_law 7 (some .boolean) ini room_1 (sc_Q sb Ln xs P Q0) cells slots 298 [some (.retAddr sb), some (.ref 0), some (.ref 12), some (.ref 21), some (.int i), o5, o6] [] w := by
  refine am_s am_cls okL_law rfl ?_
  obtain ⟨v, v1, w1, w2, f0, f1, hx0, hc, hy1, hr, he, hs⟩ := H_start n w hsim hle
  refine am_cV okL_law rfl hc cv_L_61 coX4_start rfl hx0 rfl ⟨rfl, rfl, rfl⟩ ⟨by omega, by omega⟩ ?_
  rintro _ _ ⟨rfl, rfl⟩
  iterate 2 refine am_s am_cls okL_law rfl ?_
  refine am_cV okL_law rfl hr cv_L_64 coX5_start rfl hy1 rfl ⟨rfl, rfl, rfl⟩ ⟨by omega, by omega⟩ ?_
  rintro _ _ ⟨rfl, rfl⟩
  iterate 2 refine am_s am_cls okL_law rfl ?_
  exact kk _ _ _ _ _ hs (by omega) (by omega)
set_option maxHeartbeats 4000000 in
set_option maxRecDepth 100000 in
theorem law_count (hsb : sb < b) (H_count : lh_count l D tc b Sim N) {n : Nat} {w : am_W} {i : Int32} {o5 o6 : Option Value} {cells slots : Nat} (hsim : Sim n w) (hle : 4 * n + 5 ≤ N) (h0 : vp_in i Ln) (h1 : vp_in (i + 1) Ln) (h2 : vp_in (i + 2) Ln) (h3 : vp_in (i + 3) Ln) (hc1 : cells + 1 ≤ room_1.cells) (hc2 : slots + 6 ≤ room_1.slots)
    (kk : ∀ (w1 : am_W) (o5 o6 : Option Value) (cells1 slots1 : Nat), Sim (n + 1) w1 → cells1 ≤ cells + 1 → slots1 ≤ slots + 6 → am_RQ lw_tbl vwCl l D tc b RL cL_law 7 (some .boolean) ini room_1 (sc_Q sb Ln xs P Q0) cells1 slots1 571 [some (.retAddr sb), some (.ref 0), some (.ref 12), some (.ref 21), some (.int i), o5, o6] [] w1) :
    am_RQ lw_tbl vwCl l D tc b RL cL_law 7 (some .boolean) ini room_1 (sc_Q sb Ln xs P Q0) cells slots 311 [some (.retAddr sb), some (.ref 0), some (.ref 12), some (.ref 21), some (.int i), o5, o6] [] w := by
  refine am_s am_cls okL_law rfl ?_
  refine sc_ld okL_law rfl rfl ?_
  iterate 3 refine am_s am_cls okL_law rfl ?_
  refine sc_al okL_law rfl rfl hsb h1 ?_
  obtain ⟨v, v1, w1, w2, f0, f1, hx0, hc, hy1, hr, he, hs⟩ := H_count n w (xs (i + 1).toNatClampNeg) hsim hle
  refine am_cV okL_law rfl hc cv_L_65 coX4_count rfl hx0 rfl ⟨rfl, rfl, rfl⟩ ⟨by omega, by omega⟩ ?_
  rintro _ _ ⟨rfl, rfl⟩
  iterate 2 refine am_s am_cls okL_law rfl ?_
  refine sc_ld okL_law rfl rfl ?_
  iterate 3 refine am_s am_cls okL_law rfl ?_
  refine sc_al okL_law rfl rfl hsb h1 ?_
  refine am_cV okL_law rfl hr cv_L_68 coX5_count rfl hy1 rfl ⟨rfl, rfl, rfl⟩ ⟨by omega, by omega⟩ ?_
  rintro _ _ ⟨rfl, rfl⟩
  iterate 2 refine am_s am_cls okL_law rfl ?_
  exact kk _ _ _ _ _ hs (by omega) (by omega)
set_option maxHeartbeats 4000000 in
set_option maxRecDepth 100000 in
theorem law_row (hsb : sb < b) (H_row : lh_row l D tc b Sim N) {n : Nat} {w : am_W} {i : Int32} {o5 o6 : Option Value} {cells slots : Nat} (hsim : Sim n w) (hle : 4 * n + 5 ≤ N) (h0 : vp_in i Ln) (h1 : vp_in (i + 1) Ln) (h2 : vp_in (i + 2) Ln) (h3 : vp_in (i + 3) Ln) (hc1 : cells + 1 ≤ room_1.cells) (hc2 : slots + 6 ≤ room_1.slots)
    (kk : ∀ (w1 : am_W) (o5 o6 : Option Value) (cells1 slots1 : Nat), Sim (n + 1) w1 → cells1 ≤ cells + 1 → slots1 ≤ slots + 6 → am_RQ lw_tbl vwCl l D tc b RL cL_law 7 (some .boolean) ini room_1 (sc_Q sb Ln xs P Q0) cells1 slots1 571 [some (.retAddr sb), some (.ref 0), some (.ref 12), some (.ref 21), some (.int i), o5, o6] [] w1) :
    am_RQ lw_tbl vwCl l D tc b RL cL_law 7 (some .boolean) ini room_1 (sc_Q sb Ln xs P Q0) cells slots 336 [some (.retAddr sb), some (.ref 0), some (.ref 12), some (.ref 21), some (.int i), o5, o6] [] w := by
  refine am_s am_cls okL_law rfl ?_
  refine sc_ld okL_law rfl rfl ?_
  iterate 3 refine am_s am_cls okL_law rfl ?_
  refine sc_al okL_law rfl rfl hsb h1 ?_
  refine sc_ld okL_law rfl rfl ?_
  iterate 3 refine am_s am_cls okL_law rfl ?_
  refine sc_al okL_law rfl rfl hsb h2 ?_
  obtain ⟨v, v1, w1, w2, f0, f1, hx0, hc, hy1, hr, he, hs⟩ := H_row n w (xs (i + 1).toNatClampNeg) (xs (i + 2).toNatClampNeg) hsim hle
  refine am_cV okL_law rfl hc cv_L_69 coX4_row rfl hx0 rfl ⟨rfl, rfl, rfl⟩ ⟨by omega, by omega⟩ ?_
  rintro _ _ ⟨rfl, rfl⟩
  iterate 2 refine am_s am_cls okL_law rfl ?_
  refine sc_ld okL_law rfl rfl ?_
  iterate 3 refine am_s am_cls okL_law rfl ?_
  refine sc_al okL_law rfl rfl hsb h1 ?_
  refine sc_ld okL_law rfl rfl ?_
  iterate 3 refine am_s am_cls okL_law rfl ?_
  refine sc_al okL_law rfl rfl hsb h2 ?_
  refine am_cV okL_law rfl hr cv_L_72 coX5_row rfl hy1 rfl ⟨rfl, rfl, rfl⟩ ⟨by omega, by omega⟩ ?_
  rintro _ _ ⟨rfl, rfl⟩
  iterate 2 refine am_s am_cls okL_law rfl ?_
  exact kk _ _ _ _ _ hs (by omega) (by omega)
set_option maxHeartbeats 4000000 in
set_option maxRecDepth 100000 in
theorem law_at (hsb : sb < b) (H_at : lh_at l D tc b Sim N) {n : Nat} {w : am_W} {i : Int32} {o5 o6 : Option Value} {cells slots : Nat} (hsim : Sim n w) (hle : 4 * n + 5 ≤ N) (h0 : vp_in i Ln) (h1 : vp_in (i + 1) Ln) (h2 : vp_in (i + 2) Ln) (h3 : vp_in (i + 3) Ln) (hc1 : cells + 1 ≤ room_1.cells) (hc2 : slots + 6 ≤ room_1.slots)
    (kk : ∀ (w1 : am_W) (o5 o6 : Option Value) (cells1 slots1 : Nat), Sim (n + 1) w1 → cells1 ≤ cells + 1 → slots1 ≤ slots + 6 → am_RQ lw_tbl vwCl l D tc b RL cL_law 7 (some .boolean) ini room_1 (sc_Q sb Ln xs P Q0) cells1 slots1 571 [some (.retAddr sb), some (.ref 0), some (.ref 12), some (.ref 21), some (.int i), o5, o6] [] w1) :
    am_RQ lw_tbl vwCl l D tc b RL cL_law 7 (some .boolean) ini room_1 (sc_Q sb Ln xs P Q0) cells slots 373 [some (.retAddr sb), some (.ref 0), some (.ref 12), some (.ref 21), some (.int i), o5, o6] [] w := by
  refine am_s am_cls okL_law rfl ?_
  refine sc_ld okL_law rfl rfl ?_
  iterate 3 refine am_s am_cls okL_law rfl ?_
  refine sc_al okL_law rfl rfl hsb h1 ?_
  refine sc_ld okL_law rfl rfl ?_
  iterate 3 refine am_s am_cls okL_law rfl ?_
  refine sc_al okL_law rfl rfl hsb h2 ?_
  refine am_s am_cls okL_law rfl ?_
  obtain ⟨k, vb, w1, w2, f1, f2, q1, hc, hy1, hr, hy2, ht, hq, hk, hs⟩ := H_at n w (xs (i + 1).toNatClampNeg) (xs (i + 2).toNatClampNeg) hsim hle
  refine sc_cW okL_law rfl hc cs_L_73 ml_L_73 cwL_at rfl ⟨rfl, rfl, rfl⟩ ⟨by omega, by omega⟩ ?_
  rintro _ _ ⟨rfl, rfl⟩
  iterate 2 refine am_s am_cls okL_law rfl ?_
  refine sc_ld okL_law rfl rfl ?_
  iterate 3 refine am_s am_cls okL_law rfl ?_
  refine sc_al okL_law rfl rfl hsb h1 ?_
  refine sc_ld okL_law rfl rfl ?_
  iterate 3 refine am_s am_cls okL_law rfl ?_
  refine sc_al okL_law rfl rfl hsb h2 ?_
  refine am_cV okL_law rfl hr cv_L_76 coX5_at rfl hy1 rfl ⟨rfl, rfl, rfl⟩ ⟨by omega, by omega⟩ ?_
  rintro _ _ ⟨rfl, rfl⟩
  iterate 2 refine am_s am_cls okL_law rfl ?_
  refine am_cV okL_law rfl ht cv_L_77 coX5_thrown rfl hy2 rfl ⟨rfl, rfl, rfl⟩ ⟨by omega, by omega⟩ ?_
  rintro _ _ ⟨rfl, rfl⟩
  refine am_s am_cls okL_law rfl ?_
  refine am_b okL_law rfl (fun h_416 => ?_) (fun h_416 => ?_)
  · skip
    refine am_s am_cls okL_law rfl ?_
    refine am_b okL_law rfl (fun h_423 => ?_) (fun h_423 => ?_)
    · skip
      have h_k0 := h_423
      iterate 2 refine am_s am_cls okL_law rfl ?_
      refine sc_ll okL_law rfl rfl hq (vp_in_nI (n := 0) (N := 1) (by decide) (by decide)) ?_
      iterate 2 refine am_s am_cls okL_law rfl ?_
      refine sc_lc okL_law rfl rfl ?_
      refine am_b okL_law rfl (fun h_433 => ?_) (fun h_433 => ?_)
      · skip
        refine am_s am_cls okL_law rfl ?_
        exact kk _ _ _ _ _ hs (by omega) (by omega)
      · exact absurd (sc_cmp0 (hk h_k0)) h_433
    · skip
      refine am_s am_cls okL_law rfl ?_
      exact kk _ _ _ _ _ hs (by omega) (by omega)
  · exact absurd rfl h_416
set_option maxHeartbeats 4000000 in
set_option maxRecDepth 100000 in
theorem law_wrong (hsb : sb < b) (H_wrong : lh_wrong l D tc b Sim N) {n : Nat} {w : am_W} {i : Int32} {o5 o6 : Option Value} {cells slots : Nat} (hsim : Sim n w) (hle : 4 * n + 5 ≤ N) (h0 : vp_in i Ln) (h1 : vp_in (i + 1) Ln) (h2 : vp_in (i + 2) Ln) (h3 : vp_in (i + 3) Ln) (hc1 : cells + 1 ≤ room_1.cells) (hc2 : slots + 6 ≤ room_1.slots)
    (kk : ∀ (w1 : am_W) (o5 o6 : Option Value) (cells1 slots1 : Nat), Sim (n + 1) w1 → cells1 ≤ cells + 1 → slots1 ≤ slots + 6 → am_RQ lw_tbl vwCl l D tc b RL cL_law 7 (some .boolean) ini room_1 (sc_Q sb Ln xs P Q0) cells1 slots1 571 [some (.retAddr sb), some (.ref 0), some (.ref 12), some (.ref 21), some (.int i), o5, o6] [] w1) :
    am_RQ lw_tbl vwCl l D tc b RL cL_law 7 (some .boolean) ini room_1 (sc_Q sb Ln xs P Q0) cells slots 441 [some (.retAddr sb), some (.ref 0), some (.ref 12), some (.ref 21), some (.int i), o5, o6] [] w := by
  refine am_s am_cls okL_law rfl ?_
  refine sc_ld okL_law rfl rfl ?_
  iterate 3 refine am_s am_cls okL_law rfl ?_
  refine sc_al okL_law rfl rfl hsb h1 ?_
  obtain ⟨v, v1, w1, w2, f0, f1, hx0, hc, hy1, hr, he, hs⟩ := H_wrong n w (xs (i + 1).toNatClampNeg) hsim hle
  refine am_cV okL_law rfl hc cv_L_80 coX4_wrong rfl hx0 rfl ⟨rfl, rfl, rfl⟩ ⟨by omega, by omega⟩ ?_
  rintro _ _ ⟨rfl, rfl⟩
  iterate 2 refine am_s am_cls okL_law rfl ?_
  refine sc_ld okL_law rfl rfl ?_
  iterate 3 refine am_s am_cls okL_law rfl ?_
  refine sc_al okL_law rfl rfl hsb h1 ?_
  refine am_cV okL_law rfl hr cv_L_83 coX5_wrong rfl hy1 rfl ⟨rfl, rfl, rfl⟩ ⟨by omega, by omega⟩ ?_
  rintro _ _ ⟨rfl, rfl⟩
  iterate 2 refine am_s am_cls okL_law rfl ?_
  exact kk _ _ _ _ _ hs (by omega) (by omega)
set_option maxHeartbeats 4000000 in
set_option maxRecDepth 100000 in
theorem law_poke (hsb : sb < b) (H_poke : lh_poke l D tc b Sim N) {n : Nat} {w : am_W} {i : Int32} {o5 o6 : Option Value} {cells slots : Nat} (hsim : Sim n w) (hle : 4 * n + 5 ≤ N) (h0 : vp_in i Ln) (h1 : vp_in (i + 1) Ln) (h2 : vp_in (i + 2) Ln) (h3 : vp_in (i + 3) Ln) (hc1 : cells + 1 ≤ room_1.cells) (hc2 : slots + 6 ≤ room_1.slots)
    (kk : ∀ (w1 : am_W) (o5 o6 : Option Value) (cells1 slots1 : Nat), Sim (n + 1) w1 → cells1 ≤ cells + 1 → slots1 ≤ slots + 6 → am_RQ lw_tbl vwCl l D tc b RL cL_law 7 (some .boolean) ini room_1 (sc_Q sb Ln xs P Q0) cells1 slots1 571 [some (.retAddr sb), some (.ref 0), some (.ref 12), some (.ref 21), some (.int i), o5, o6] [] w1) :
    am_RQ lw_tbl vwCl l D tc b RL cL_law 7 (some .boolean) ini room_1 (sc_Q sb Ln xs P Q0) cells slots 466 [some (.retAddr sb), some (.ref 0), some (.ref 12), some (.ref 21), some (.int i), o5, o6] [] w := by
  refine am_s am_cls okL_law rfl ?_
  refine sc_ld okL_law rfl rfl ?_
  iterate 3 refine am_s am_cls okL_law rfl ?_
  refine sc_al okL_law rfl rfl hsb h1 ?_
  refine sc_ld okL_law rfl rfl ?_
  iterate 3 refine am_s am_cls okL_law rfl ?_
  refine sc_al okL_law rfl rfl hsb h2 ?_
  refine sc_ld okL_law rfl rfl ?_
  iterate 3 refine am_s am_cls okL_law rfl ?_
  refine sc_al okL_law rfl rfl hsb h3 ?_
  refine am_s am_cls okL_law rfl ?_
  obtain ⟨k, vb, w1, w2, f1, f2, q1, hc, hy1, hr, hy2, ht, hq, hk, hs⟩ := H_poke n w (xs (i + 1).toNatClampNeg) (xs (i + 2).toNatClampNeg) (xs (i + 3).toNatClampNeg) hsim hle
  refine sc_cW okL_law rfl hc cs_L_84 ml_L_84 cwL_poke rfl ⟨rfl, rfl, rfl⟩ ⟨by omega, by omega⟩ ?_
  rintro _ _ ⟨rfl, rfl⟩
  iterate 2 refine am_s am_cls okL_law rfl ?_
  refine sc_ld okL_law rfl rfl ?_
  iterate 3 refine am_s am_cls okL_law rfl ?_
  refine sc_al okL_law rfl rfl hsb h1 ?_
  refine sc_ld okL_law rfl rfl ?_
  iterate 3 refine am_s am_cls okL_law rfl ?_
  refine sc_al okL_law rfl rfl hsb h2 ?_
  refine sc_ld okL_law rfl rfl ?_
  iterate 3 refine am_s am_cls okL_law rfl ?_
  refine sc_al okL_law rfl rfl hsb h3 ?_
  refine am_cV okL_law rfl hr cv_L_87 coX5_poke rfl hy1 rfl ⟨rfl, rfl, rfl⟩ ⟨by omega, by omega⟩ ?_
  rintro _ _ ⟨rfl, rfl⟩
  iterate 2 refine am_s am_cls okL_law rfl ?_
  exact kk _ _ _ _ _ hs (by omega) (by omega)
set_option maxHeartbeats 4000000 in
set_option maxRecDepth 100000 in
theorem law_octet (hsb : sb < b) (H_octet : lh_octet l D tc b Sim N) {n : Nat} {w : am_W} {i : Int32} {o5 o6 : Option Value} {cells slots : Nat} (hsim : Sim n w) (hle : 4 * n + 5 ≤ N) (h0 : vp_in i Ln) (h1 : vp_in (i + 1) Ln) (h2 : vp_in (i + 2) Ln) (h3 : vp_in (i + 3) Ln) (hc1 : cells + 1 ≤ room_1.cells) (hc2 : slots + 6 ≤ room_1.slots)
    (kk : ∀ (w1 : am_W) (o5 o6 : Option Value) (cells1 slots1 : Nat), Sim (n + 1) w1 → cells1 ≤ cells + 1 → slots1 ≤ slots + 6 → am_RQ lw_tbl vwCl l D tc b RL cL_law 7 (some .boolean) ini room_1 (sc_Q sb Ln xs P Q0) cells1 slots1 571 [some (.retAddr sb), some (.ref 0), some (.ref 12), some (.ref 21), some (.int i), o5, o6] [] w1) :
    am_RQ lw_tbl vwCl l D tc b RL cL_law 7 (some .boolean) ini room_1 (sc_Q sb Ln xs P Q0) cells slots 518 [some (.retAddr sb), some (.ref 0), some (.ref 12), some (.ref 21), some (.int i), o5, o6] [] w := by
  refine am_s am_cls okL_law rfl ?_
  refine sc_ld okL_law rfl rfl ?_
  iterate 3 refine am_s am_cls okL_law rfl ?_
  refine sc_al okL_law rfl rfl hsb h1 ?_
  refine sc_ld okL_law rfl rfl ?_
  iterate 3 refine am_s am_cls okL_law rfl ?_
  refine sc_al okL_law rfl rfl hsb h2 ?_
  refine am_s am_cls okL_law rfl ?_
  obtain ⟨k, vb, w1, w2, f1, f2, q1, hc, hy1, hr, hy2, ht, hq, hk, hs⟩ := H_octet n w (xs (i + 1).toNatClampNeg) (xs (i + 2).toNatClampNeg) hsim hle
  refine sc_cW okL_law rfl hc cs_L_88 ml_L_88 cwL_octet rfl ⟨rfl, rfl, rfl⟩ ⟨by omega, by omega⟩ ?_
  rintro _ _ ⟨rfl, rfl⟩
  iterate 2 refine am_s am_cls okL_law rfl ?_
  refine sc_ld okL_law rfl rfl ?_
  iterate 3 refine am_s am_cls okL_law rfl ?_
  refine sc_al okL_law rfl rfl hsb h1 ?_
  refine sc_ld okL_law rfl rfl ?_
  iterate 3 refine am_s am_cls okL_law rfl ?_
  refine sc_al okL_law rfl rfl hsb h2 ?_
  refine am_cV okL_law rfl hr cv_L_90 coX5_octet rfl hy1 rfl ⟨rfl, rfl, rfl⟩ ⟨by omega, by omega⟩ ?_
  rintro _ _ ⟨rfl, rfl⟩
  iterate 2 refine am_s am_cls okL_law rfl ?_
  exact kk _ _ _ _ _ hs (by omega) (by omega)
set_option maxHeartbeats 4000000 in
set_option maxRecDepth 100000 in
theorem law_writes (hsb : sb < b) (H_writes : lh_writes l D tc b Sim N) {n : Nat} {w : am_W} {i : Int32} {o5 o6 : Option Value} {cells slots : Nat} (hsim : Sim n w) (hle : 4 * n + 5 ≤ N) (h0 : vp_in i Ln) (h1 : vp_in (i + 1) Ln) (h2 : vp_in (i + 2) Ln) (h3 : vp_in (i + 3) Ln) (hc1 : cells + 1 ≤ room_1.cells) (hc2 : slots + 6 ≤ room_1.slots)
    (kk : ∀ (w1 : am_W) (o5 o6 : Option Value) (cells1 slots1 : Nat), Sim (n + 1) w1 → cells1 ≤ cells + 1 → slots1 ≤ slots + 6 → am_RQ lw_tbl vwCl l D tc b RL cL_law 7 (some .boolean) ini room_1 (sc_Q sb Ln xs P Q0) cells1 slots1 571 [some (.retAddr sb), some (.ref 0), some (.ref 12), some (.ref 21), some (.int i), o5, o6] [] w1) :
    am_RQ lw_tbl vwCl l D tc b RL cL_law 7 (some .boolean) ini room_1 (sc_Q sb Ln xs P Q0) cells slots 558 [some (.retAddr sb), some (.ref 0), some (.ref 12), some (.ref 21), some (.int i), o5, o6] [] w := by
  refine am_s am_cls okL_law rfl ?_
  obtain ⟨v, v1, w1, w2, f0, f1, hx0, hc, hy1, hr, he, hs⟩ := H_writes n w hsim hle
  refine am_cV okL_law rfl hc cv_L_91 coX4_writes rfl hx0 rfl ⟨rfl, rfl, rfl⟩ ⟨by omega, by omega⟩ ?_
  rintro _ _ ⟨rfl, rfl⟩
  iterate 2 refine am_s am_cls okL_law rfl ?_
  refine am_cV okL_law rfl hr cv_L_94 coX5_writes rfl hy1 rfl ⟨rfl, rfl, rfl⟩ ⟨by omega, by omega⟩ ?_
  rintro _ _ ⟨rfl, rfl⟩
  iterate 2 refine am_s am_cls okL_law rfl ?_
  exact kk _ _ _ _ _ hs (by omega) (by omega)
theorem sc_nI (n : Nat) (h : n < 2147483648) : (Int32.ofNat n).toInt = n := Int32.toInt_ofNat_of_lt h
theorem sc_le {n Ln : Nat} (hL : Ln ≤ 2049) (hn : n ≤ 600) : (Int32.ofNat Ln - 4 < Int32.ofNat (4 * n + 1)) ↔ Ln < 4 * n + 5 := by
  rw [Int32.lt_iff_toInt_lt, Int32.toInt_sub, sc_nI _ (by omega), sc_nI _ (by omega), show (4 : Int32).toInt = 4 from rfl, Int.bmod_def]
  omega
theorem sc_ad {n k : Nat} (hn : n ≤ 600) (hk : k ≤ 4) : Int32.ofNat (4 * n + 1) + Int32.ofNat k = Int32.ofNat (4 * n + 1 + k) := (Int32.ofNat_add (4 * n + 1) k).symm
theorem sc_vp {n k Ln : Nat} (hn : n ≤ 600) (hk : k ≤ 3) (hL : 4 * n + 5 ≤ Ln) (hM : Ln ≤ 2049) : vp_in (Int32.ofNat (4 * n + 1) + Int32.ofNat k) Ln := by
  rw [sc_ad hn (by omega)]
  refine vp_in_nI ?_ ?_ <;> omega
theorem dsw_law : decode cL_law 49 = .ok (.tableswitch 522 0 13 #[71, 96, 149, 162, 187, 212, 249, 262, 287, 324, 392, 417, 469, 509], 71) := by decide +kernel
set_option maxHeartbeats 4000000 in
set_option maxRecDepth 100000 in
theorem law_loop (hsb : sb < b) (hLn : Ln ≤ N) (hN : N ≤ 2049) (hstay : ∀ n w, Sim n w → Sim (n + 1) w) (H_add : lh_add l D tc b Sim N) (H_end : lh_end l D tc b Sim N) (H_sync : lh_sync l D tc b Sim N) (H_merge : lh_merge l D tc b Sim N) (H_drop : lh_drop l D tc b Sim N) (H_cut : lh_cut l D tc b Sim N) (H_start : lh_start l D tc b Sim N) (H_count : lh_count l D tc b Sim N) (H_row : lh_row l D tc b Sim N) (H_at : lh_at l D tc b Sim N) (H_wrong : lh_wrong l D tc b Sim N) (H_poke : lh_poke l D tc b Sim N) (H_octet : lh_octet l D tc b Sim N) (H_writes : lh_writes l D tc b Sim N) {CC SS : Nat} (hC : CC ≤ room_1.cells) (hS : SS ≤ room_1.slots)
    (hend : ∀ (w : am_W) (L : am_O) (cells slots : Nat), cells ≤ CC → slots ≤ SS → am_RQ lw_tbl vwCl l D tc b RL cL_law 7 (some .boolean) ini room_1 (sc_Q sb Ln xs P Q0) cells slots 577 L [] w) :
    ∀ (k n : Nat) (w : am_W) (o5 o6 : Option Value) (cells slots : Nat), Sim n w → n ≤ 600 → Ln < 4 * (n + k) + 5 → cells + k ≤ CC → slots + 6 * k ≤ SS → am_RQ lw_tbl vwCl l D tc b RL cL_law 7 (some .boolean) ini room_1 (sc_Q sb Ln xs P Q0) cells slots 33 [some (.retAddr sb), some (.ref 0), some (.ref 12), some (.ref 21), some (.int (Int32.ofNat (4 * n + 1))), o5, o6] [] w := by
  intro k
  induction k with
  | zero =>
    intro n w o5 o6 cells slots hsim hn hk hc1 hc2
    refine am_s am_cls okL_law rfl ?_
    refine sc_ld okL_law rfl rfl ?_
    refine sc_ln okL_law rfl rfl hsb ?_
    iterate 2 refine am_s am_cls okL_law rfl ?_
    refine am_b okL_law rfl (fun h => ?_) (fun h => ?_)
    · exact hend _ _ _ _ (by omega) (by omega)
    · exact absurd ((sc_le (by omega) hn).mpr (by omega)) h
  | succ k ih =>
    intro n w o5 o6 cells slots hsim hn hk hc1 hc2
    refine am_s am_cls okL_law rfl ?_
    refine sc_ld okL_law rfl rfl ?_
    refine sc_ln okL_law rfl rfl hsb ?_
    iterate 2 refine am_s am_cls okL_law rfl ?_
    refine am_b okL_law rfl (fun h => ?_) (fun h => ?_)
    · exact hend _ _ _ _ (by omega) (by omega)
    have hle : 4 * n + 5 ≤ Ln := Nat.not_lt.mp (fun q => h ((sc_le (by omega) hn).mpr q))
    have i0 : vp_in (Int32.ofNat (4 * n + 1)) Ln := by have := sc_vp (k := 0) hn (by omega) hle (by omega); simpa using this
    have i1 : vp_in (Int32.ofNat (4 * n + 1) + 1) Ln := sc_vp (k := 1) hn (by omega) hle (by omega)
    have i2 : vp_in (Int32.ofNat (4 * n + 1) + 2) Ln := sc_vp (k := 2) hn (by omega) hle (by omega)
    have i3 : vp_in (Int32.ofNat (4 * n + 1) + 3) Ln := sc_vp (k := 3) hn (by omega) hle (by omega)
    have hnx : ∀ (w1 : am_W) (o5 o6 : Option Value) (cells1 slots1 : Nat), Sim (n + 1) w1 → cells1 ≤ cells + 1 → slots1 ≤ slots + 6 → am_RQ lw_tbl vwCl l D tc b RL cL_law 7 (some .boolean) ini room_1 (sc_Q sb Ln xs P Q0) cells1 slots1 571 [some (.retAddr sb), some (.ref 0), some (.ref 12), some (.ref 21), some (.int (Int32.ofNat (4 * n + 1))), o5, o6] [] w1 := by
      intro w1 o5 o6 cells1 slots1 hs1 hc3 hc4
      iterate 2 refine am_s am_cls okL_law rfl ?_
      have := ih (n + 1) w1 o5 o6 cells1 slots1 hs1 (by omega) (by omega) (by omega) (by omega)
      rw [show 4 * (n + 1) + 1 = 4 * n + 1 + 4 by omega, ← sc_ad hn (by omega)] at this
      exact this
    refine sc_ld okL_law rfl rfl ?_
    refine am_s am_cls okL_law rfl ?_
    refine sc_al okL_law rfl rfl hsb i0 ?_
    iterate 2 refine am_s am_cls okL_law rfl ?_
    generalize hv : xs (Int32.ofNat (4 * n + 1)).toNatClampNeg &&& 15 = v
    have dsw : decode cL_law 49 = .ok (.tableswitch 522 0 13 #[71, 96, 149, 162, 187, 212, 249, 262, 287, 324, 392, 417, 469, 509], 71) := dsw_law
    by_cases e0 : v.toInt = 0
    · refine am_si dsw rfl (by omega) (by omega) (off := 71) (by rw [e0]; rfl) (tgt := 120) (by decide) ?_
      exact law_add hsb H_add hsim (by omega) i0 i1 i2 i3 (by omega) (by omega) hnx
    by_cases e1 : v.toInt = 1
    · refine am_si dsw rfl (by omega) (by omega) (off := 96) (by rw [e1]; rfl) (tgt := 145) (by decide) ?_
      exact law_end hsb H_end hsim (by omega) i0 i1 i2 i3 (by omega) (by omega) hnx
    by_cases e2 : v.toInt = 2
    · refine am_si dsw rfl (by omega) (by omega) (off := 149) (by rw [e2]; rfl) (tgt := 198) (by decide) ?_
      exact law_sync hsb H_sync hsim (by omega) i0 i1 i2 i3 (by omega) (by omega) hnx
    by_cases e3 : v.toInt = 3
    · refine am_si dsw rfl (by omega) (by omega) (off := 162) (by rw [e3]; rfl) (tgt := 211) (by decide) ?_
      exact law_merge hsb H_merge hsim (by omega) i0 i1 i2 i3 (by omega) (by omega) hnx
    by_cases e4 : v.toInt = 4
    · refine am_si dsw rfl (by omega) (by omega) (off := 187) (by rw [e4]; rfl) (tgt := 236) (by decide) ?_
      exact law_drop hsb H_drop hsim (by omega) i0 i1 i2 i3 (by omega) (by omega) hnx
    by_cases e5 : v.toInt = 5
    · refine am_si dsw rfl (by omega) (by omega) (off := 212) (by rw [e5]; rfl) (tgt := 261) (by decide) ?_
      exact law_cut hsb H_cut hsim (by omega) i0 i1 i2 i3 (by omega) (by omega) hnx
    by_cases e6 : v.toInt = 6
    · refine am_si dsw rfl (by omega) (by omega) (off := 249) (by rw [e6]; rfl) (tgt := 298) (by decide) ?_
      exact law_start hsb H_start hsim (by omega) i0 i1 i2 i3 (by omega) (by omega) hnx
    by_cases e7 : v.toInt = 7
    · refine am_si dsw rfl (by omega) (by omega) (off := 262) (by rw [e7]; rfl) (tgt := 311) (by decide) ?_
      exact law_count hsb H_count hsim (by omega) i0 i1 i2 i3 (by omega) (by omega) hnx
    by_cases e8 : v.toInt = 8
    · refine am_si dsw rfl (by omega) (by omega) (off := 287) (by rw [e8]; rfl) (tgt := 336) (by decide) ?_
      exact law_row hsb H_row hsim (by omega) i0 i1 i2 i3 (by omega) (by omega) hnx
    by_cases e9 : v.toInt = 9
    · refine am_si dsw rfl (by omega) (by omega) (off := 324) (by rw [e9]; rfl) (tgt := 373) (by decide) ?_
      exact law_at hsb H_at hsim (by omega) i0 i1 i2 i3 (by omega) (by omega) hnx
    by_cases e10 : v.toInt = 10
    · refine am_si dsw rfl (by omega) (by omega) (off := 392) (by rw [e10]; rfl) (tgt := 441) (by decide) ?_
      exact law_wrong hsb H_wrong hsim (by omega) i0 i1 i2 i3 (by omega) (by omega) hnx
    by_cases e11 : v.toInt = 11
    · refine am_si dsw rfl (by omega) (by omega) (off := 417) (by rw [e11]; rfl) (tgt := 466) (by decide) ?_
      exact law_poke hsb H_poke hsim (by omega) i0 i1 i2 i3 (by omega) (by omega) hnx
    by_cases e12 : v.toInt = 12
    · refine am_si dsw rfl (by omega) (by omega) (off := 469) (by rw [e12]; rfl) (tgt := 518) (by decide) ?_
      exact law_octet hsb H_octet hsim (by omega) i0 i1 i2 i3 (by omega) (by omega) hnx
    by_cases e13 : v.toInt = 13
    · refine am_si dsw rfl (by omega) (by omega) (off := 509) (by rw [e13]; rfl) (tgt := 558) (by decide) ?_
      exact law_writes hsb H_writes hsim (by omega) i0 i1 i2 i3 (by omega) (by omega) hnx
    refine am_so dsw rfl (by omega) (tgt := 571) (by decide) ?_
    exact hnx _ _ _ _ _ (hstay n w hsim) (by omega) (by omega)
end LAW2
