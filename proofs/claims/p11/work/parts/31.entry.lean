/-! ===== printed by wip/pd_start.py: the law's entry ===== -/
def sc_v0 (Ln : Nat) (xs : Nat → Int32) : Int32 := if Ln = 0 then 0 else xs 0
section ENT
variable {l : Launch} {D : va_G} {tc : Nat → ClassId} {b : Nat} {ini : am_I} {sb Ln : Nat} {xs : Nat → Int32} {P : Array Value → State → Prop} {Q0 : List Frame → Array Value → State → State → Prop}
set_option maxHeartbeats 4000000 in
set_option maxRecDepth 100000 in
theorem c_cell (hsb : sb < b) (hL : Ln ≤ 2049) (w : am_W) : sc_M lw_tbl vwCl l D tc b sb Ln xs yL_cell cL_cell 2 (some .int) 1 0 0 [.retAddr sb, .int 0] w (am_is (some (.int (sc_v0 Ln xs))) w) := by
  refine sc_m (own := RL) (ini := (false, [])) (L := [some (.retAddr sb), some (.int 0)]) rfl (by decide) rfl rfl (Nat.le_of_ble_eq_true rfl) rfl rfl ?_
  refine am_s am_cls okL_cell rfl ?_
  refine sc_ld okL_cell rfl rfl ?_
  refine sc_ln okL_cell rfl rfl hsb ?_
  refine am_b okL_cell rfl (fun h => ?_) (fun h => ?_)
  · refine am_s am_cls okL_cell rfl ?_
    refine am_up (fun _ _ _ _ h _ => h) ?_
    refine am_ri okL_cell rfl rfl rfl (Nat.le_refl _) (Nat.le_refl _) ?_
    have h0 : Ln = 0 := by
      rw [Int32.le_iff_toInt_le, sc_nI _ (by omega), show (0 : Int32).toInt = 0 from rfl] at h
      omega
    exact ⟨by simp [sc_v0, h0], rfl⟩
  · have h0 : ¬ Ln = 0 := by
      intro q
      subst q
      exact h (by decide)
    refine sc_ld okL_cell rfl rfl ?_
    refine am_s am_cls okL_cell rfl ?_
    refine sc_al okL_cell rfl rfl hsb (vp_in_nI (n := 0) (N := Ln) (by omega) (by omega)) ?_
    refine am_s am_cls okL_cell rfl ?_
    refine am_up (fun _ _ _ _ h _ => h) ?_
    refine am_ri okL_cell rfl rfl rfl (Nat.le_refl _) (Nat.le_refl _) ?_
    exact ⟨by simp only [sc_v0, if_neg h0]; rfl, rfl⟩
/-- both constructors, and what stands behind them -/
def lh_init (l : Launch) (D : va_G) (tc : Nat → ClassId) (b : Nat) (Sim : Nat → am_W → Prop) : Prop := ∀ v : Int32, ∃ w1 w2 : am_W, am_M lw_tbl vwCl l D tc b yX4_init cX4_init 2 none 8 11 6432 [.ref 0, .int v] [.inr (4, [.null, .int 0, .null, .null, .null, .int 0])] (am_is none w1) ∧ w1.length = 12 ∧ am_M lw_tbl vwCl l D tc b yX5_init cX5_init 2 none 8 8 6400 [.ref 12, .int v] (w1 ++ [.inr (5, [.int 0, .int 0, .null, .int 0, .int 0, .int 0, .int 0, .int 0, .int 0, .int 0, .int 0, .null, .int 0, .int 0, .null, .null, .null, .null, .int 0, .null, .null])]) (am_is none w2) ∧ w2.length = 21 ∧ Sim 0 (w2 ++ [.inl (3, 1, .inr (.inl (fun _ => 0)))])
set_option maxHeartbeats 4000000 in
set_option maxRecDepth 100000 in
theorem law_entry {Sim : Nat → am_W → Prop} (hsb : sb < b) (hL : Ln ≤ 2049) (H_init : lh_init l D tc b Sim)
    (kk : ∀ w : am_W, Sim 0 w → am_RQ lw_tbl vwCl l D tc b RL cL_law 7 (some .boolean) ini room_1 (sc_Q sb Ln xs P Q0) 22 12860 33 [some (.retAddr sb), some (.ref 0), some (.ref 12), some (.ref 21), some (.int (Int32.ofNat (4 * 0 + 1))), none, none] [] w) :
    am_RQ lw_tbl vwCl l D tc b RL cL_law 7 (some .boolean) ini room_1 (sc_Q sb Ln xs P Q0) 0 0 0 [some (.retAddr sb), none, none, none, none, none, none] [] [] := by
  obtain ⟨w1, w2, h1, hl1, h2, hl2, hs⟩ := H_init (sc_v0 Ln xs)
  refine am_nw am_cls okL_law rfl nw_L_8 rfl rfl rfl ⟨by decide, by decide⟩ ?_
  simp only [List.nil_append]
  refine am_s am_cls okL_law rfl ?_
  refine sc_ld okL_law rfl rfl ?_
  refine am_s am_cls okL_law rfl ?_
  refine sc_cS okL_law rfl (c_cell hsb hL _) hsb cs_L_22 ml_L_22 coL_cell rfl ⟨rfl, rfl, rfl⟩ ⟨by decide, by decide⟩ ?_
  rintro _ _ ⟨rfl, rfl⟩
  refine am_cI okL_law rfl h1 ci_L_28 coX4_init rfl ⟨rfl, rfl, rfl⟩ ⟨by decide, by decide⟩ ?_
  rintro _ _ ⟨rfl, rfl⟩
  refine am_s am_cls okL_law rfl ?_
  refine am_nw am_cls okL_law rfl nw_L_31 rfl rfl hl1 ⟨by decide, by decide⟩ ?_
  refine am_s am_cls okL_law rfl ?_
  refine sc_ld okL_law rfl rfl ?_
  refine am_s am_cls okL_law rfl ?_
  refine sc_cS okL_law rfl (c_cell hsb hL _) hsb cs_L_22 ml_L_22 coL_cell rfl ⟨rfl, rfl, rfl⟩ ⟨by decide, by decide⟩ ?_
  rintro _ _ ⟨rfl, rfl⟩
  refine am_cI okL_law rfl h2 ci_L_33 coX5_init rfl ⟨rfl, rfl, rfl⟩ ⟨by decide, by decide⟩ ?_
  rintro _ _ ⟨rfl, rfl⟩
  iterate 2 refine am_s am_cls okL_law rfl ?_
  refine am_na okL_law rfl ac_long rfl rfl (by decide) rfl (by decide) rfl hl2 ⟨by decide, by decide⟩ ?_
  iterate 3 refine am_s am_cls okL_law rfl ?_
  exact kk _ hs
end ENT
