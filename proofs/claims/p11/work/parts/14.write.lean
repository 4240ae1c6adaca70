section PD
variable (l : Launch) (D : va_G) (tc : Nat → ClassId) (b : Nat)
set_option maxHeartbeats 4000000 in
set_option maxRecDepth 100000 in
theorem c_setCut (c0 : am_E) (rest : am_W) (n : Nat) (f : Nat → Int32) (S wr cu te a c : Int32)  : cM l D tc b yX2_setCut cX2_setCut 3 none 1 0 0 [.ref 1, .int a, .int c] (c0 :: .inr (2, [.int S, .ref 2, .int wr, .int cu, .int te]) :: .inl (0, n, .inl f) :: rest)
    (am_is none (c0 :: .inr (2, [.int S, .ref 2, .int wr, .int a, .int c]) :: .inl (0, n, .inl f) :: rest)) := by
  refine am_m (own := RX2) (ini := (false, [])) (L := [some (.ref 1), some (.int a), some (.int c)]) rfl (by decide) (fun h => absurd h (by decide)) rfl (Nat.le_of_ble_eq_true rfl) rfl rfl ?_
  iterate 6 refine am_s am_cls okX2_setCut rfl ?_
  refine am_rv okX2_setCut rfl rfl rfl (Nat.le_refl _) (Nat.le_refl _) ?_
  exact ⟨rfl, rfl⟩
set_option maxHeartbeats 4000000 in
set_option maxRecDepth 100000 in
theorem c_write_l (c0 : am_E) (rest : am_W) (n : Nat) (f : Nat → Int32) (S wr cu te s : Int32) (g : Nat → Int32) (fi : Int32) (x y : Int32) (hn : pd_sz S n) (hx : x = 0 ∨ x = 1) (m : Nat) : ∀ (k : Nat), k + m = y.toNatClampNeg → am_R lw_tbl vwCl l D tc b RX2 cX2_write 6 (some .boolean) (false, []) (am_rm 3 0 0) 0 0 (am_is (some (.int x)) (c0 :: .inr (2, [.int S, .ref 2, .int (wr + 1), .int (pd_wc cu), .int te]) :: .inl (0, n, .inl (pd_wr f S s g y.toNatClampNeg)) :: .inr (1, [.ref 4, .int fi]) :: .inl (0, 64, .inl g) :: rest)) 0 0 31 [some (.ref 1), some (.int s), some (.ref 3), some (.int x), some (.int y), some (.int (nI k))] [] (c0 :: .inr (2, [.int S, .ref 2, .int wr, .int cu, .int te]) :: .inl (0, n, .inl (pd_wr f S s g k)) :: .inr (1, [.ref 4, .int fi]) :: .inl (0, 64, .inl g) :: rest) := by
  induction m with
  | zero =>
    intro k hk
    have hk : k = y.toNatClampNeg := by omega
    subst hk
    iterate 2 refine am_s am_cls okX2_write rfl ?_
    refine am_b okX2_write rfl (fun h35 => ?_) (fun h35 => ?_)
    · skip
      iterate 9 refine am_s am_cls okX2_write rfl ?_
      refine am_b okX2_write rfl (fun h72 => ?_) (fun h72 => ?_)
      · skip
        refine am_s am_cls okX2_write rfl ?_
        refine am_rz okX2_write rfl rfl rfl hx (Nat.le_refl _) (Nat.le_refl _) ?_
        exact ⟨rfl, by simp [pd_wc, *]⟩
      · skip
        iterate 7 refine am_s am_cls okX2_write rfl ?_
        refine am_rz okX2_write rfl rfl rfl hx (Nat.le_refl _) (Nat.le_refl _) ?_
        exact ⟨rfl, by simp [pd_wc, *]⟩
    · exact absurd (cl_ge (Nat.le_refl _) (cl_b _)) h35
  | succ m ih =>
    intro k hk
    iterate 2 refine am_s am_cls okX2_write rfl ?_
    refine am_b okX2_write rfl (fun h35 => ?_) (fun h35 => ?_)
    · exact absurd h35 (cl_lt (by omega))
    · skip
      iterate 5 refine am_s am_cls okX2_write rfl ?_
      refine am_cV okX2_write rfl (c_ilook l D tc b _ _ _ _ _ _ _) cv_X2_54 coX1_look rfl rfl rfl ⟨rfl, rfl, rfl⟩ ⟨Nat.le_refl _, Nat.le_refl _⟩ ?_
      rintro _ _ ⟨rfl, rfl⟩
      refine am_cV okX2_write rfl (c_pset l D tc b _ _ _ _ _ _ _ _ _ _ _ hn) cv_X2_59 coX2_set rfl rfl rfl ⟨rfl, rfl, rfl⟩ ⟨Nat.le_refl _, Nat.le_refl _⟩ ?_
      rintro _ _ ⟨rfl, rfl⟩
      iterate 2 refine am_s am_cls okX2_write rfl ?_
      have r := ih (k + 1) (by omega)
      rw [pd_wr_s f S s g k, nI_succ k] at r
      exact r
set_option maxHeartbeats 4000000 in
set_option maxRecDepth 100000 in
theorem c_write (c0 : am_E) (rest : am_W) (n : Nat) (f : Nat → Int32) (S wr cu te s : Int32) (g : Nat → Int32) (fi : Int32) (hn : pd_sz S n) : cM l D tc b yX2_write cX2_write 6 (some .boolean) 3 0 0 [.ref 1, .int s, .ref 3] (c0 :: .inr (2, [.int S, .ref 2, .int wr, .int cu, .int te]) :: .inl (0, n, .inl f) :: .inr (1, [.ref 4, .int fi]) :: .inl (0, 64, .inl g) :: rest)
    (am_is (some (.int (pd_b (!decide (cu = 0))))) (c0 :: .inr (2, [.int S, .ref 2, .int (wr + 1), .int (pd_wc cu), .int te]) :: .inl (0, n, .inl (pd_wf f S s g cu te)) :: .inr (1, [.ref 4, .int fi]) :: .inl (0, 64, .inl g) :: rest)) := by
  refine am_m (own := RX2) (ini := (false, [])) (L := [some (.ref 1), some (.int s), some (.ref 3), none, none, none]) rfl (by decide) (fun h => absurd h (by decide)) rfl (Nat.le_of_ble_eq_true rfl) rfl rfl ?_
  iterate 2 refine am_s am_cls okX2_write rfl ?_
  refine am_b okX2_write rfl (fun h4 => ?_) (fun h4 => ?_)
  · try replace h4 := pd_b0 h4
    iterate 3 refine am_s am_cls okX2_write rfl ?_
    refine am_b okX2_write rfl (fun h14 => ?_) (fun h14 => ?_)
    · try replace h14 := pd_b0 h14
      iterate 5 refine am_s am_cls okX2_write rfl ?_
      have r := c_write_l l D tc b c0 rest n f S wr cu te s g fi 0 te hn (by decide) (te : Int32).toNatClampNeg 0 (Nat.zero_add _)
      rw [pd_wr_0, nI_0] at r
      rw [show pd_wf f S s g cu te = pd_wr f S s g (te : Int32).toNatClampNeg from by simp only [pd_wf, h4, decide_true, cond_true, Bool.not_true], show pd_b (!decide (cu = 0)) = 0 from by simp only [h4, decide_true, cond_true, Bool.not_true]; rfl]
      exact r
    · exact absurd rfl h14
  · try replace h4 := pd_b1 h4
    iterate 4 refine am_s am_cls okX2_write rfl ?_
    refine am_b okX2_write rfl (fun h14 => ?_) (fun h14 => ?_)
    · exact absurd h14 (by decide)
    · try replace h14 := pd_b1 h14
      iterate 5 refine am_s am_cls okX2_write rfl ?_
      have r := c_write_l l D tc b c0 rest n f S wr cu te s g fi 1 64 hn (by decide) (64 : Int32).toNatClampNeg 0 (Nat.zero_add _)
      rw [pd_wr_0, nI_0] at r
      rw [show pd_wf f S s g cu te = pd_wr f S s g (64 : Int32).toNatClampNeg from by simp only [pd_wf, h4, decide_false, cond_false, Bool.not_false], show pd_b (!decide (cu = 0)) = 1 from by simp only [h4, decide_false, cond_false, Bool.not_false]; rfl]
      exact r
end PD
