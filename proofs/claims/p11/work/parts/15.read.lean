section PD
variable (l : Launch) (D : va_G) (tc : Nat → ClassId) (b : Nat)
-- READ
set_option maxHeartbeats 4000000 in
set_option maxRecDepth 100000 in
theorem c_read (c0 c3 c4 : am_E) (rest : am_W) (n : Nat) (f : Nat → Int32) (S wr cu te : Int32) (so us : Nat → Int32) (ke ge gr : Int32) (hn : pd_sz S n) : cM l D tc b yX0_read cX0_read 4 none 6 0 0 [.ref 5, .ref 1] (c0 :: .inr (2, [.int S, .ref 2, .int wr, .int cu, .int te]) :: .inl (0, n, .inl f) :: c3 :: c4 :: .inr (0, [.ref 6, .ref 7, .int ke, .int ge, .int gr]) :: .inl (1, 50, .inl so) :: .inl (2, 64, .inl us) :: rest)
    (am_is none (c0 :: .inr (2, [.int S, .ref 2, .int wr, .int cu, .int te]) :: .inl (0, n, .inl f) :: c3 :: c4 :: .inr (0, [.ref 6, .ref 7, .int (rd_ke (hd_pick f S) f S), .int (rd_ge (hd_pick f S) f S), .int (rd_gr (hd_pick f S) f S)]) :: .inl (1, 50, .inl (rd_so (hd_pick f S) f S so)) :: .inl (2, 64, .inl us) :: rest)) := by
  refine am_m (own := RX0) (ini := (false, [])) (L := [some (.ref 5), some (.ref 1), none, none]) rfl (by decide) (fun h => absurd h (by decide)) rfl (Nat.le_of_ble_eq_true rfl) rfl rfl ?_
  iterate 11 refine am_s am_cls okX0_read rfl ?_
  refine am_cV okX0_read rfl (c_isHead l D tc b _ _ _ _ _ _ _ _ _ hn) cv_X0_55 coX2_isHead rfl rfl rfl ⟨rfl, rfl, rfl⟩ ⟨Nat.le_refl _, Nat.le_refl _⟩ ?_
  rintro _ _ ⟨rfl, rfl⟩
  iterate 3 refine am_s am_cls okX0_read rfl ?_
  refine am_cV okX0_read rfl (c_isHead l D tc b _ _ _ _ _ _ _ _ _ hn) cv_X0_55 coX2_isHead rfl rfl rfl ⟨rfl, rfl, rfl⟩ ⟨Nat.le_refl _, Nat.le_refl _⟩ ?_
  rintro _ _ ⟨rfl, rfl⟩
  iterate 2 refine am_s am_cls okX0_read rfl ?_
  refine am_b okX0_read rfl (fun h28 => ?_) (fun h28 => ?_)
  · try replace h28 := pd_b0 h28
    refine am_s am_cls okX0_read rfl ?_
    refine am_b okX0_read rfl (fun h55 => ?_) (fun h55 => ?_)
    · try replace h55 := pd_b0 h55
      refine am_s am_cls okX0_read rfl ?_
      refine am_b okX0_read rfl (fun h59 => ?_) (fun h59 => ?_)
      · try replace h59 := pd_b0 h59
        refine am_rv okX0_read rfl rfl rfl (Nat.le_refl _) (Nat.le_refl _) ?_
        have hp : hd_pick f S = none := by simp only [hd_pick, h28, h59, Bool.and_true, Bool.and_false, Bool.false_and, Bool.true_and, cond_true, cond_false, decide_true, decide_false]
        refine ⟨rfl, ?_⟩
        rw [hp]
        rfl
      · try replace h59 := pd_b1 h59
        iterate 3 refine am_s am_cls okX0_read rfl ?_
        refine am_b okX0_read rfl (fun h65 => ?_) (fun h65 => ?_)
        · exact absurd (h59.symm.trans (pd_b0 h65)) (by decide)
        · try replace h65 := pd_b1 h65
          iterate 2 refine am_s am_cls okX0_read rfl ?_
          refine am_cV okX0_read rfl (c_rfrom l D tc b _ _ _ _ _ _ _ _ _ _ _ _ _ _ _ _ hn) cv_X0_65 coX0_readFrom rfl rfl rfl ⟨rfl, rfl, rfl⟩ ⟨Nat.le_refl _, Nat.le_refl _⟩ ?_
          rintro _ _ ⟨rfl, rfl⟩
          refine am_rv okX0_read rfl rfl rfl (Nat.le_refl _) (Nat.le_refl _) ?_
          have hp : hd_pick f S = some 1 := by simp only [hd_pick, h28, h59, Bool.and_true, Bool.and_false, Bool.false_and, Bool.true_and, cond_true, cond_false, decide_true, decide_false]
          refine ⟨rfl, ?_⟩
          rw [hp]
          rfl
    · exact absurd (h28.symm.trans (pd_b1 h55)) (by decide)
  · try replace h28 := pd_b1 h28
    refine am_s am_cls okX0_read rfl ?_
    refine am_b okX0_read rfl (fun h32 => ?_) (fun h32 => ?_)
    · try replace h32 := pd_b0 h32
      refine am_s am_cls okX0_read rfl ?_
      refine am_b okX0_read rfl (fun h55 => ?_) (fun h55 => ?_)
      · exact absurd (h28.symm.trans (pd_b0 h55)) (by decide)
      · try replace h55 := pd_b1 h55
        iterate 3 refine am_s am_cls okX0_read rfl ?_
        refine am_b okX0_read rfl (fun h65 => ?_) (fun h65 => ?_)
        · try replace h65 := pd_b0 h65
          refine am_s am_cls okX0_read rfl ?_
          refine am_cV okX0_read rfl (c_rfrom l D tc b _ _ _ _ _ _ _ _ _ _ _ _ _ _ _ _ hn) cv_X0_65 coX0_readFrom rfl rfl rfl ⟨rfl, rfl, rfl⟩ ⟨Nat.le_refl _, Nat.le_refl _⟩ ?_
          rintro _ _ ⟨rfl, rfl⟩
          refine am_rv okX0_read rfl rfl rfl (Nat.le_refl _) (Nat.le_refl _) ?_
          have hp : hd_pick f S = some 0 := by simp only [hd_pick, h28, h32, Bool.and_true, Bool.and_false, Bool.false_and, Bool.true_and, cond_true, cond_false, decide_true, decide_false]
          refine ⟨rfl, ?_⟩
          rw [hp]
          rfl
        · exact absurd (h32.symm.trans (pd_b1 h65)) (by decide)
    · try replace h32 := pd_b1 h32
      iterate 2 refine am_s am_cls okX0_read rfl ?_
      refine am_cS okX0_read rfl (c_genIn l D tc b _ _ _ _ _ _ _ _ _ hn) cs_X0_61 coX0_generationIn rfl ⟨rfl, rfl, rfl⟩ ⟨Nat.le_refl _, Nat.le_refl _⟩ ?_
      rintro _ _ ⟨rfl, rfl⟩
      iterate 2 refine am_s am_cls okX0_read rfl ?_
      refine am_cS okX0_read rfl (c_genIn l D tc b _ _ _ _ _ _ _ _ _ hn) cs_X0_61 coX0_generationIn rfl ⟨rfl, rfl, rfl⟩ ⟨Nat.le_refl _, Nat.le_refl _⟩ ?_
      rintro _ _ ⟨rfl, rfl⟩
      refine am_b okX0_read rfl (fun h45 => ?_) (fun h45 => ?_)
      · skip
        iterate 3 refine am_s am_cls okX0_read rfl ?_
        refine am_b okX0_read rfl (fun h55 => ?_) (fun h55 => ?_)
        · exact absurd (h28.symm.trans (pd_b0 h55)) (by decide)
        · try replace h55 := pd_b1 h55
          iterate 3 refine am_s am_cls okX0_read rfl ?_
          refine am_b okX0_read rfl (fun h65 => ?_) (fun h65 => ?_)
          · try replace h65 := pd_b0 h65
            refine am_s am_cls okX0_read rfl ?_
            refine am_cV okX0_read rfl (c_rfrom l D tc b _ _ _ _ _ _ _ _ _ _ _ _ _ _ _ _ hn) cv_X0_65 coX0_readFrom rfl rfl rfl ⟨rfl, rfl, rfl⟩ ⟨Nat.le_refl _, Nat.le_refl _⟩ ?_
            rintro _ _ ⟨rfl, rfl⟩
            refine am_rv okX0_read rfl rfl rfl (Nat.le_refl _) (Nat.le_refl _) ?_
            have hp : hd_pick f S = some 0 := by simp only [hd_pick, h28, h32, h45, Bool.and_true, Bool.and_false, Bool.false_and, Bool.true_and, cond_true, cond_false, decide_true, decide_false]
            refine ⟨rfl, ?_⟩
            rw [hp]
            rfl
          · exact absurd rfl h65
      · skip
        iterate 4 refine am_s am_cls okX0_read rfl ?_
        refine am_b okX0_read rfl (fun h55 => ?_) (fun h55 => ?_)
        · exact absurd (h28.symm.trans (pd_b0 h55)) (by decide)
        · try replace h55 := pd_b1 h55
          iterate 3 refine am_s am_cls okX0_read rfl ?_
          refine am_b okX0_read rfl (fun h65 => ?_) (fun h65 => ?_)
          · exact absurd h65 (by decide)
          · try replace h65 := pd_b1 h65
            iterate 2 refine am_s am_cls okX0_read rfl ?_
            refine am_cV okX0_read rfl (c_rfrom l D tc b _ _ _ _ _ _ _ _ _ _ _ _ _ _ _ _ hn) cv_X0_65 coX0_readFrom rfl rfl rfl ⟨rfl, rfl, rfl⟩ ⟨Nat.le_refl _, Nat.le_refl _⟩ ?_
            rintro _ _ ⟨rfl, rfl⟩
            refine am_rv okX0_read rfl rfl rfl (Nat.le_refl _) (Nat.le_refl _) ?_
            have hp : hd_pick f S = some 1 := by simp only [hd_pick, h28, h32, h45, Bool.and_true, Bool.and_false, Bool.false_and, Bool.true_and, cond_true, cond_false, decide_true, decide_false]
            refine ⟨rfl, ?_⟩
            rw [hp]
            rfl
end PD
