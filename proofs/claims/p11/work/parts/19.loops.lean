/-! ===== the loops of PostDisk ===== -/
theorem am_po {Tt : List Cond} {cl : List vw_C} {l : Launch} {D : va_G} {tc : Nat → ClassId} {b : Nat} {own : String} {cc : ByteArray} {nL : Nat} {ret : Option FieldType} {ini : am_I} {R : Room} {mc ms : Nat} {post post' : Option Value → am_W → Prop} {cells slots pc : Nat} {L : am_O} {st : List Value} {w : am_W} (h : ∀ v w', post v w' → post' v w') (k : am_R Tt cl l D tc b own cc nL ret ini R mc ms post cells slots pc L st w) : am_R Tt cl l D tc b own cc nL ret ini R mc ms post' cells slots pc L st w := by
  intro p e s m args below meth c H locs ls C hH hS hL T hT X
  obtain ⟨t, a, o, h1, h2, ⟨v, w', e1, e2, e3⟩, h4⟩ := k p e s m args below meth c H locs ls C hH hS hL T hT X
  exact ⟨t, a, o, h1, h2, ⟨v, w', e1, h v w' e2, e3⟩, h4⟩
theorem am_Mpo {Tt : List Cond} {cl : List vw_C} {l : Launch} {D : va_G} {tc : Nat → ClassId} {b : Nat} {y : MethodName} {cc : ByteArray} {nL : Nat} {ret : Option FieldType} {d mc ms : Nat} {args : List Value} {w : am_W} {post post' : Option Value → am_W → Prop} (h : ∀ v w', post v w' → post' v w') (k : am_M Tt cl l D tc b y cc nL ret d mc ms args w post) : am_M Tt cl l D tc b y cc nL ret d mc ms args w post' := by
  intro p e ha hc hk s m args' below hf happ hpre hx
  obtain ⟨t, o, h1, h2, h3, ⟨v, w', e1, e2, e3⟩, h5⟩ := k p e ha hc hk s m args' below hf happ hpre hx
  exact ⟨t, o, h1, h2, h3, ⟨v, w', e1, h v w' e2, e3⟩, h5⟩
/-- a drop: the sectors and how many stay, behind k rows -/
def dr (f : Nat → Int32) (S ke bf : Int32) (so : Nat → Int32) : Nat → (Nat → Int32) × Int32
  | 0 => (so, 0)
  | k + 1 => bif pd_drp f S (hd_sec (dr f S ke bf so k).1 ke (nI k)) bf then dr f S ke bf so k else (hd_place (dr f S ke bf so k).1 (dr f S ke bf so k).2 (hd_sec (dr f S ke bf so k).1 ke (nI k)), (dr f S ke bf so k).2 + 1)
theorem dr_0 (f : Nat → Int32) (S ke bf : Int32) (so : Nat → Int32) : dr f S ke bf so 0 = (so, 0) := by simp only [dr]
theorem dr_s (f : Nat → Int32) (S ke bf : Int32) (so : Nat → Int32) (k : Nat) : dr f S ke bf so (k + 1) = bif pd_drp f S (hd_sec (dr f S ke bf so k).1 ke (nI k)) bf then dr f S ke bf so k else (hd_place (dr f S ke bf so k).1 (dr f S ke bf so k).2 (hd_sec (dr f S ke bf so k).1 ke (nI k)), (dr f S ke bf so k).2 + 1) := by simp only [dr]
section PD
variable (l : Launch) (D : va_G) (tc : Nat → ClassId) (b : Nat)
set_option maxHeartbeats 4000000 in
set_option maxRecDepth 100000 in
theorem c_drop_l (rest : am_W) (n : Nat) (mr S wr cu te : Int32) (f g : Nat → Int32) (fi : Int32) (so us : Nat → Int32) (ke ge gr : Int32) (co le ma : Nat → Int32) (en : Int32) (bf : Int32) (hn : pd_sz S n) (m : Nat) : ∀ (k : Nat) (z : Option Value), k + m = ke.toNatClampNeg → am_R lw_tbl vwCl l D tc b RX4 cX4_drop 6 (some .int) (false, []) (am_rm 7 0 0) 0 0 (fun v w => ((dr f S ke bf so ke.toNatClampNeg).2 = ke ∧ am_is (some (.int 0)) (.inr (4, [.ref 1, .int mr, .ref 3, .ref 5, .ref 8, .int 0]) :: .inr (2, [.int S, .ref 2, .int wr, .int cu, .int te]) :: .inl (0, n, .inl f) :: .inr (1, [.ref 4, .int fi]) :: .inl (0, 64, .inl g) :: .inr (0, [.ref 6, .ref 7, .int ke, .int ge, .int gr]) :: .inl (1, 50, .inl (dr f S ke bf so ke.toNatClampNeg).1) :: .inl (2, 64, .inl us) :: .inr (3, [.ref 9, .ref 10, .ref 11, .int en]) :: .inl (0, 2040, .inl co) :: .inl (1, 51, .inl le) :: .inl (1, 51, .inl ma) :: rest) v w) ∨ (¬ (dr f S ke bf so ke.toNatClampNeg).2 = ke ∧ ¬ cu = 0 ∧ am_is (some (.int (ke - (dr f S ke bf so ke.toNatClampNeg).2))) (.inr (4, [.ref 1, .int mr, .ref 3, .ref 5, .ref 8, .int 0]) :: .inr (2, [.int S, .ref 2, .int (wr + 1), .int (pd_wc cu), .int te]) :: .inl (0, n, .inl (pd_wf f S ((ge + 1) &&& 1) (hd_fillg (dr f S ke bf so ke.toNatClampNeg).1 (dr f S ke bf so ke.toNatClampNeg).2 (ge + 1) gr g) cu te)) :: .inr (1, [.ref 4, .int (hd_fillf (dr f S ke bf so ke.toNatClampNeg).2)]) :: .inl (0, 64, .inl (hd_fillg (dr f S ke bf so ke.toNatClampNeg).1 (dr f S ke bf so ke.toNatClampNeg).2 (ge + 1) gr g)) :: .inr (0, [.ref 6, .ref 7, .int (dr f S ke bf so ke.toNatClampNeg).2, .int (ge + 1), .int gr]) :: .inl (1, 50, .inl (dr f S ke bf so ke.toNatClampNeg).1) :: .inl (2, 64, .inl us) :: .inr (3, [.ref 9, .ref 10, .ref 11, .int en]) :: .inl (0, 2040, .inl co) :: .inl (1, 51, .inl le) :: .inl (1, 51, .inl ma) :: rest) v w) ∨ (¬ (dr f S ke bf so ke.toNatClampNeg).2 = ke ∧ cu = 0 ∧ am_is (some (.int (-34))) (.inr (4, [.ref 1, .int mr, .ref 3, .ref 5, .ref 8, .int 1]) :: .inr (2, [.int S, .ref 2, .int (wr + 1), .int (pd_wc cu), .int te]) :: .inl (0, n, .inl (pd_wf f S ((ge + 1) &&& 1) (hd_fillg (dr f S ke bf so ke.toNatClampNeg).1 (dr f S ke bf so ke.toNatClampNeg).2 (ge + 1) gr g) cu te)) :: .inr (1, [.ref 4, .int (hd_fillf (dr f S ke bf so ke.toNatClampNeg).2)]) :: .inl (0, 64, .inl (hd_fillg (dr f S ke bf so ke.toNatClampNeg).1 (dr f S ke bf so ke.toNatClampNeg).2 (ge + 1) gr g)) :: .inr (0, [.ref 6, .ref 7, .int (dr f S ke bf so ke.toNatClampNeg).2, .int (ge + 1), .int gr]) :: .inl (1, 50, .inl (dr f S ke bf so ke.toNatClampNeg).1) :: .inl (2, 64, .inl us) :: .inr (3, [.ref 9, .ref 10, .ref 11, .int 0]) :: .inl (0, 2040, .inl (wt_rc co le en)) :: .inl (1, 51, .inl (wt_el (wt_rl le en) 0)) :: .inl (1, 51, .inl ma) :: rest) v w)) 0 0 23 [some (.ref 0), some (.int bf), some (.int ke), some (.int (dr f S ke bf so k).2), some (.int (nI k)), z] [] (.inr (4, [.ref 1, .int mr, .ref 3, .ref 5, .ref 8, .int 0]) :: .inr (2, [.int S, .ref 2, .int wr, .int cu, .int te]) :: .inl (0, n, .inl f) :: .inr (1, [.ref 4, .int fi]) :: .inl (0, 64, .inl g) :: .inr (0, [.ref 6, .ref 7, .int ke, .int ge, .int gr]) :: .inl (1, 50, .inl (dr f S ke bf so k).1) :: .inl (2, 64, .inl us) :: .inr (3, [.ref 9, .ref 10, .ref 11, .int en]) :: .inl (0, 2040, .inl co) :: .inl (1, 51, .inl le) :: .inl (1, 51, .inl ma) :: rest) := by
  induction m with
  | zero =>
    intro k z hk
    have hk : k = ke.toNatClampNeg := by omega
    subst hk
    iterate 2 refine am_s am_cls okX4_drop rfl ?_
    refine am_b okX4_drop rfl (fun h26 => ?_) (fun h26 => ?_)
    · skip
      iterate 2 refine am_s am_cls okX4_drop rfl ?_
      refine am_b okX4_drop rfl (fun h71 => ?_) (fun h71 => ?_)
      · skip
        refine am_s am_cls okX4_drop rfl ?_
        refine am_ri okX4_drop rfl rfl rfl (Nat.le_refl _) (Nat.le_refl _) ?_
        exact Or.inl ⟨h71, rfl, rfl⟩
      · skip
        iterate 5 refine am_s am_cls okX4_drop rfl ?_
        refine am_cV okX4_drop rfl (c_writeHead l D tc b _ _ _ _ _ _ _ _ _ _ _ _ _ _ _ _ _ _ _ _ hn) cv_X4_98 coX4_writeHead rfl rfl rfl ⟨rfl, rfl, rfl⟩ ⟨Nat.le_refl _, Nat.le_refl _⟩ ?_
        rintro _ _ ⟨rfl, rfl⟩
        refine am_b okX4_drop rfl (fun h88 => ?_) (fun h88 => ?_)
        · try replace h88 := pd_b0 h88
          refine am_s am_cls okX4_drop rfl ?_
          refine am_cV okX4_drop rfl (c_lose l D tc b _ _ _ _ _ _ _ _ _ _ _ _ _ _ _ _ _ _ _ _) cv_X4_95 coX4_lose rfl rfl rfl ⟨rfl, rfl, rfl⟩ ⟨Nat.le_refl _, Nat.le_refl _⟩ ?_
          rintro _ _ ⟨rfl, rfl⟩
          refine am_ri okX4_drop rfl rfl rfl (Nat.le_refl _) (Nat.le_refl _) ?_
          exact Or.inr (Or.inr ⟨h71, by simpa using h88, rfl, rfl⟩)
        · try replace h88 := pd_b1 h88
          iterate 4 refine am_s am_cls okX4_drop rfl ?_
          refine am_ri okX4_drop rfl rfl rfl (Nat.le_refl _) (Nat.le_refl _) ?_
          exact Or.inr (Or.inl ⟨h71, by simpa using h88, rfl, rfl⟩)
    · exact absurd (cl_ge (Nat.le_refl _) (cl_b _)) h26
  | succ m ih =>
    intro k z hk
    iterate 2 refine am_s am_cls okX4_drop rfl ?_
    refine am_b okX4_drop rfl (fun h26 => ?_) (fun h26 => ?_)
    · exact absurd h26 (cl_lt (by omega))
    · skip
      iterate 3 refine am_s am_cls okX4_drop rfl ?_
      refine am_cV okX4_drop rfl (c_sectorOf l D tc b _ _ _ _ _ _ _ _ _ _ _ _) cv_X4_108 coX0_sectorOf rfl rfl rfl ⟨rfl, rfl, rfl⟩ ⟨Nat.le_refl _, Nat.le_refl _⟩ ?_
      rintro _ _ ⟨rfl, rfl⟩
      iterate 4 refine am_s am_cls okX4_drop rfl ?_
      refine am_cV okX4_drop rfl (c_isDrop l D tc b _ _ _ _ _ _ _ _ _ _ _ _ _ _ _ _ _ _ _ _ _ _ hn) cv_X4_118 coX4_isDroppable rfl rfl rfl ⟨rfl, rfl, rfl⟩ ⟨Nat.le_refl _, Nat.le_refl _⟩ ?_
      rintro _ _ ⟨rfl, rfl⟩
      refine am_b okX4_drop rfl (fun h47 => ?_) (fun h47 => ?_)
      · try replace h47 := pd_b0 h47
        iterate 4 refine am_s am_cls okX4_drop rfl ?_
        refine am_cV okX4_drop rfl (c_place l D tc b _ _ _ _ _ _ _ _ _ _ _ _ _) cv_X4_122 coX0_place rfl rfl rfl ⟨rfl, rfl, rfl⟩ ⟨Nat.le_refl _, Nat.le_refl _⟩ ?_
        rintro _ _ ⟨rfl, rfl⟩
        iterate 3 refine am_s am_cls okX4_drop rfl ?_
        have r := ih (k + 1) (some (.int (hd_sec (dr f S ke bf so k).1 ke (nI k)))) (by omega)
        rw [dr_s f S ke bf so k, nI_succ k] at r
        simp only [h47, cond_true, cond_false] at r
        exact r
      · try replace h47 := pd_b1 h47
        iterate 2 refine am_s am_cls okX4_drop rfl ?_
        have r := ih (k + 1) (some (.int (hd_sec (dr f S ke bf so k).1 ke (nI k)))) (by omega)
        rw [dr_s f S ke bf so k, nI_succ k] at r
        simp only [h47, cond_true, cond_false] at r
        exact r
set_option maxHeartbeats 4000000 in
set_option maxRecDepth 100000 in
theorem c_drop_u (rest : am_W) (n : Nat) (mr S wr cu te : Int32) (f g : Nat → Int32) (fi : Int32) (so us : Nat → Int32) (ke ge gr : Int32) (co le ma : Nat → Int32) (en : Int32) (bf : Int32) (hn : pd_sz S n) : cM l D tc b yX4_drop cX4_drop 6 (some .int) 7 0 0 [.ref 0, .int bf] (.inr (4, [.ref 1, .int mr, .ref 3, .ref 5, .ref 8, .int 0]) :: .inr (2, [.int S, .ref 2, .int wr, .int cu, .int te]) :: .inl (0, n, .inl f) :: .inr (1, [.ref 4, .int fi]) :: .inl (0, 64, .inl g) :: .inr (0, [.ref 6, .ref 7, .int ke, .int ge, .int gr]) :: .inl (1, 50, .inl so) :: .inl (2, 64, .inl us) :: .inr (3, [.ref 9, .ref 10, .ref 11, .int en]) :: .inl (0, 2040, .inl co) :: .inl (1, 51, .inl le) :: .inl (1, 51, .inl ma) :: rest)
    (fun v w => ((dr f S ke bf so ke.toNatClampNeg).2 = ke ∧ am_is (some (.int 0)) (.inr (4, [.ref 1, .int mr, .ref 3, .ref 5, .ref 8, .int 0]) :: .inr (2, [.int S, .ref 2, .int wr, .int cu, .int te]) :: .inl (0, n, .inl f) :: .inr (1, [.ref 4, .int fi]) :: .inl (0, 64, .inl g) :: .inr (0, [.ref 6, .ref 7, .int ke, .int ge, .int gr]) :: .inl (1, 50, .inl (dr f S ke bf so ke.toNatClampNeg).1) :: .inl (2, 64, .inl us) :: .inr (3, [.ref 9, .ref 10, .ref 11, .int en]) :: .inl (0, 2040, .inl co) :: .inl (1, 51, .inl le) :: .inl (1, 51, .inl ma) :: rest) v w) ∨ (¬ (dr f S ke bf so ke.toNatClampNeg).2 = ke ∧ ¬ cu = 0 ∧ am_is (some (.int (ke - (dr f S ke bf so ke.toNatClampNeg).2))) (.inr (4, [.ref 1, .int mr, .ref 3, .ref 5, .ref 8, .int 0]) :: .inr (2, [.int S, .ref 2, .int (wr + 1), .int (pd_wc cu), .int te]) :: .inl (0, n, .inl (pd_wf f S ((ge + 1) &&& 1) (hd_fillg (dr f S ke bf so ke.toNatClampNeg).1 (dr f S ke bf so ke.toNatClampNeg).2 (ge + 1) gr g) cu te)) :: .inr (1, [.ref 4, .int (hd_fillf (dr f S ke bf so ke.toNatClampNeg).2)]) :: .inl (0, 64, .inl (hd_fillg (dr f S ke bf so ke.toNatClampNeg).1 (dr f S ke bf so ke.toNatClampNeg).2 (ge + 1) gr g)) :: .inr (0, [.ref 6, .ref 7, .int (dr f S ke bf so ke.toNatClampNeg).2, .int (ge + 1), .int gr]) :: .inl (1, 50, .inl (dr f S ke bf so ke.toNatClampNeg).1) :: .inl (2, 64, .inl us) :: .inr (3, [.ref 9, .ref 10, .ref 11, .int en]) :: .inl (0, 2040, .inl co) :: .inl (1, 51, .inl le) :: .inl (1, 51, .inl ma) :: rest) v w) ∨ (¬ (dr f S ke bf so ke.toNatClampNeg).2 = ke ∧ cu = 0 ∧ am_is (some (.int (-34))) (.inr (4, [.ref 1, .int mr, .ref 3, .ref 5, .ref 8, .int 1]) :: .inr (2, [.int S, .ref 2, .int (wr + 1), .int (pd_wc cu), .int te]) :: .inl (0, n, .inl (pd_wf f S ((ge + 1) &&& 1) (hd_fillg (dr f S ke bf so ke.toNatClampNeg).1 (dr f S ke bf so ke.toNatClampNeg).2 (ge + 1) gr g) cu te)) :: .inr (1, [.ref 4, .int (hd_fillf (dr f S ke bf so ke.toNatClampNeg).2)]) :: .inl (0, 64, .inl (hd_fillg (dr f S ke bf so ke.toNatClampNeg).1 (dr f S ke bf so ke.toNatClampNeg).2 (ge + 1) gr g)) :: .inr (0, [.ref 6, .ref 7, .int (dr f S ke bf so ke.toNatClampNeg).2, .int (ge + 1), .int gr]) :: .inl (1, 50, .inl (dr f S ke bf so ke.toNatClampNeg).1) :: .inl (2, 64, .inl us) :: .inr (3, [.ref 9, .ref 10, .ref 11, .int 0]) :: .inl (0, 2040, .inl (wt_rc co le en)) :: .inl (1, 51, .inl (wt_el (wt_rl le en) 0)) :: .inl (1, 51, .inl ma) :: rest) v w)) := by
  refine am_m (own := RX4) (ini := (false, [])) (L := [some (.ref 0), some (.int bf), none, none, none, none]) rfl (by decide) (fun h => absurd h (by decide)) rfl (Nat.le_of_ble_eq_true rfl) rfl rfl ?_
  iterate 2 refine am_s am_cls okX4_drop rfl ?_
  refine am_b okX4_drop rfl (fun h4 => ?_) (fun h4 => ?_)
  · try replace h4 := pd_b0 h4
    iterate 8 refine am_s am_cls okX4_drop rfl ?_
    have r := c_drop_l l D tc b rest n mr S wr cu te f g fi so us ke ge gr co le ma en bf hn ke.toNatClampNeg 0 none (Nat.zero_add _)
    rw [dr_0, nI_0] at r
    exact r
  · exact absurd rfl h4
end PD
/-- a sync from its k-th row on: what comes of it -/
def syP (rest : am_W) (n : Nat) (mr S te ge gr : Int32) (co le ma : Nat → Int32) (en : Int32) : Nat → Nat → (Nat → Int32) × (Nat → Int32) × Int32 × (Nat → Int32) × Int32 × (Nat → Int32) × Int32 × Int32 → Option Value → am_W → Prop
  | 0, _, (so, us, ke, g, _, f, wr, cu) => fun v w => (¬ cu = 0 ∧ am_is (some (.int en)) (.inr (4, [.ref 1, .int mr, .ref 3, .ref 5, .ref 8, .int 0]) :: .inr (2, [.int S, .ref 2, .int (wr + 1), .int (pd_wc cu), .int te]) :: .inl (0, n, .inl (pd_wf f S ((ge + 1) &&& 1) (hd_fillg so ke (ge + 1) (gr + en) g) cu te)) :: .inr (1, [.ref 4, .int (hd_fillf ke)]) :: .inl (0, 64, .inl (hd_fillg so ke (ge + 1) (gr + en) g)) :: .inr (0, [.ref 6, .ref 7, .int ke, .int (ge + 1), .int (gr + en)]) :: .inl (1, 50, .inl so) :: .inl (2, 64, .inl us) :: .inr (3, [.ref 9, .ref 10, .ref 11, .int 0]) :: .inl (0, 2040, .inl (wt_rc co le en)) :: .inl (1, 51, .inl (wt_rl le en)) :: .inl (1, 51, .inl ma) :: rest) v w) ∨ (cu = 0 ∧ am_is (some (.int (-34))) (.inr (4, [.ref 1, .int mr, .ref 3, .ref 5, .ref 8, .int 1]) :: .inr (2, [.int S, .ref 2, .int (wr + 1), .int (pd_wc cu), .int te]) :: .inl (0, n, .inl (pd_wf f S ((ge + 1) &&& 1) (hd_fillg so ke (ge + 1) (gr + en) g) cu te)) :: .inr (1, [.ref 4, .int (hd_fillf ke)]) :: .inl (0, 64, .inl (hd_fillg so ke (ge + 1) (gr + en) g)) :: .inr (0, [.ref 6, .ref 7, .int ke, .int (ge + 1), .int (gr + en)]) :: .inl (1, 50, .inl so) :: .inl (2, 64, .inl us) :: .inr (3, [.ref 9, .ref 10, .ref 11, .int 0]) :: .inl (0, 2040, .inl (wt_rc co le en)) :: .inl (1, 51, .inl (wt_el (wt_rl le en) 0)) :: .inl (1, 51, .inl ma) :: rest) v w)
  | m + 1, k, (so, us, ke, g, fi, f, wr, cu) => fun v w => (cu = 0 ∧ am_is (some (.int (-34))) (.inr (4, [.ref 1, .int mr, .ref 3, .ref 5, .ref 8, .int 1]) :: .inr (2, [.int S, .ref 2, .int (wr + 1), .int (pd_wc cu), .int te]) :: .inl (0, n, .inl (pd_wf f S (hd_lf (hd_us so ke us) S 62 2) (wt_fillg co le ma (nI k) (gr + 1 + nI k) g) cu te)) :: .inr (1, [.ref 4, .int (wt_fillf le (nI k) fi)]) :: .inl (0, 64, .inl (wt_fillg co le ma (nI k) (gr + 1 + nI k) g)) :: .inr (0, [.ref 6, .ref 7, .int (hd_kk ke), .int ge, .int gr]) :: .inl (1, 50, .inl (hd_ks so ke (hd_lf (hd_us so ke us) S 62 2))) :: .inl (2, 64, .inl (hd_us so ke us)) :: .inr (3, [.ref 9, .ref 10, .ref 11, .int 0]) :: .inl (0, 2040, .inl (wt_rc co le en)) :: .inl (1, 51, .inl (wt_el (wt_rl le en) 0)) :: .inl (1, 51, .inl ma) :: rest) v w) ∨ (¬ cu = 0 ∧ syP rest n mr S te ge gr co le ma en m (k + 1) ((hd_ks so ke (hd_lf (hd_us so ke us) S 62 2)), (hd_us so ke us), (hd_kk ke), (wt_fillg co le ma (nI k) (gr + 1 + nI k) g), (wt_fillf le (nI k) fi), (pd_wf f S (hd_lf (hd_us so ke us) S 62 2) (wt_fillg co le ma (nI k) (gr + 1 + nI k) g) cu te), (wr + 1), (pd_wc cu)) v w)
section PD
variable (l : Launch) (D : va_G) (tc : Nat → ClassId) (b : Nat)
set_option maxHeartbeats 4000000 in
set_option maxRecDepth 100000 in
theorem c_sync_l (rest : am_W) (n : Nat) (mr S te ge gr : Int32) (co le ma : Nat → Int32) (en : Int32) (hn : pd_sz S n) (m : Nat) : ∀ (k : Nat) (so us : Nat → Int32) (ke : Int32) (g : Nat → Int32) (fi : Int32) (f : Nat → Int32) (wr cu : Int32) (z : Option Value), k + m = en.toNatClampNeg → am_R lw_tbl vwCl l D tc b RX4 cX4_sync 4 (some .int) (false, []) (am_rm 7 0 0) 0 0 (syP rest n mr S te ge gr co le ma en m k (so, us, ke, g, fi, f, wr, cu)) 0 0 26 [some (.ref 0), some (.int en), some (.int (nI k)), z] [] (.inr (4, [.ref 1, .int mr, .ref 3, .ref 5, .ref 8, .int 0]) :: .inr (2, [.int S, .ref 2, .int wr, .int cu, .int te]) :: .inl (0, n, .inl f) :: .inr (1, [.ref 4, .int fi]) :: .inl (0, 64, .inl g) :: .inr (0, [.ref 6, .ref 7, .int ke, .int ge, .int gr]) :: .inl (1, 50, .inl so) :: .inl (2, 64, .inl us) :: .inr (3, [.ref 9, .ref 10, .ref 11, .int en]) :: .inl (0, 2040, .inl co) :: .inl (1, 51, .inl le) :: .inl (1, 51, .inl ma) :: rest) := by
  induction m with
  | zero =>
    intro k so us ke g fi f wr cu z hk
    have hk : k = en.toNatClampNeg := by omega
    subst hk
    iterate 2 refine am_s am_cls okX4_sync rfl ?_
    refine am_b okX4_sync rfl (fun h28 => ?_) (fun h28 => ?_)
    · skip
      iterate 8 refine am_s am_cls okX4_sync rfl ?_
      refine am_cV okX4_sync rfl (c_writeHead l D tc b _ _ _ _ _ _ _ _ _ _ _ _ _ _ _ _ _ _ _ _ hn) cv_X4_98 coX4_writeHead rfl rfl rfl ⟨rfl, rfl, rfl⟩ ⟨Nat.le_refl _, Nat.le_refl _⟩ ?_
      rintro _ _ ⟨rfl, rfl⟩
      refine am_b okX4_sync rfl (fun h120 => ?_) (fun h120 => ?_)
      · try replace h120 := pd_b0 h120
        refine am_s am_cls okX4_sync rfl ?_
        refine am_cV okX4_sync rfl (c_lose l D tc b _ _ _ _ _ _ _ _ _ _ _ _ _ _ _ _ _ _ _ _) cv_X4_95 coX4_lose rfl rfl rfl ⟨rfl, rfl, rfl⟩ ⟨Nat.le_refl _, Nat.le_refl _⟩ ?_
        rintro _ _ ⟨rfl, rfl⟩
        refine am_ri okX4_sync rfl rfl rfl (Nat.le_refl _) (Nat.le_refl _) ?_
        exact Or.inr ⟨by simpa using h120, rfl, rfl⟩
      · try replace h120 := pd_b1 h120
        iterate 2 refine am_s am_cls okX4_sync rfl ?_
        refine am_cV okX4_sync rfl (c_wrem l D tc b _ _ _ _ _ _ _ _ _ _ _ _ _) cv_X4_102 coX3_removeEnded rfl rfl rfl ⟨rfl, rfl, rfl⟩ ⟨Nat.le_refl _, Nat.le_refl _⟩ ?_
        rintro _ _ ⟨rfl, rfl⟩
        refine am_s am_cls okX4_sync rfl ?_
        refine am_ri okX4_sync rfl rfl rfl (Nat.le_refl _) (Nat.le_refl _) ?_
        exact Or.inl ⟨by simpa using h120, rfl, rfl⟩
    · exact absurd (cl_ge (Nat.le_refl _) (cl_b _)) h28
  | succ m ih =>
    intro k so us ke g fi f wr cu z hk
    iterate 2 refine am_s am_cls okX4_sync rfl ?_
    refine am_b okX4_sync rfl (fun h28 => ?_) (fun h28 => ?_)
    · exact absurd h28 (cl_lt (by omega))
    · skip
      iterate 5 refine am_s am_cls okX4_sync rfl ?_
      refine am_cV okX4_sync rfl (c_least l D tc b _ _ _ _ _ _ _ _ _ _ _ _) cv_X4_80 coX0_leastFree rfl rfl rfl ⟨rfl, rfl, rfl⟩ ⟨Nat.le_refl _, Nat.le_refl _⟩ ?_
      rintro _ _ ⟨rfl, rfl⟩
      iterate 4 refine am_s am_cls okX4_sync rfl ?_
      refine am_cV okX4_sync rfl (c_keep l D tc b _ _ _ _ _ _ _ _ _ _ _ _) cv_X4_84 coX0_keep rfl rfl rfl ⟨rfl, rfl, rfl⟩ ⟨Nat.le_refl _, Nat.le_refl _⟩ ?_
      rintro _ _ ⟨rfl, rfl⟩
      iterate 12 refine am_s am_cls okX4_sync rfl ?_
      refine am_cV okX4_sync rfl (c_wfill l D tc b _ _ _ _ _ _ _ _ _ _ _ _ _ _ _) cv_X4_87 coX3_fill rfl rfl rfl ⟨rfl, rfl, rfl⟩ ⟨Nat.le_refl _, Nat.le_refl _⟩ ?_
      rintro _ _ ⟨rfl, rfl⟩
      iterate 5 refine am_s am_cls okX4_sync rfl ?_
      refine am_cV okX4_sync rfl (c_write l D tc b _ _ _ _ _ _ _ _ _ _ _ hn) cv_X4_91 coX2_write rfl rfl rfl ⟨rfl, rfl, rfl⟩ ⟨Nat.le_refl _, Nat.le_refl _⟩ ?_
      rintro _ _ ⟨rfl, rfl⟩
      refine am_b okX4_sync rfl (fun h89 => ?_) (fun h89 => ?_)
      · try replace h89 := pd_b0 h89
        refine am_s am_cls okX4_sync rfl ?_
        refine am_cV okX4_sync rfl (c_lose l D tc b _ _ _ _ _ _ _ _ _ _ _ _ _ _ _ _ _ _ _ _) cv_X4_95 coX4_lose rfl rfl rfl ⟨rfl, rfl, rfl⟩ ⟨Nat.le_refl _, Nat.le_refl _⟩ ?_
        rintro _ _ ⟨rfl, rfl⟩
        refine am_ri okX4_sync rfl rfl rfl (Nat.le_refl _) (Nat.le_refl _) ?_
        exact Or.inl ⟨by simpa using h89, rfl, rfl⟩
      · try replace h89 := pd_b1 h89
        iterate 2 refine am_s am_cls okX4_sync rfl ?_
        have r := ih (k + 1) (hd_ks so ke (hd_lf (hd_us so ke us) S 62 2)) (hd_us so ke us) (hd_kk ke) (wt_fillg co le ma (nI k) (gr + 1 + nI k) g) (wt_fillf le (nI k) fi) (pd_wf f S (hd_lf (hd_us so ke us) S 62 2) (wt_fillg co le ma (nI k) (gr + 1 + nI k) g) cu te) (wr + 1) (pd_wc cu) (some (.int (hd_lf (hd_us so ke us) S 62 2))) (by omega)
        rw [nI_succ k] at r
        exact am_po (fun v w q => Or.inr ⟨by simpa using h89, q⟩) r
set_option maxHeartbeats 4000000 in
set_option maxRecDepth 100000 in
theorem c_sync_u (rest : am_W) (n : Nat) (mr S wr cu te : Int32) (f g : Nat → Int32) (fi : Int32) (so us : Nat → Int32) (ke ge gr : Int32) (co le ma : Nat → Int32) (en : Int32) (hn : pd_sz S n) : cM l D tc b yX4_sync cX4_sync 4 (some .int) 7 0 0 [.ref 0] (.inr (4, [.ref 1, .int mr, .ref 3, .ref 5, .ref 8, .int 0]) :: .inr (2, [.int S, .ref 2, .int wr, .int cu, .int te]) :: .inl (0, n, .inl f) :: .inr (1, [.ref 4, .int fi]) :: .inl (0, 64, .inl g) :: .inr (0, [.ref 6, .ref 7, .int ke, .int ge, .int gr]) :: .inl (1, 50, .inl so) :: .inl (2, 64, .inl us) :: .inr (3, [.ref 9, .ref 10, .ref 11, .int en]) :: .inl (0, 2040, .inl co) :: .inl (1, 51, .inl le) :: .inl (1, 51, .inl ma) :: rest)
    (fun v w => (en = 0 ∧ am_is (some (.int 0)) (.inr (4, [.ref 1, .int mr, .ref 3, .ref 5, .ref 8, .int 0]) :: .inr (2, [.int S, .ref 2, .int wr, .int cu, .int te]) :: .inl (0, n, .inl f) :: .inr (1, [.ref 4, .int fi]) :: .inl (0, 64, .inl g) :: .inr (0, [.ref 6, .ref 7, .int ke, .int ge, .int gr]) :: .inl (1, 50, .inl so) :: .inl (2, 64, .inl us) :: .inr (3, [.ref 9, .ref 10, .ref 11, .int en]) :: .inl (0, 2040, .inl co) :: .inl (1, 51, .inl le) :: .inl (1, 51, .inl ma) :: rest) v w) ∨ (¬ en = 0 ∧ syP rest n mr S te ge gr co le ma en en.toNatClampNeg 0 (so, us, ke, g, fi, f, wr, cu) v w)) := by
  refine am_m (own := RX4) (ini := (false, [])) (L := [some (.ref 0), none, none, none]) rfl (by decide) (fun h => absurd h (by decide)) rfl (Nat.le_of_ble_eq_true rfl) rfl rfl ?_
  iterate 2 refine am_s am_cls okX4_sync rfl ?_
  refine am_b okX4_sync rfl (fun h4 => ?_) (fun h4 => ?_)
  · try replace h4 := pd_b0 h4
    iterate 5 refine am_s am_cls okX4_sync rfl ?_
    refine am_b okX4_sync rfl (fun h19 => ?_) (fun h19 => ?_)
    · try replace h19 := pd_b0 h19
      refine am_s am_cls okX4_sync rfl ?_
      refine am_ri okX4_sync rfl rfl rfl (Nat.le_refl _) (Nat.le_refl _) ?_
      exact Or.inl ⟨h19, rfl, rfl⟩
    · try replace h19 := pd_b1 h19
      iterate 2 refine am_s am_cls okX4_sync rfl ?_
      have r := c_sync_l l D tc b rest n mr S te ge gr co le ma en hn en.toNatClampNeg 0 so us ke g fi f wr cu none (Nat.zero_add _)
      rw [nI_0] at r
      exact am_po (fun v w q => Or.inr ⟨h19, q⟩) r
  · exact absurd rfl h4
end PD
/-- a merge from its k-th move on -/
def mgP (rest : am_W) (n : Nat) (mr S te ke gr : Int32) (co le ma : Nat → Int32) (en : Int32) : Nat → Nat → (Nat → Int32) × (Nat → Int32) × Int32 × (Nat → Int32) × (Nat → Int32) × Int32 × Int32 × Int32 → Option Value → am_W → Prop
  | 0, k, (so, us, ge, f, g, fi, wr, cu) => am_is (some (.int (nI k))) (.inr (4, [.ref 1, .int mr, .ref 3, .ref 5, .ref 8, .int 0]) :: .inr (2, [.int S, .ref 2, .int wr, .int cu, .int te]) :: .inl (0, n, .inl f) :: .inr (1, [.ref 4, .int fi]) :: .inl (0, 64, .inl g) :: .inr (0, [.ref 6, .ref 7, .int ke, .int ge, .int gr]) :: .inl (1, 50, .inl so) :: .inl (2, 64, .inl us) :: .inr (3, [.ref 9, .ref 10, .ref 11, .int en]) :: .inl (0, 2040, .inl co) :: .inl (1, 51, .inl le) :: .inl (1, 51, .inl ma) :: rest)
  | m + 1, k, (so, us, ge, f, g, fi, wr, cu) => fun v w => ((hd_lf (hd_us so ke us) (hd_sec so ke (hd_lb so ke ke.toNatClampNeg)) 62 2) = -1 ∧ am_is (some (.int (nI k))) (.inr (4, [.ref 1, .int mr, .ref 3, .ref 5, .ref 8, .int 0]) :: .inr (2, [.int S, .ref 2, .int wr, .int cu, .int te]) :: .inl (0, n, .inl f) :: .inr (1, [.ref 4, .int fi]) :: .inl (0, 64, .inl g) :: .inr (0, [.ref 6, .ref 7, .int ke, .int ge, .int gr]) :: .inl (1, 50, .inl so) :: .inl (2, 64, .inl (hd_us so ke us)) :: .inr (3, [.ref 9, .ref 10, .ref 11, .int en]) :: .inl (0, 2040, .inl co) :: .inl (1, 51, .inl le) :: .inl (1, 51, .inl ma) :: rest) v w) ∨ (¬ (hd_lf (hd_us so ke us) (hd_sec so ke (hd_lb so ke ke.toNatClampNeg)) 62 2) = -1 ∧ cu = 0 ∧ am_is (some (.int (-34))) (.inr (4, [.ref 1, .int mr, .ref 3, .ref 5, .ref 8, .int 1]) :: .inr (2, [.int S, .ref 2, .int (wr + 1), .int (pd_wc cu), .int te]) :: .inl (0, n, .inl (pd_wf f S (hd_lf (hd_us so ke us) (hd_sec so ke (hd_lb so ke ke.toNatClampNeg)) 62 2) (im_cp f S (hd_sec so ke (hd_lb so ke ke.toNatClampNeg)) g 64) cu te)) :: .inr (1, [.ref 4, .int fi]) :: .inl (0, 64, .inl (im_cp f S (hd_sec so ke (hd_lb so ke ke.toNatClampNeg)) g 64)) :: .inr (0, [.ref 6, .ref 7, .int ke, .int ge, .int gr]) :: .inl (1, 50, .inl so) :: .inl (2, 64, .inl (hd_us so ke us)) :: .inr (3, [.ref 9, .ref 10, .ref 11, .int 0]) :: .inl (0, 2040, .inl (wt_rc co le en)) :: .inl (1, 51, .inl (wt_el (wt_rl le en) 0)) :: .inl (1, 51, .inl ma) :: rest) v w) ∨ (¬ (hd_lf (hd_us so ke us) (hd_sec so ke (hd_lb so ke ke.toNatClampNeg)) 62 2) = -1 ∧ ¬ cu = 0 ∧ pd_wc cu = 0 ∧ am_is (some (.int (-34))) (.inr (4, [.ref 1, .int mr, .ref 3, .ref 5, .ref 8, .int 1]) :: .inr (2, [.int S, .ref 2, .int (wr + 1 + 1), .int (pd_wc (pd_wc cu)), .int te]) :: .inl (0, n, .inl (pd_wf (pd_wf f S (hd_lf (hd_us so ke us) (hd_sec so ke (hd_lb so ke ke.toNatClampNeg)) 62 2) (im_cp f S (hd_sec so ke (hd_lb so ke ke.toNatClampNeg)) g 64) cu te) S ((ge + 1) &&& 1) (hd_fillg (hd_place so (hd_lb so ke ke.toNatClampNeg) (hd_lf (hd_us so ke us) (hd_sec so ke (hd_lb so ke ke.toNatClampNeg)) 62 2)) ke (ge + 1) gr (im_cp f S (hd_sec so ke (hd_lb so ke ke.toNatClampNeg)) g 64)) (pd_wc cu) te)) :: .inr (1, [.ref 4, .int (hd_fillf ke)]) :: .inl (0, 64, .inl (hd_fillg (hd_place so (hd_lb so ke ke.toNatClampNeg) (hd_lf (hd_us so ke us) (hd_sec so ke (hd_lb so ke ke.toNatClampNeg)) 62 2)) ke (ge + 1) gr (im_cp f S (hd_sec so ke (hd_lb so ke ke.toNatClampNeg)) g 64))) :: .inr (0, [.ref 6, .ref 7, .int ke, .int (ge + 1), .int gr]) :: .inl (1, 50, .inl (hd_place so (hd_lb so ke ke.toNatClampNeg) (hd_lf (hd_us so ke us) (hd_sec so ke (hd_lb so ke ke.toNatClampNeg)) 62 2))) :: .inl (2, 64, .inl (hd_us so ke us)) :: .inr (3, [.ref 9, .ref 10, .ref 11, .int 0]) :: .inl (0, 2040, .inl (wt_rc co le en)) :: .inl (1, 51, .inl (wt_el (wt_rl le en) 0)) :: .inl (1, 51, .inl ma) :: rest) v w) ∨ (¬ (hd_lf (hd_us so ke us) (hd_sec so ke (hd_lb so ke ke.toNatClampNeg)) 62 2) = -1 ∧ ¬ cu = 0 ∧ ¬ pd_wc cu = 0 ∧ mgP rest n mr S te ke gr co le ma en m (k + 1) ((hd_place so (hd_lb so ke ke.toNatClampNeg) (hd_lf (hd_us so ke us) (hd_sec so ke (hd_lb so ke ke.toNatClampNeg)) 62 2)), (hd_us so ke us), (ge + 1), (pd_wf (pd_wf f S (hd_lf (hd_us so ke us) (hd_sec so ke (hd_lb so ke ke.toNatClampNeg)) 62 2) (im_cp f S (hd_sec so ke (hd_lb so ke ke.toNatClampNeg)) g 64) cu te) S ((ge + 1) &&& 1) (hd_fillg (hd_place so (hd_lb so ke ke.toNatClampNeg) (hd_lf (hd_us so ke us) (hd_sec so ke (hd_lb so ke ke.toNatClampNeg)) 62 2)) ke (ge + 1) gr (im_cp f S (hd_sec so ke (hd_lb so ke ke.toNatClampNeg)) g 64)) (pd_wc cu) te), (hd_fillg (hd_place so (hd_lb so ke ke.toNatClampNeg) (hd_lf (hd_us so ke us) (hd_sec so ke (hd_lb so ke ke.toNatClampNeg)) 62 2)) ke (ge + 1) gr (im_cp f S (hd_sec so ke (hd_lb so ke ke.toNatClampNeg)) g 64)), (hd_fillf ke), (wr + 1 + 1), (pd_wc (pd_wc cu))) v w)
section PD
variable (l : Launch) (D : va_G) (tc : Nat → ClassId) (b : Nat)
set_option maxHeartbeats 4000000 in
set_option maxRecDepth 100000 in
theorem c_merge_l (rest : am_W) (n : Nat) (mr S te ke gr : Int32) (co le ma : Nat → Int32) (en x : Int32) (hn : pd_sz S n) (m : Nat) : ∀ (k : Nat) (so us : Nat → Int32) (ge : Int32) (f g : Nat → Int32) (fi wr cu : Int32) (z1 z2 z3 : Option Value), k + m = x.toNatClampNeg → am_R lw_tbl vwCl l D tc b RX4 cX4_merge 6 (some .int) (false, []) (am_rm 7 0 0) 0 0 (mgP rest n mr S te ke gr co le ma en m k (so, us, ge, f, g, fi, wr, cu)) 0 0 38 [some (.ref 0), some (.int x), some (.int (nI k)), z1, z2, z3] [] (.inr (4, [.ref 1, .int mr, .ref 3, .ref 5, .ref 8, .int 0]) :: .inr (2, [.int S, .ref 2, .int wr, .int cu, .int te]) :: .inl (0, n, .inl f) :: .inr (1, [.ref 4, .int fi]) :: .inl (0, 64, .inl g) :: .inr (0, [.ref 6, .ref 7, .int ke, .int ge, .int gr]) :: .inl (1, 50, .inl so) :: .inl (2, 64, .inl us) :: .inr (3, [.ref 9, .ref 10, .ref 11, .int en]) :: .inl (0, 2040, .inl co) :: .inl (1, 51, .inl le) :: .inl (1, 51, .inl ma) :: rest) := by
  induction m with
  | zero =>
    intro k so us ge f g fi wr cu z1 z2 z3 hk
    have hk : k = x.toNatClampNeg := by omega
    subst hk
    iterate 2 refine am_s am_cls okX4_merge rfl ?_
    refine am_b okX4_merge rfl (fun h40 => ?_) (fun h40 => ?_)
    · skip
      refine am_s am_cls okX4_merge rfl ?_
      refine am_ri okX4_merge rfl rfl rfl (Nat.le_refl _) (Nat.le_refl _) ?_
      exact ⟨rfl, rfl⟩
    · exact absurd (cl_ge (Nat.le_refl _) (cl_b _)) h40
  | succ m ih =>
    intro k so us ge f g fi wr cu z1 z2 z3 hk
    iterate 2 refine am_s am_cls okX4_merge rfl ?_
    refine am_b okX4_merge rfl (fun h40 => ?_) (fun h40 => ?_)
    · exact absurd h40 (cl_lt (by omega))
    · skip
      iterate 2 refine am_s am_cls okX4_merge rfl ?_
      refine am_cV okX4_merge rfl (c_last l D tc b _ _ _ _ _ _ _ _ _ _ _) cv_X4_105 coX0_lastBySector rfl rfl rfl ⟨rfl, rfl, rfl⟩ ⟨Nat.le_refl _, Nat.le_refl _⟩ ?_
      rintro _ _ ⟨rfl, rfl⟩
      iterate 4 refine am_s am_cls okX4_merge rfl ?_
      refine am_cV okX4_merge rfl (c_sectorOf l D tc b _ _ _ _ _ _ _ _ _ _ _ _) cv_X4_108 coX0_sectorOf rfl rfl rfl ⟨rfl, rfl, rfl⟩ ⟨Nat.le_refl _, Nat.le_refl _⟩ ?_
      rintro _ _ ⟨rfl, rfl⟩
      iterate 4 refine am_s am_cls okX4_merge rfl ?_
      refine am_cV okX4_merge rfl (c_least l D tc b _ _ _ _ _ _ _ _ _ _ _ _) cv_X4_80 coX0_leastFree rfl rfl rfl ⟨rfl, rfl, rfl⟩ ⟨Nat.le_refl _, Nat.le_refl _⟩ ?_
      rintro _ _ ⟨rfl, rfl⟩
      iterate 3 refine am_s am_cls okX4_merge rfl ?_
      refine am_b okX4_merge rfl (fun h75 => ?_) (fun h75 => ?_)
      · skip
        iterate 2 refine am_s am_cls okX4_merge rfl ?_
        refine am_ri okX4_merge rfl rfl rfl (Nat.le_refl _) (Nat.le_refl _) ?_
        exact Or.inl ⟨h75, rfl, rfl⟩
      · skip
        iterate 4 refine am_s am_cls okX4_merge rfl ?_
        refine am_cV okX4_merge rfl (c_move l D tc b _ _ _ _ _ _ _ _ _ _ _ _ _ _ _ _ _ _ _ _ _ _ _ hn) cv_X4_111 coX4_move rfl rfl rfl ⟨rfl, rfl, rfl⟩ ⟨Nat.le_refl _, Nat.le_refl _⟩ ?_
        rintro _ _ (⟨hc, rfl, rfl⟩ | ⟨hc, rfl, rfl⟩)
        · skip
          refine am_b okX4_merge rfl (fun h90 => ?_) (fun h90 => ?_)
          · try replace h90 := pd_b0 h90
            refine am_s am_cls okX4_merge rfl ?_
            refine am_cV okX4_merge rfl (c_lose l D tc b _ _ _ _ _ _ _ _ _ _ _ _ _ _ _ _ _ _ _ _) cv_X4_95 coX4_lose rfl rfl rfl ⟨rfl, rfl, rfl⟩ ⟨Nat.le_refl _, Nat.le_refl _⟩ ?_
            rintro _ _ ⟨rfl, rfl⟩
            refine am_ri okX4_merge rfl rfl rfl (Nat.le_refl _) (Nat.le_refl _) ?_
            exact Or.inr (Or.inl ⟨h75, hc, rfl, rfl⟩)
          · exact absurd rfl h90
        · skip
          refine am_b okX4_merge rfl (fun h90 => ?_) (fun h90 => ?_)
          · try replace h90 := pd_b0 h90
            refine am_s am_cls okX4_merge rfl ?_
            refine am_cV okX4_merge rfl (c_lose l D tc b _ _ _ _ _ _ _ _ _ _ _ _ _ _ _ _ _ _ _ _) cv_X4_95 coX4_lose rfl rfl rfl ⟨rfl, rfl, rfl⟩ ⟨Nat.le_refl _, Nat.le_refl _⟩ ?_
            rintro _ _ ⟨rfl, rfl⟩
            refine am_ri okX4_merge rfl rfl rfl (Nat.le_refl _) (Nat.le_refl _) ?_
            exact Or.inr (Or.inr (Or.inl ⟨h75, hc, by simpa using h90, rfl, rfl⟩))
          · try replace h90 := pd_b1 h90
            iterate 2 refine am_s am_cls okX4_merge rfl ?_
            have r := ih (k + 1) (hd_place so (hd_lb so ke ke.toNatClampNeg) (hd_lf (hd_us so ke us) (hd_sec so ke (hd_lb so ke ke.toNatClampNeg)) 62 2)) (hd_us so ke us) (ge + 1) (pd_wf (pd_wf f S (hd_lf (hd_us so ke us) (hd_sec so ke (hd_lb so ke ke.toNatClampNeg)) 62 2) (im_cp f S (hd_sec so ke (hd_lb so ke ke.toNatClampNeg)) g 64) cu te) S ((ge + 1) &&& 1) (hd_fillg (hd_place so (hd_lb so ke ke.toNatClampNeg) (hd_lf (hd_us so ke us) (hd_sec so ke (hd_lb so ke ke.toNatClampNeg)) 62 2)) ke (ge + 1) gr (im_cp f S (hd_sec so ke (hd_lb so ke ke.toNatClampNeg)) g 64)) (pd_wc cu) te) (hd_fillg (hd_place so (hd_lb so ke ke.toNatClampNeg) (hd_lf (hd_us so ke us) (hd_sec so ke (hd_lb so ke ke.toNatClampNeg)) 62 2)) ke (ge + 1) gr (im_cp f S (hd_sec so ke (hd_lb so ke ke.toNatClampNeg)) g 64)) (hd_fillf ke) (wr + 1 + 1) (pd_wc (pd_wc cu)) (some (.int (hd_lb so ke ke.toNatClampNeg))) (some (.int (hd_sec so ke (hd_lb so ke ke.toNatClampNeg)))) (some (.int (hd_lf (hd_us so ke us) (hd_sec so ke (hd_lb so ke ke.toNatClampNeg)) 62 2))) (by omega)
            rw [nI_succ k] at r
            exact am_po (fun v w q => Or.inr (Or.inr (Or.inr ⟨h75, hc, by simpa using h90, q⟩))) r
set_option maxHeartbeats 4000000 in
set_option maxRecDepth 100000 in
theorem c_merge_u (rest : am_W) (n : Nat) (mr S wr cu te : Int32) (f g : Nat → Int32) (fi : Int32) (so us : Nat → Int32) (ke ge gr : Int32) (co le ma : Nat → Int32) (en : Int32) (x : Int32) (hn : pd_sz S n) : cM l D tc b yX4_merge cX4_merge 6 (some .int) 7 0 0 [.ref 0, .int x] (.inr (4, [.ref 1, .int mr, .ref 3, .ref 5, .ref 8, .int 0]) :: .inr (2, [.int S, .ref 2, .int wr, .int cu, .int te]) :: .inl (0, n, .inl f) :: .inr (1, [.ref 4, .int fi]) :: .inl (0, 64, .inl g) :: .inr (0, [.ref 6, .ref 7, .int ke, .int ge, .int gr]) :: .inl (1, 50, .inl so) :: .inl (2, 64, .inl us) :: .inr (3, [.ref 9, .ref 10, .ref 11, .int en]) :: .inl (0, 2040, .inl co) :: .inl (1, 51, .inl le) :: .inl (1, 51, .inl ma) :: rest)
    (fun v w => ((x < 0 ∨ ¬ x ≤ 100) ∧ am_is (some (.int (-12))) (.inr (4, [.ref 1, .int mr, .ref 3, .ref 5, .ref 8, .int 0]) :: .inr (2, [.int S, .ref 2, .int wr, .int cu, .int te]) :: .inl (0, n, .inl f) :: .inr (1, [.ref 4, .int fi]) :: .inl (0, 64, .inl g) :: .inr (0, [.ref 6, .ref 7, .int ke, .int ge, .int gr]) :: .inl (1, 50, .inl so) :: .inl (2, 64, .inl us) :: .inr (3, [.ref 9, .ref 10, .ref 11, .int en]) :: .inl (0, 2040, .inl co) :: .inl (1, 51, .inl le) :: .inl (1, 51, .inl ma) :: rest) v w) ∨ ((¬ x < 0 ∧ x ≤ 100 ∧ ¬ en ≤ 0) ∧ am_is (some (.int (-13))) (.inr (4, [.ref 1, .int mr, .ref 3, .ref 5, .ref 8, .int 0]) :: .inr (2, [.int S, .ref 2, .int wr, .int cu, .int te]) :: .inl (0, n, .inl f) :: .inr (1, [.ref 4, .int fi]) :: .inl (0, 64, .inl g) :: .inr (0, [.ref 6, .ref 7, .int ke, .int ge, .int gr]) :: .inl (1, 50, .inl so) :: .inl (2, 64, .inl us) :: .inr (3, [.ref 9, .ref 10, .ref 11, .int en]) :: .inl (0, 2040, .inl co) :: .inl (1, 51, .inl le) :: .inl (1, 51, .inl ma) :: rest) v w) ∨ ((¬ x < 0 ∧ x ≤ 100 ∧ en ≤ 0) ∧ mgP rest n mr S te ke gr co le ma en x.toNatClampNeg 0 (so, us, ge, f, g, fi, wr, cu) v w)) := by
  refine am_m (own := RX4) (ini := (false, [])) (L := [some (.ref 0), some (.int x), none, none, none, none]) rfl (by decide) (fun h => absurd h (by decide)) rfl (Nat.le_of_ble_eq_true rfl) rfl rfl ?_
  iterate 2 refine am_s am_cls okX4_merge rfl ?_
  refine am_b okX4_merge rfl (fun h4 => ?_) (fun h4 => ?_)
  · try replace h4 := pd_b0 h4
    refine am_s am_cls okX4_merge rfl ?_
    refine am_b okX4_merge rfl (fun h11 => ?_) (fun h11 => ?_)
    · skip
      refine am_s am_cls okX4_merge rfl ?_
      refine am_ri okX4_merge rfl rfl rfl (Nat.le_refl _) (Nat.le_refl _) ?_
      exact Or.inl ⟨Or.inl h11, rfl, rfl⟩
    · skip
      iterate 2 refine am_s am_cls okX4_merge rfl ?_
      refine am_b okX4_merge rfl (fun h17 => ?_) (fun h17 => ?_)
      · skip
        iterate 3 refine am_s am_cls okX4_merge rfl ?_
        refine am_b okX4_merge rfl (fun h30 => ?_) (fun h30 => ?_)
        · skip
          iterate 2 refine am_s am_cls okX4_merge rfl ?_
          have r := c_merge_l l D tc b rest n mr S te ke gr co le ma en x hn x.toNatClampNeg 0 so us ge f g fi wr cu none none none (Nat.zero_add _)
          rw [nI_0] at r
          exact am_po (fun v w q => Or.inr (Or.inr ⟨⟨h11, h17, h30⟩, q⟩)) r
        · skip
          refine am_s am_cls okX4_merge rfl ?_
          refine am_ri okX4_merge rfl rfl rfl (Nat.le_refl _) (Nat.le_refl _) ?_
          exact Or.inr (Or.inl ⟨⟨h11, h17, h30⟩, rfl, rfl⟩)
      · skip
        refine am_s am_cls okX4_merge rfl ?_
        refine am_ri okX4_merge rfl rfl rfl (Nat.le_refl _) (Nat.le_refl _) ?_
        exact Or.inl ⟨Or.inr h17, rfl, rfl⟩
  · exact absurd rfl h4
end PD
