/-! ===== PostDisk ===== -/
def pd_room (ke en mr ev : Int32) : Bool := bif decide (ev = 0) then !decide (mr ≤ ke + en + 4) else !decide (mr ≤ ke + en)
def pd_drp (f : Nat → Int32) (S s bf : Int32) : Bool := pd_row f S s && !pd_event f S s && !decide (bf ≤ pd_four f S s 1)
section PD
variable (l : Launch) (D : va_G) (tc : Nat → ClassId) (b : Nat)
set_option maxHeartbeats 4000000 in
set_option maxRecDepth 100000 in
theorem c_hasRoom (rest : am_W) (n : Nat) (mr dn S wr cu te : Int32) (f g : Nat → Int32) (fi : Int32) (so us : Nat → Int32) (ke ge gr : Int32) (co le ma : Nat → Int32) (en : Int32) (ev : Int32)  : cM l D tc b yX4_hasRoom cX4_hasRoom 3 (some .boolean) 1 0 0 [.ref 0, .int ev] (.inr (4, [.ref 1, .int mr, .ref 3, .ref 5, .ref 8, .int dn]) :: .inr (2, [.int S, .ref 2, .int wr, .int cu, .int te]) :: .inl (0, n, .inl f) :: .inr (1, [.ref 4, .int fi]) :: .inl (0, 64, .inl g) :: .inr (0, [.ref 6, .ref 7, .int ke, .int ge, .int gr]) :: .inl (1, 50, .inl so) :: .inl (2, 64, .inl us) :: .inr (3, [.ref 9, .ref 10, .ref 11, .int en]) :: .inl (0, 2040, .inl co) :: .inl (1, 51, .inl le) :: .inl (1, 51, .inl ma) :: rest)
    (am_is (some (.int (pd_b (pd_room ke en mr ev)))) (.inr (4, [.ref 1, .int mr, .ref 3, .ref 5, .ref 8, .int dn]) :: .inr (2, [.int S, .ref 2, .int wr, .int cu, .int te]) :: .inl (0, n, .inl f) :: .inr (1, [.ref 4, .int fi]) :: .inl (0, 64, .inl g) :: .inr (0, [.ref 6, .ref 7, .int ke, .int ge, .int gr]) :: .inl (1, 50, .inl so) :: .inl (2, 64, .inl us) :: .inr (3, [.ref 9, .ref 10, .ref 11, .int en]) :: .inl (0, 2040, .inl co) :: .inl (1, 51, .inl le) :: .inl (1, 51, .inl ma) :: rest)) := by
  refine am_m (own := RX4) (ini := (false, [])) (L := [some (.ref 0), some (.int ev), none]) rfl (by decide) (fun h => absurd h (by decide)) rfl (Nat.le_of_ble_eq_true rfl) rfl rfl ?_
  iterate 9 refine am_s am_cls okX4_hasRoom rfl ?_
  refine am_b okX4_hasRoom rfl (fun h17 => ?_) (fun h17 => ?_)
  · try replace h17 := pd_b0 h17
    iterate 5 refine am_s am_cls okX4_hasRoom rfl ?_
    refine am_b okX4_hasRoom rfl (fun h31 => ?_) (fun h31 => ?_)
    · skip
      refine am_s am_cls okX4_hasRoom rfl ?_
      refine am_rz okX4_hasRoom rfl rfl rfl (by decide) (Nat.le_refl _) (Nat.le_refl _) ?_
      exact ⟨by simp [pd_room, pd_bt, pd_bf, *], rfl⟩
    · skip
      iterate 2 refine am_s am_cls okX4_hasRoom rfl ?_
      refine am_rz okX4_hasRoom rfl rfl rfl (by decide) (Nat.le_refl _) (Nat.le_refl _) ?_
      exact ⟨by simp [pd_room, pd_bt, pd_bf, *], rfl⟩
  · try replace h17 := pd_b1 h17
    iterate 4 refine am_s am_cls okX4_hasRoom rfl ?_
    refine am_b okX4_hasRoom rfl (fun h31 => ?_) (fun h31 => ?_)
    · skip
      refine am_s am_cls okX4_hasRoom rfl ?_
      refine am_rz okX4_hasRoom rfl rfl rfl (by decide) (Nat.le_refl _) (Nat.le_refl _) ?_
      exact ⟨by simp [pd_room, pd_bt, pd_bf, *], rfl⟩
    · skip
      iterate 2 refine am_s am_cls okX4_hasRoom rfl ?_
      refine am_rz okX4_hasRoom rfl rfl rfl (by decide) (Nat.le_refl _) (Nat.le_refl _) ?_
      exact ⟨by simp [pd_room, pd_bt, pd_bf, *], rfl⟩
set_option maxHeartbeats 4000000 in
set_option maxRecDepth 100000 in
theorem c_isDrop (rest : am_W) (n : Nat) (mr dn S wr cu te : Int32) (f g : Nat → Int32) (fi : Int32) (so us : Nat → Int32) (ke ge gr : Int32) (co le ma : Nat → Int32) (en : Int32) (s bf : Int32) (hn : pd_sz S n) : cM l D tc b yX4_isDroppable cX4_isDroppable 3 (some .boolean) 6 0 0 [.ref 0, .int s, .int bf] (.inr (4, [.ref 1, .int mr, .ref 3, .ref 5, .ref 8, .int dn]) :: .inr (2, [.int S, .ref 2, .int wr, .int cu, .int te]) :: .inl (0, n, .inl f) :: .inr (1, [.ref 4, .int fi]) :: .inl (0, 64, .inl g) :: .inr (0, [.ref 6, .ref 7, .int ke, .int ge, .int gr]) :: .inl (1, 50, .inl so) :: .inl (2, 64, .inl us) :: .inr (3, [.ref 9, .ref 10, .ref 11, .int en]) :: .inl (0, 2040, .inl co) :: .inl (1, 51, .inl le) :: .inl (1, 51, .inl ma) :: rest)
    (am_is (some (.int (pd_b (pd_drp f S s bf)))) (.inr (4, [.ref 1, .int mr, .ref 3, .ref 5, .ref 8, .int dn]) :: .inr (2, [.int S, .ref 2, .int wr, .int cu, .int te]) :: .inl (0, n, .inl f) :: .inr (1, [.ref 4, .int fi]) :: .inl (0, 64, .inl g) :: .inr (0, [.ref 6, .ref 7, .int ke, .int ge, .int gr]) :: .inl (1, 50, .inl so) :: .inl (2, 64, .inl us) :: .inr (3, [.ref 9, .ref 10, .ref 11, .int en]) :: .inl (0, 2040, .inl co) :: .inl (1, 51, .inl le) :: .inl (1, 51, .inl ma) :: rest)) := by
  refine am_m (own := RX4) (ini := (false, [])) (L := [some (.ref 0), some (.int s), some (.int bf)]) rfl (by decide) (fun h => absurd h (by decide)) rfl (Nat.le_of_ble_eq_true rfl) rfl rfl ?_
  iterate 3 refine am_s am_cls okX4_isDroppable rfl ?_
  refine am_cV okX4_isDroppable rfl (c_isRow l D tc b _ _ _ _ _ _ _ _ _ hn) cv_X4_136 coX2_isRow rfl rfl rfl ⟨rfl, rfl, rfl⟩ ⟨Nat.le_refl _, Nat.le_refl _⟩ ?_
  rintro _ _ ⟨rfl, rfl⟩
  refine am_b okX4_isDroppable rfl (fun h8 => ?_) (fun h8 => ?_)
  · try replace h8 := pd_b0 h8
    refine am_s am_cls okX4_isDroppable rfl ?_
    refine am_rz okX4_isDroppable rfl rfl rfl (by decide) (Nat.le_refl _) (Nat.le_refl _) ?_
    exact ⟨by simp [pd_drp, pd_bt, pd_bf, *], rfl⟩
  · try replace h8 := pd_b1 h8
    iterate 3 refine am_s am_cls okX4_isDroppable rfl ?_
    refine am_cV okX4_isDroppable rfl (c_isEvent l D tc b _ _ _ _ _ _ _ _ _ hn) cv_X4_148 coX2_isEvent rfl rfl rfl ⟨rfl, rfl, rfl⟩ ⟨Nat.le_refl _, Nat.le_refl _⟩ ?_
    rintro _ _ ⟨rfl, rfl⟩
    refine am_b okX4_isDroppable rfl (fun h19 => ?_) (fun h19 => ?_)
    · try replace h19 := pd_b0 h19
      iterate 4 refine am_s am_cls okX4_isDroppable rfl ?_
      refine am_cV okX4_isDroppable rfl (c_four l D tc b _ _ _ _ _ _ _ _ _ _ hn) cv_X4_139 coX2_fourBytes rfl rfl rfl ⟨rfl, rfl, rfl⟩ ⟨Nat.le_refl _, Nat.le_refl _⟩ ?_
      rintro _ _ ⟨rfl, rfl⟩
      refine am_s am_cls okX4_isDroppable rfl ?_
      refine am_b okX4_isDroppable rfl (fun h32 => ?_) (fun h32 => ?_)
      · skip
        refine am_s am_cls okX4_isDroppable rfl ?_
        refine am_rz okX4_isDroppable rfl rfl rfl (by decide) (Nat.le_refl _) (Nat.le_refl _) ?_
        exact ⟨by simp [pd_drp, pd_bt, pd_bf, *], rfl⟩
      · skip
        iterate 2 refine am_s am_cls okX4_isDroppable rfl ?_
        refine am_rz okX4_isDroppable rfl rfl rfl (by decide) (Nat.le_refl _) (Nat.le_refl _) ?_
        exact ⟨by simp [pd_drp, pd_bt, pd_bf, *], rfl⟩
    · try replace h19 := pd_b1 h19
      refine am_s am_cls okX4_isDroppable rfl ?_
      refine am_rz okX4_isDroppable rfl rfl rfl (by decide) (Nat.le_refl _) (Nat.le_refl _) ?_
      exact ⟨by simp [pd_drp, pd_bt, pd_bf, *], rfl⟩
set_option maxHeartbeats 4000000 in
set_option maxRecDepth 100000 in
theorem c_writeHead (rest : am_W) (n : Nat) (mr dn S wr cu te : Int32) (f g : Nat → Int32) (fi : Int32) (so us : Nat → Int32) (ke ge gr : Int32) (co le ma : Nat → Int32) (en : Int32) (hn : pd_sz S n) : cM l D tc b yX4_writeHead cX4_writeHead 1 (some .boolean) 5 0 0 [.ref 0] (.inr (4, [.ref 1, .int mr, .ref 3, .ref 5, .ref 8, .int dn]) :: .inr (2, [.int S, .ref 2, .int wr, .int cu, .int te]) :: .inl (0, n, .inl f) :: .inr (1, [.ref 4, .int fi]) :: .inl (0, 64, .inl g) :: .inr (0, [.ref 6, .ref 7, .int ke, .int ge, .int gr]) :: .inl (1, 50, .inl so) :: .inl (2, 64, .inl us) :: .inr (3, [.ref 9, .ref 10, .ref 11, .int en]) :: .inl (0, 2040, .inl co) :: .inl (1, 51, .inl le) :: .inl (1, 51, .inl ma) :: rest)
    (am_is (some (.int (pd_b (!decide (cu = 0))))) (.inr (4, [.ref 1, .int mr, .ref 3, .ref 5, .ref 8, .int dn]) :: .inr (2, [.int S, .ref 2, .int (wr + 1), .int (pd_wc cu), .int te]) :: .inl (0, n, .inl (pd_wf f S ((ge + 1) &&& 1) (hd_fillg so ke (ge + 1) gr g) cu te)) :: .inr (1, [.ref 4, .int (hd_fillf ke)]) :: .inl (0, 64, .inl (hd_fillg so ke (ge + 1) gr g)) :: .inr (0, [.ref 6, .ref 7, .int ke, .int (ge + 1), .int gr]) :: .inl (1, 50, .inl so) :: .inl (2, 64, .inl us) :: .inr (3, [.ref 9, .ref 10, .ref 11, .int en]) :: .inl (0, 2040, .inl co) :: .inl (1, 51, .inl le) :: .inl (1, 51, .inl ma) :: rest)) := by
  refine am_m (own := RX4) (ini := (false, [])) (L := [some (.ref 0)]) rfl (by decide) (fun h => absurd h (by decide)) rfl (Nat.le_of_ble_eq_true rfl) rfl rfl ?_
  iterate 11 refine am_s am_cls okX4_writeHead rfl ?_
  refine am_cV okX4_writeHead rfl (c_hfill l D tc b _ _ _ _ _ _ _ _ _ _ _) cv_X4_176 coX0_fill rfl rfl rfl ⟨rfl, rfl, rfl⟩ ⟨Nat.le_refl _, Nat.le_refl _⟩ ?_
  rintro _ _ ⟨rfl, rfl⟩
  iterate 9 refine am_s am_cls okX4_writeHead rfl ?_
  refine am_cV okX4_writeHead rfl (c_write l D tc b _ _ _ _ _ _ _ _ _ _ _ hn) cv_X4_91 coX2_write rfl rfl rfl ⟨rfl, rfl, rfl⟩ ⟨Nat.le_refl _, Nat.le_refl _⟩ ?_
  rintro _ _ ⟨rfl, rfl⟩
  refine am_rz okX4_writeHead rfl rfl rfl (pd_b_01 _) (Nat.le_refl _) (Nat.le_refl _) ?_
  exact ⟨rfl, rfl⟩
set_option maxHeartbeats 4000000 in
set_option maxRecDepth 100000 in
theorem c_lose (rest : am_W) (n : Nat) (mr dn S wr cu te : Int32) (f g : Nat → Int32) (fi : Int32) (so us : Nat → Int32) (ke ge gr : Int32) (co le ma : Nat → Int32) (en : Int32)  : cM l D tc b yX4_lose cX4_lose 1 (some .int) 4 0 0 [.ref 0] (.inr (4, [.ref 1, .int mr, .ref 3, .ref 5, .ref 8, .int dn]) :: .inr (2, [.int S, .ref 2, .int wr, .int cu, .int te]) :: .inl (0, n, .inl f) :: .inr (1, [.ref 4, .int fi]) :: .inl (0, 64, .inl g) :: .inr (0, [.ref 6, .ref 7, .int ke, .int ge, .int gr]) :: .inl (1, 50, .inl so) :: .inl (2, 64, .inl us) :: .inr (3, [.ref 9, .ref 10, .ref 11, .int en]) :: .inl (0, 2040, .inl co) :: .inl (1, 51, .inl le) :: .inl (1, 51, .inl ma) :: rest)
    (am_is (some (.int (-34))) (.inr (4, [.ref 1, .int mr, .ref 3, .ref 5, .ref 8, .int 1]) :: .inr (2, [.int S, .ref 2, .int wr, .int cu, .int te]) :: .inl (0, n, .inl f) :: .inr (1, [.ref 4, .int fi]) :: .inl (0, 64, .inl g) :: .inr (0, [.ref 6, .ref 7, .int ke, .int ge, .int gr]) :: .inl (1, 50, .inl so) :: .inl (2, 64, .inl us) :: .inr (3, [.ref 9, .ref 10, .ref 11, .int 0]) :: .inl (0, 2040, .inl (wt_rc co le en)) :: .inl (1, 51, .inl (wt_el (wt_rl le en) 0)) :: .inl (1, 51, .inl ma) :: rest)) := by
  refine am_m (own := RX4) (ini := (false, [])) (L := [some (.ref 0)]) rfl (by decide) (fun h => absurd h (by decide)) rfl (Nat.le_of_ble_eq_true rfl) rfl rfl ?_
  iterate 2 refine am_s am_cls okX4_lose rfl ?_
  refine am_pz am_cls okX4_lose rfl rfl (by decide) rfl rfl ?_
  iterate 2 refine am_s am_cls okX4_lose rfl ?_
  refine am_cV okX4_lose rfl (c_wrem l D tc b _ _ _ _ _ _ _ _ _ _ _ _ _) cv_X4_102 coX3_removeEnded rfl rfl rfl ⟨rfl, rfl, rfl⟩ ⟨Nat.le_refl _, Nat.le_refl _⟩ ?_
  rintro _ _ ⟨rfl, rfl⟩
  iterate 2 refine am_s am_cls okX4_lose rfl ?_
  refine am_cV okX4_lose rfl (c_wempty l D tc b _ _ _ _ _ _ _ _ _ _ _ _ _) cv_X4_68 coX3_emptyOpenRow rfl rfl rfl ⟨rfl, rfl, rfl⟩ ⟨Nat.le_refl _, Nat.le_refl _⟩ ?_
  rintro _ _ ⟨rfl, rfl⟩
  refine am_s am_cls okX4_lose rfl ?_
  refine am_ri okX4_lose rfl rfl rfl (Nat.le_refl _) (Nat.le_refl _) ?_
  exact ⟨rfl, rfl⟩
set_option maxHeartbeats 4000000 in
set_option maxRecDepth 100000 in
theorem c_move (rest : am_W) (n : Nat) (mr dn S wr cu te : Int32) (f g : Nat → Int32) (fi : Int32) (so us : Nat → Int32) (ke ge gr : Int32) (co le ma : Nat → Int32) (en : Int32) (k fr to : Int32) (hn : pd_sz S n) : cM l D tc b yX4_move cX4_move 4 (some .boolean) 6 0 0 [.ref 0, .int k, .int fr, .int to] (.inr (4, [.ref 1, .int mr, .ref 3, .ref 5, .ref 8, .int dn]) :: .inr (2, [.int S, .ref 2, .int wr, .int cu, .int te]) :: .inl (0, n, .inl f) :: .inr (1, [.ref 4, .int fi]) :: .inl (0, 64, .inl g) :: .inr (0, [.ref 6, .ref 7, .int ke, .int ge, .int gr]) :: .inl (1, 50, .inl so) :: .inl (2, 64, .inl us) :: .inr (3, [.ref 9, .ref 10, .ref 11, .int en]) :: .inl (0, 2040, .inl co) :: .inl (1, 51, .inl le) :: .inl (1, 51, .inl ma) :: rest)
    (fun v w => (cu = 0 ∧ am_is (some (.int 0)) (.inr (4, [.ref 1, .int mr, .ref 3, .ref 5, .ref 8, .int dn]) :: .inr (2, [.int S, .ref 2, .int (wr + 1), .int (pd_wc cu), .int te]) :: .inl (0, n, .inl (pd_wf f S to (im_cp f S fr g 64) cu te)) :: .inr (1, [.ref 4, .int fi]) :: .inl (0, 64, .inl (im_cp f S fr g 64)) :: .inr (0, [.ref 6, .ref 7, .int ke, .int ge, .int gr]) :: .inl (1, 50, .inl so) :: .inl (2, 64, .inl us) :: .inr (3, [.ref 9, .ref 10, .ref 11, .int en]) :: .inl (0, 2040, .inl co) :: .inl (1, 51, .inl le) :: .inl (1, 51, .inl ma) :: rest) v w) ∨ (¬ cu = 0 ∧ am_is (some (.int (pd_b (!decide (pd_wc cu = 0))))) (.inr (4, [.ref 1, .int mr, .ref 3, .ref 5, .ref 8, .int dn]) :: .inr (2, [.int S, .ref 2, .int (wr + 1 + 1), .int (pd_wc (pd_wc cu)), .int te]) :: .inl (0, n, .inl (pd_wf (pd_wf f S to (im_cp f S fr g 64) cu te) S ((ge + 1) &&& 1) (hd_fillg (hd_place so k to) ke (ge + 1) gr (im_cp f S fr g 64)) (pd_wc cu) te)) :: .inr (1, [.ref 4, .int (hd_fillf ke)]) :: .inl (0, 64, .inl (hd_fillg (hd_place so k to) ke (ge + 1) gr (im_cp f S fr g 64))) :: .inr (0, [.ref 6, .ref 7, .int ke, .int (ge + 1), .int gr]) :: .inl (1, 50, .inl (hd_place so k to)) :: .inl (2, 64, .inl us) :: .inr (3, [.ref 9, .ref 10, .ref 11, .int en]) :: .inl (0, 2040, .inl co) :: .inl (1, 51, .inl le) :: .inl (1, 51, .inl ma) :: rest) v w)) := by
  refine am_m (own := RX4) (ini := (false, [])) (L := [some (.ref 0), some (.int k), some (.int fr), some (.int to)]) rfl (by decide) (fun h => absurd h (by decide)) rfl (Nat.le_of_ble_eq_true rfl) rfl rfl ?_
  iterate 5 refine am_s am_cls okX4_move rfl ?_
  refine am_cV okX4_move rfl (c_icopy l D tc b _ _ _ _ _ _ _ _ _ _ _ hn) cv_X4_172 coX1_copy rfl rfl rfl ⟨rfl, rfl, rfl⟩ ⟨Nat.le_refl _, Nat.le_refl _⟩ ?_
  rintro _ _ ⟨rfl, rfl⟩
  iterate 5 refine am_s am_cls okX4_move rfl ?_
  refine am_cV okX4_move rfl (c_write l D tc b _ _ _ _ _ _ _ _ _ _ _ hn) cv_X4_91 coX2_write rfl rfl rfl ⟨rfl, rfl, rfl⟩ ⟨Nat.le_refl _, Nat.le_refl _⟩ ?_
  rintro _ _ ⟨rfl, rfl⟩
  refine am_b okX4_move rfl (fun h24 => ?_) (fun h24 => ?_)
  · try replace h24 := pd_b0 h24
    refine am_s am_cls okX4_move rfl ?_
    refine am_rz okX4_move rfl rfl rfl (by first | decide | exact pd_b_01 _) (Nat.le_refl _) (Nat.le_refl _) ?_
    exact Or.inl ⟨by simpa using h24, rfl, rfl⟩
  · try replace h24 := pd_b1 h24
    iterate 4 refine am_s am_cls okX4_move rfl ?_
    refine am_cV okX4_move rfl (c_place l D tc b _ _ _ _ _ _ _ _ _ _ _ _ _) cv_X4_122 coX0_place rfl rfl rfl ⟨rfl, rfl, rfl⟩ ⟨Nat.le_refl _, Nat.le_refl _⟩ ?_
    rintro _ _ ⟨rfl, rfl⟩
    refine am_s am_cls okX4_move rfl ?_
    refine am_cV okX4_move rfl (c_writeHead l D tc b _ _ _ _ _ _ _ _ _ _ _ _ _ _ _ _ _ _ _ _ hn) cv_X4_98 coX4_writeHead rfl rfl rfl ⟨rfl, rfl, rfl⟩ ⟨Nat.le_refl _, Nat.le_refl _⟩ ?_
    rintro _ _ ⟨rfl, rfl⟩
    refine am_rz okX4_move rfl rfl rfl (by first | decide | exact pd_b_01 _) (Nat.le_refl _) (Nat.le_refl _) ?_
    exact Or.inr ⟨by simpa using h24, rfl, rfl⟩
set_option maxHeartbeats 4000000 in
set_option maxRecDepth 100000 in
theorem c_add_d (rest : am_W) (n : Nat) (mr S wr cu te : Int32) (f g : Nat → Int32) (fi : Int32) (so us : Nat → Int32) (ke ge gr : Int32) (co le ma : Nat → Int32) (en : Int32) (x : Int32)  : cM l D tc b yX4_add cX4_add 2 (some .int) 1 0 0 [.ref 0, .int x] (.inr (4, [.ref 1, .int mr, .ref 3, .ref 5, .ref 8, .int 1]) :: .inr (2, [.int S, .ref 2, .int wr, .int cu, .int te]) :: .inl (0, n, .inl f) :: .inr (1, [.ref 4, .int fi]) :: .inl (0, 64, .inl g) :: .inr (0, [.ref 6, .ref 7, .int ke, .int ge, .int gr]) :: .inl (1, 50, .inl so) :: .inl (2, 64, .inl us) :: .inr (3, [.ref 9, .ref 10, .ref 11, .int en]) :: .inl (0, 2040, .inl co) :: .inl (1, 51, .inl le) :: .inl (1, 51, .inl ma) :: rest)
    (am_is (some (.int (-33))) (.inr (4, [.ref 1, .int mr, .ref 3, .ref 5, .ref 8, .int 1]) :: .inr (2, [.int S, .ref 2, .int wr, .int cu, .int te]) :: .inl (0, n, .inl f) :: .inr (1, [.ref 4, .int fi]) :: .inl (0, 64, .inl g) :: .inr (0, [.ref 6, .ref 7, .int ke, .int ge, .int gr]) :: .inl (1, 50, .inl so) :: .inl (2, 64, .inl us) :: .inr (3, [.ref 9, .ref 10, .ref 11, .int en]) :: .inl (0, 2040, .inl co) :: .inl (1, 51, .inl le) :: .inl (1, 51, .inl ma) :: rest)) := by
  refine am_m (own := RX4) (ini := (false, [])) (L := [some (.ref 0), some (.int x)]) rfl (by decide) (fun h => absurd h (by decide)) rfl (Nat.le_of_ble_eq_true rfl) rfl rfl ?_
  iterate 2 refine am_s am_cls okX4_add rfl ?_
  refine am_b okX4_add rfl (fun h4 => ?_) (fun h4 => ?_)
  · exact absurd h4 (by decide)
  · try replace h4 := pd_b1 h4
    refine am_s am_cls okX4_add rfl ?_
    refine am_ri okX4_add rfl rfl rfl (Nat.le_refl _) (Nat.le_refl _) ?_
    exact ⟨rfl, rfl⟩
set_option maxHeartbeats 4000000 in
set_option maxRecDepth 100000 in
theorem c_sync_d (rest : am_W) (n : Nat) (mr S wr cu te : Int32) (f g : Nat → Int32) (fi : Int32) (so us : Nat → Int32) (ke ge gr : Int32) (co le ma : Nat → Int32) (en : Int32)  : cM l D tc b yX4_sync cX4_sync 4 (some .int) 1 0 0 [.ref 0] (.inr (4, [.ref 1, .int mr, .ref 3, .ref 5, .ref 8, .int 1]) :: .inr (2, [.int S, .ref 2, .int wr, .int cu, .int te]) :: .inl (0, n, .inl f) :: .inr (1, [.ref 4, .int fi]) :: .inl (0, 64, .inl g) :: .inr (0, [.ref 6, .ref 7, .int ke, .int ge, .int gr]) :: .inl (1, 50, .inl so) :: .inl (2, 64, .inl us) :: .inr (3, [.ref 9, .ref 10, .ref 11, .int en]) :: .inl (0, 2040, .inl co) :: .inl (1, 51, .inl le) :: .inl (1, 51, .inl ma) :: rest)
    (am_is (some (.int (-33))) (.inr (4, [.ref 1, .int mr, .ref 3, .ref 5, .ref 8, .int 1]) :: .inr (2, [.int S, .ref 2, .int wr, .int cu, .int te]) :: .inl (0, n, .inl f) :: .inr (1, [.ref 4, .int fi]) :: .inl (0, 64, .inl g) :: .inr (0, [.ref 6, .ref 7, .int ke, .int ge, .int gr]) :: .inl (1, 50, .inl so) :: .inl (2, 64, .inl us) :: .inr (3, [.ref 9, .ref 10, .ref 11, .int en]) :: .inl (0, 2040, .inl co) :: .inl (1, 51, .inl le) :: .inl (1, 51, .inl ma) :: rest)) := by
  refine am_m (own := RX4) (ini := (false, [])) (L := [some (.ref 0), none, none, none]) rfl (by decide) (fun h => absurd h (by decide)) rfl (Nat.le_of_ble_eq_true rfl) rfl rfl ?_
  iterate 2 refine am_s am_cls okX4_sync rfl ?_
  refine am_b okX4_sync rfl (fun h4 => ?_) (fun h4 => ?_)
  · exact absurd h4 (by decide)
  · try replace h4 := pd_b1 h4
    refine am_s am_cls okX4_sync rfl ?_
    refine am_ri okX4_sync rfl rfl rfl (Nat.le_refl _) (Nat.le_refl _) ?_
    exact ⟨rfl, rfl⟩
set_option maxHeartbeats 4000000 in
set_option maxRecDepth 100000 in
theorem c_merge_d (rest : am_W) (n : Nat) (mr S wr cu te : Int32) (f g : Nat → Int32) (fi : Int32) (so us : Nat → Int32) (ke ge gr : Int32) (co le ma : Nat → Int32) (en : Int32) (x : Int32)  : cM l D tc b yX4_merge cX4_merge 6 (some .int) 1 0 0 [.ref 0, .int x] (.inr (4, [.ref 1, .int mr, .ref 3, .ref 5, .ref 8, .int 1]) :: .inr (2, [.int S, .ref 2, .int wr, .int cu, .int te]) :: .inl (0, n, .inl f) :: .inr (1, [.ref 4, .int fi]) :: .inl (0, 64, .inl g) :: .inr (0, [.ref 6, .ref 7, .int ke, .int ge, .int gr]) :: .inl (1, 50, .inl so) :: .inl (2, 64, .inl us) :: .inr (3, [.ref 9, .ref 10, .ref 11, .int en]) :: .inl (0, 2040, .inl co) :: .inl (1, 51, .inl le) :: .inl (1, 51, .inl ma) :: rest)
    (am_is (some (.int (-33))) (.inr (4, [.ref 1, .int mr, .ref 3, .ref 5, .ref 8, .int 1]) :: .inr (2, [.int S, .ref 2, .int wr, .int cu, .int te]) :: .inl (0, n, .inl f) :: .inr (1, [.ref 4, .int fi]) :: .inl (0, 64, .inl g) :: .inr (0, [.ref 6, .ref 7, .int ke, .int ge, .int gr]) :: .inl (1, 50, .inl so) :: .inl (2, 64, .inl us) :: .inr (3, [.ref 9, .ref 10, .ref 11, .int en]) :: .inl (0, 2040, .inl co) :: .inl (1, 51, .inl le) :: .inl (1, 51, .inl ma) :: rest)) := by
  refine am_m (own := RX4) (ini := (false, [])) (L := [some (.ref 0), some (.int x), none, none, none, none]) rfl (by decide) (fun h => absurd h (by decide)) rfl (Nat.le_of_ble_eq_true rfl) rfl rfl ?_
  iterate 2 refine am_s am_cls okX4_merge rfl ?_
  refine am_b okX4_merge rfl (fun h4 => ?_) (fun h4 => ?_)
  · exact absurd h4 (by decide)
  · try replace h4 := pd_b1 h4
    refine am_s am_cls okX4_merge rfl ?_
    refine am_ri okX4_merge rfl rfl rfl (Nat.le_refl _) (Nat.le_refl _) ?_
    exact ⟨rfl, rfl⟩
set_option maxHeartbeats 4000000 in
set_option maxRecDepth 100000 in
theorem c_drop_d (rest : am_W) (n : Nat) (mr S wr cu te : Int32) (f g : Nat → Int32) (fi : Int32) (so us : Nat → Int32) (ke ge gr : Int32) (co le ma : Nat → Int32) (en : Int32) (x : Int32)  : cM l D tc b yX4_drop cX4_drop 6 (some .int) 1 0 0 [.ref 0, .int x] (.inr (4, [.ref 1, .int mr, .ref 3, .ref 5, .ref 8, .int 1]) :: .inr (2, [.int S, .ref 2, .int wr, .int cu, .int te]) :: .inl (0, n, .inl f) :: .inr (1, [.ref 4, .int fi]) :: .inl (0, 64, .inl g) :: .inr (0, [.ref 6, .ref 7, .int ke, .int ge, .int gr]) :: .inl (1, 50, .inl so) :: .inl (2, 64, .inl us) :: .inr (3, [.ref 9, .ref 10, .ref 11, .int en]) :: .inl (0, 2040, .inl co) :: .inl (1, 51, .inl le) :: .inl (1, 51, .inl ma) :: rest)
    (am_is (some (.int (-33))) (.inr (4, [.ref 1, .int mr, .ref 3, .ref 5, .ref 8, .int 1]) :: .inr (2, [.int S, .ref 2, .int wr, .int cu, .int te]) :: .inl (0, n, .inl f) :: .inr (1, [.ref 4, .int fi]) :: .inl (0, 64, .inl g) :: .inr (0, [.ref 6, .ref 7, .int ke, .int ge, .int gr]) :: .inl (1, 50, .inl so) :: .inl (2, 64, .inl us) :: .inr (3, [.ref 9, .ref 10, .ref 11, .int en]) :: .inl (0, 2040, .inl co) :: .inl (1, 51, .inl le) :: .inl (1, 51, .inl ma) :: rest)) := by
  refine am_m (own := RX4) (ini := (false, [])) (L := [some (.ref 0), some (.int x), none, none, none, none]) rfl (by decide) (fun h => absurd h (by decide)) rfl (Nat.le_of_ble_eq_true rfl) rfl rfl ?_
  iterate 2 refine am_s am_cls okX4_drop rfl ?_
  refine am_b okX4_drop rfl (fun h4 => ?_) (fun h4 => ?_)
  · exact absurd h4 (by decide)
  · try replace h4 := pd_b1 h4
    refine am_s am_cls okX4_drop rfl ?_
    refine am_ri okX4_drop rfl rfl rfl (Nat.le_refl _) (Nat.le_refl _) ?_
    exact ⟨rfl, rfl⟩
set_option maxHeartbeats 4000000 in
set_option maxRecDepth 100000 in
theorem c_cut_d (rest : am_W) (n : Nat) (mr S wr cu te : Int32) (f g : Nat → Int32) (fi : Int32) (so us : Nat → Int32) (ke ge gr : Int32) (co le ma : Nat → Int32) (en : Int32) (x y : Int32)  : cM l D tc b yX4_cut cX4_cut 3 (some .int) 1 0 0 [.ref 0, .int x, .int y] (.inr (4, [.ref 1, .int mr, .ref 3, .ref 5, .ref 8, .int 1]) :: .inr (2, [.int S, .ref 2, .int wr, .int cu, .int te]) :: .inl (0, n, .inl f) :: .inr (1, [.ref 4, .int fi]) :: .inl (0, 64, .inl g) :: .inr (0, [.ref 6, .ref 7, .int ke, .int ge, .int gr]) :: .inl (1, 50, .inl so) :: .inl (2, 64, .inl us) :: .inr (3, [.ref 9, .ref 10, .ref 11, .int en]) :: .inl (0, 2040, .inl co) :: .inl (1, 51, .inl le) :: .inl (1, 51, .inl ma) :: rest)
    (am_is (some (.int (-33))) (.inr (4, [.ref 1, .int mr, .ref 3, .ref 5, .ref 8, .int 1]) :: .inr (2, [.int S, .ref 2, .int wr, .int cu, .int te]) :: .inl (0, n, .inl f) :: .inr (1, [.ref 4, .int fi]) :: .inl (0, 64, .inl g) :: .inr (0, [.ref 6, .ref 7, .int ke, .int ge, .int gr]) :: .inl (1, 50, .inl so) :: .inl (2, 64, .inl us) :: .inr (3, [.ref 9, .ref 10, .ref 11, .int en]) :: .inl (0, 2040, .inl co) :: .inl (1, 51, .inl le) :: .inl (1, 51, .inl ma) :: rest)) := by
  refine am_m (own := RX4) (ini := (false, [])) (L := [some (.ref 0), some (.int x), some (.int y)]) rfl (by decide) (fun h => absurd h (by decide)) rfl (Nat.le_of_ble_eq_true rfl) rfl rfl ?_
  iterate 2 refine am_s am_cls okX4_cut rfl ?_
  refine am_b okX4_cut rfl (fun h4 => ?_) (fun h4 => ?_)
  · exact absurd h4 (by decide)
  · try replace h4 := pd_b1 h4
    refine am_s am_cls okX4_cut rfl ?_
    refine am_ri okX4_cut rfl rfl rfl (Nat.le_refl _) (Nat.le_refl _) ?_
    exact ⟨rfl, rfl⟩
set_option maxHeartbeats 4000000 in
set_option maxRecDepth 100000 in
theorem c_count_d (rest : am_W) (n : Nat) (mr S wr cu te : Int32) (f g : Nat → Int32) (fi : Int32) (so us : Nat → Int32) (ke ge gr : Int32) (co le ma : Nat → Int32) (en : Int32) (x : Int32)  : cM l D tc b yX4_count cX4_count 2 (some .int) 1 0 0 [.ref 0, .int x] (.inr (4, [.ref 1, .int mr, .ref 3, .ref 5, .ref 8, .int 1]) :: .inr (2, [.int S, .ref 2, .int wr, .int cu, .int te]) :: .inl (0, n, .inl f) :: .inr (1, [.ref 4, .int fi]) :: .inl (0, 64, .inl g) :: .inr (0, [.ref 6, .ref 7, .int ke, .int ge, .int gr]) :: .inl (1, 50, .inl so) :: .inl (2, 64, .inl us) :: .inr (3, [.ref 9, .ref 10, .ref 11, .int en]) :: .inl (0, 2040, .inl co) :: .inl (1, 51, .inl le) :: .inl (1, 51, .inl ma) :: rest)
    (am_is (some (.int (-33))) (.inr (4, [.ref 1, .int mr, .ref 3, .ref 5, .ref 8, .int 1]) :: .inr (2, [.int S, .ref 2, .int wr, .int cu, .int te]) :: .inl (0, n, .inl f) :: .inr (1, [.ref 4, .int fi]) :: .inl (0, 64, .inl g) :: .inr (0, [.ref 6, .ref 7, .int ke, .int ge, .int gr]) :: .inl (1, 50, .inl so) :: .inl (2, 64, .inl us) :: .inr (3, [.ref 9, .ref 10, .ref 11, .int en]) :: .inl (0, 2040, .inl co) :: .inl (1, 51, .inl le) :: .inl (1, 51, .inl ma) :: rest)) := by
  refine am_m (own := RX4) (ini := (false, [])) (L := [some (.ref 0), some (.int x)]) rfl (by decide) (fun h => absurd h (by decide)) rfl (Nat.le_of_ble_eq_true rfl) rfl rfl ?_
  iterate 2 refine am_s am_cls okX4_count rfl ?_
  refine am_b okX4_count rfl (fun h4 => ?_) (fun h4 => ?_)
  · exact absurd h4 (by decide)
  · try replace h4 := pd_b1 h4
    refine am_s am_cls okX4_count rfl ?_
    refine am_ri okX4_count rfl rfl rfl (Nat.le_refl _) (Nat.le_refl _) ?_
    exact ⟨rfl, rfl⟩
set_option maxHeartbeats 4000000 in
set_option maxRecDepth 100000 in
theorem c_row_d (rest : am_W) (n : Nat) (mr S wr cu te : Int32) (f g : Nat → Int32) (fi : Int32) (so us : Nat → Int32) (ke ge gr : Int32) (co le ma : Nat → Int32) (en : Int32) (x y : Int32)  : cM l D tc b yX4_row cX4_row 4 (some .int) 1 0 0 [.ref 0, .int x, .int y] (.inr (4, [.ref 1, .int mr, .ref 3, .ref 5, .ref 8, .int 1]) :: .inr (2, [.int S, .ref 2, .int wr, .int cu, .int te]) :: .inl (0, n, .inl f) :: .inr (1, [.ref 4, .int fi]) :: .inl (0, 64, .inl g) :: .inr (0, [.ref 6, .ref 7, .int ke, .int ge, .int gr]) :: .inl (1, 50, .inl so) :: .inl (2, 64, .inl us) :: .inr (3, [.ref 9, .ref 10, .ref 11, .int en]) :: .inl (0, 2040, .inl co) :: .inl (1, 51, .inl le) :: .inl (1, 51, .inl ma) :: rest)
    (am_is (some (.int (-33))) (.inr (4, [.ref 1, .int mr, .ref 3, .ref 5, .ref 8, .int 1]) :: .inr (2, [.int S, .ref 2, .int wr, .int cu, .int te]) :: .inl (0, n, .inl f) :: .inr (1, [.ref 4, .int fi]) :: .inl (0, 64, .inl g) :: .inr (0, [.ref 6, .ref 7, .int ke, .int ge, .int gr]) :: .inl (1, 50, .inl so) :: .inl (2, 64, .inl us) :: .inr (3, [.ref 9, .ref 10, .ref 11, .int en]) :: .inl (0, 2040, .inl co) :: .inl (1, 51, .inl le) :: .inl (1, 51, .inl ma) :: rest)) := by
  refine am_m (own := RX4) (ini := (false, [])) (L := [some (.ref 0), some (.int x), some (.int y), none]) rfl (by decide) (fun h => absurd h (by decide)) rfl (Nat.le_of_ble_eq_true rfl) rfl rfl ?_
  iterate 2 refine am_s am_cls okX4_row rfl ?_
  refine am_b okX4_row rfl (fun h4 => ?_) (fun h4 => ?_)
  · exact absurd h4 (by decide)
  · try replace h4 := pd_b1 h4
    refine am_s am_cls okX4_row rfl ?_
    refine am_ri okX4_row rfl rfl rfl (Nat.le_refl _) (Nat.le_refl _) ?_
    exact ⟨rfl, rfl⟩
set_option maxHeartbeats 4000000 in
set_option maxRecDepth 100000 in
theorem c_wrong_d (rest : am_W) (n : Nat) (mr S wr cu te : Int32) (f g : Nat → Int32) (fi : Int32) (so us : Nat → Int32) (ke ge gr : Int32) (co le ma : Nat → Int32) (en : Int32) (x : Int32)  : cM l D tc b yX4_wrong cX4_wrong 4 (some .int) 1 0 0 [.ref 0, .int x] (.inr (4, [.ref 1, .int mr, .ref 3, .ref 5, .ref 8, .int 1]) :: .inr (2, [.int S, .ref 2, .int wr, .int cu, .int te]) :: .inl (0, n, .inl f) :: .inr (1, [.ref 4, .int fi]) :: .inl (0, 64, .inl g) :: .inr (0, [.ref 6, .ref 7, .int ke, .int ge, .int gr]) :: .inl (1, 50, .inl so) :: .inl (2, 64, .inl us) :: .inr (3, [.ref 9, .ref 10, .ref 11, .int en]) :: .inl (0, 2040, .inl co) :: .inl (1, 51, .inl le) :: .inl (1, 51, .inl ma) :: rest)
    (am_is (some (.int (-33))) (.inr (4, [.ref 1, .int mr, .ref 3, .ref 5, .ref 8, .int 1]) :: .inr (2, [.int S, .ref 2, .int wr, .int cu, .int te]) :: .inl (0, n, .inl f) :: .inr (1, [.ref 4, .int fi]) :: .inl (0, 64, .inl g) :: .inr (0, [.ref 6, .ref 7, .int ke, .int ge, .int gr]) :: .inl (1, 50, .inl so) :: .inl (2, 64, .inl us) :: .inr (3, [.ref 9, .ref 10, .ref 11, .int en]) :: .inl (0, 2040, .inl co) :: .inl (1, 51, .inl le) :: .inl (1, 51, .inl ma) :: rest)) := by
  refine am_m (own := RX4) (ini := (false, [])) (L := [some (.ref 0), some (.int x), none, none]) rfl (by decide) (fun h => absurd h (by decide)) rfl (Nat.le_of_ble_eq_true rfl) rfl rfl ?_
  iterate 2 refine am_s am_cls okX4_wrong rfl ?_
  refine am_b okX4_wrong rfl (fun h4 => ?_) (fun h4 => ?_)
  · exact absurd h4 (by decide)
  · try replace h4 := pd_b1 h4
    refine am_s am_cls okX4_wrong rfl ?_
    refine am_ri okX4_wrong rfl rfl rfl (Nat.le_refl _) (Nat.le_refl _) ?_
    exact ⟨rfl, rfl⟩
set_option maxHeartbeats 4000000 in
set_option maxRecDepth 100000 in
theorem c_add_u (rest : am_W) (n : Nat) (mr S wr cu te : Int32) (f g : Nat → Int32) (fi : Int32) (so us : Nat → Int32) (ke ge gr : Int32) (co le ma : Nat → Int32) (en : Int32) (x : Int32)  : cM l D tc b yX4_add cX4_add 2 (some .int) 4 0 0 [.ref 0, .int x] (.inr (4, [.ref 1, .int mr, .ref 3, .ref 5, .ref 8, .int 0]) :: .inr (2, [.int S, .ref 2, .int wr, .int cu, .int te]) :: .inl (0, n, .inl f) :: .inr (1, [.ref 4, .int fi]) :: .inl (0, 64, .inl g) :: .inr (0, [.ref 6, .ref 7, .int ke, .int ge, .int gr]) :: .inl (1, 50, .inl so) :: .inl (2, 64, .inl us) :: .inr (3, [.ref 9, .ref 10, .ref 11, .int en]) :: .inl (0, 2040, .inl co) :: .inl (1, 51, .inl le) :: .inl (1, 51, .inl ma) :: rest)
    (am_is (some (.int (bif wt_can le en then wt_len (wt_al le en) en else -14))) (.inr (4, [.ref 1, .int mr, .ref 3, .ref 5, .ref 8, .int 0]) :: .inr (2, [.int S, .ref 2, .int wr, .int cu, .int te]) :: .inl (0, n, .inl f) :: .inr (1, [.ref 4, .int fi]) :: .inl (0, 64, .inl g) :: .inr (0, [.ref 6, .ref 7, .int ke, .int ge, .int gr]) :: .inl (1, 50, .inl so) :: .inl (2, 64, .inl us) :: .inr (3, [.ref 9, .ref 10, .ref 11, .int en]) :: .inl (0, 2040, .inl (wt_ac co le en x)) :: .inl (1, 51, .inl (wt_al le en)) :: .inl (1, 51, .inl ma) :: rest)) := by
  refine am_m (own := RX4) (ini := (false, [])) (L := [some (.ref 0), some (.int x)]) rfl (by decide) (fun h => absurd h (by decide)) rfl (Nat.le_of_ble_eq_true rfl) rfl rfl ?_
  iterate 2 refine am_s am_cls okX4_add rfl ?_
  refine am_b okX4_add rfl (fun h4 => ?_) (fun h4 => ?_)
  · try replace h4 := pd_b0 h4
    iterate 3 refine am_s am_cls okX4_add rfl ?_
    refine am_cV okX4_add rfl (c_wapp l D tc b _ _ _ _ _ _ _ _ _ _ _ _ _ _) cv_X4_56 coX3_append rfl rfl rfl ⟨rfl, rfl, rfl⟩ ⟨Nat.le_refl _, Nat.le_refl _⟩ ?_
    rintro _ _ ⟨rfl, rfl⟩
    refine am_b okX4_add rfl (fun h18 => ?_) (fun h18 => ?_)
    · try replace h18 := pd_b0 h18
      refine am_s am_cls okX4_add rfl ?_
      refine am_ri okX4_add rfl rfl rfl (Nat.le_refl _) (Nat.le_refl _) ?_
      exact ⟨by simp [*], rfl⟩
    · try replace h18 := pd_b1 h18
      iterate 2 refine am_s am_cls okX4_add rfl ?_
      refine am_cV okX4_add rfl (c_openLength l D tc b _ _ _ _ _ _ _ _ _ _ _ _ _) cv_X4_60 coX3_openLength rfl rfl rfl ⟨rfl, rfl, rfl⟩ ⟨Nat.le_refl _, Nat.le_refl _⟩ ?_
      rintro _ _ ⟨rfl, rfl⟩
      refine am_s am_cls okX4_add rfl ?_
      refine am_ri okX4_add rfl rfl rfl (Nat.le_refl _) (Nat.le_refl _) ?_
      exact ⟨by simp [*], rfl⟩
  · exact absurd rfl h4
set_option maxHeartbeats 4000000 in
set_option maxRecDepth 100000 in
theorem c_end_u (rest : am_W) (n : Nat) (mr S wr cu te : Int32) (f g : Nat → Int32) (fi : Int32) (so us : Nat → Int32) (ke ge gr : Int32) (co le ma : Nat → Int32) (en : Int32) (kd ev : Int32)  : cM l D tc b yX4_end cX4_end 3 (some .int) 3 0 0 [.ref 0, .int kd, .int ev] (.inr (4, [.ref 1, .int mr, .ref 3, .ref 5, .ref 8, .int 0]) :: .inr (2, [.int S, .ref 2, .int wr, .int cu, .int te]) :: .inl (0, n, .inl f) :: .inr (1, [.ref 4, .int fi]) :: .inl (0, 64, .inl g) :: .inr (0, [.ref 6, .ref 7, .int ke, .int ge, .int gr]) :: .inl (1, 50, .inl so) :: .inl (2, 64, .inl us) :: .inr (3, [.ref 9, .ref 10, .ref 11, .int en]) :: .inl (0, 2040, .inl co) :: .inl (1, 51, .inl le) :: .inl (1, 51, .inl ma) :: rest)
    (fun v w => ((kd < 0 ∨ ¬ kd ≤ 9) ∧ am_is (some (.int (-12))) (.inr (4, [.ref 1, .int mr, .ref 3, .ref 5, .ref 8, .int 0]) :: .inr (2, [.int S, .ref 2, .int wr, .int cu, .int te]) :: .inl (0, n, .inl f) :: .inr (1, [.ref 4, .int fi]) :: .inl (0, 64, .inl g) :: .inr (0, [.ref 6, .ref 7, .int ke, .int ge, .int gr]) :: .inl (1, 50, .inl so) :: .inl (2, 64, .inl us) :: .inr (3, [.ref 9, .ref 10, .ref 11, .int en]) :: .inl (0, 2040, .inl co) :: .inl (1, 51, .inl le) :: .inl (1, 51, .inl ma) :: rest) v w) ∨ ((¬ kd < 0 ∧ kd ≤ 9 ∧ pd_room ke en mr ev = false) ∧ am_is (some (.int (-14))) (.inr (4, [.ref 1, .int mr, .ref 3, .ref 5, .ref 8, .int 0]) :: .inr (2, [.int S, .ref 2, .int wr, .int cu, .int te]) :: .inl (0, n, .inl f) :: .inr (1, [.ref 4, .int fi]) :: .inl (0, 64, .inl g) :: .inr (0, [.ref 6, .ref 7, .int ke, .int ge, .int gr]) :: .inl (1, 50, .inl so) :: .inl (2, 64, .inl us) :: .inr (3, [.ref 9, .ref 10, .ref 11, .int en]) :: .inl (0, 2040, .inl co) :: .inl (1, 51, .inl (wt_el le en)) :: .inl (1, 51, .inl ma) :: rest) v w) ∨ ((¬ kd < 0 ∧ kd ≤ 9 ∧ pd_room ke en mr ev = true) ∧ am_is (some (.int (gr + wt_ce en))) (.inr (4, [.ref 1, .int mr, .ref 3, .ref 5, .ref 8, .int 0]) :: .inr (2, [.int S, .ref 2, .int wr, .int cu, .int te]) :: .inl (0, n, .inl f) :: .inr (1, [.ref 4, .int fi]) :: .inl (0, 64, .inl g) :: .inr (0, [.ref 6, .ref 7, .int ke, .int ge, .int gr]) :: .inl (1, 50, .inl so) :: .inl (2, 64, .inl us) :: .inr (3, [.ref 9, .ref 10, .ref 11, .int (wt_ce en)]) :: .inl (0, 2040, .inl co) :: .inl (1, 51, .inl (wt_cle le en)) :: .inl (1, 51, .inl (wt_cm ma en (1 + kd + (bif decide (ev = 0) then 0 else 16)))) :: rest) v w)) := by
  refine am_m (own := RX4) (ini := (false, [])) (L := [some (.ref 0), some (.int kd), some (.int ev)]) rfl (by decide) (fun h => absurd h (by decide)) rfl (Nat.le_of_ble_eq_true rfl) rfl rfl ?_
  refine am_s am_cls okX4_end rfl ?_
  refine am_b okX4_end rfl (fun h1 => ?_) (fun h1 => ?_)
  · skip
    refine am_s am_cls okX4_end rfl ?_
    refine am_ri okX4_end rfl rfl rfl (Nat.le_refl _) (Nat.le_refl _) ?_
    exact Or.inl ⟨Or.inl h1, rfl, rfl⟩
  · skip
    iterate 2 refine am_s am_cls okX4_end rfl ?_
    refine am_b okX4_end rfl (fun h7 => ?_) (fun h7 => ?_)
    · skip
      iterate 2 refine am_s am_cls okX4_end rfl ?_
      refine am_b okX4_end rfl (fun h17 => ?_) (fun h17 => ?_)
      · try replace h17 := pd_b0 h17
        iterate 2 refine am_s am_cls okX4_end rfl ?_
        refine am_cV okX4_end rfl (c_hasRoom l D tc b _ _ _ _ _ _ _ _ _ _ _ _ _ _ _ _ _ _ _ _ _) cv_X4_64 coX4_hasRoom rfl rfl rfl ⟨rfl, rfl, rfl⟩ ⟨Nat.le_refl _, Nat.le_refl _⟩ ?_
        rintro _ _ ⟨rfl, rfl⟩
        refine am_b okX4_end rfl (fun h27 => ?_) (fun h27 => ?_)
        · try replace h27 := pd_b0 h27
          iterate 2 refine am_s am_cls okX4_end rfl ?_
          refine am_cV okX4_end rfl (c_wempty l D tc b _ _ _ _ _ _ _ _ _ _ _ _ _) cv_X4_68 coX3_emptyOpenRow rfl rfl rfl ⟨rfl, rfl, rfl⟩ ⟨Nat.le_refl _, Nat.le_refl _⟩ ?_
          rintro _ _ ⟨rfl, rfl⟩
          refine am_s am_cls okX4_end rfl ?_
          refine am_ri okX4_end rfl rfl rfl (Nat.le_refl _) (Nat.le_refl _) ?_
          exact Or.inr (Or.inl ⟨⟨h1, h7, h27⟩, rfl, rfl⟩)
        · try replace h27 := pd_b1 h27
          iterate 6 refine am_s am_cls okX4_end rfl ?_
          refine am_b okX4_end rfl (fun h48 => ?_) (fun h48 => ?_)
          · try replace h48 := pd_b0 h48
            iterate 2 refine am_s am_cls okX4_end rfl ?_
            refine am_cV okX4_end rfl (c_wclose l D tc b _ _ _ _ _ _ _ _ _ _ _ _ _ _) cv_X4_71 coX3_close rfl rfl rfl ⟨rfl, rfl, rfl⟩ ⟨Nat.le_refl _, Nat.le_refl _⟩ ?_
            rintro _ _ ⟨rfl, rfl⟩
            iterate 7 refine am_s am_cls okX4_end rfl ?_
            refine am_ri okX4_end rfl rfl rfl (Nat.le_refl _) (Nat.le_refl _) ?_
            exact Or.inr (Or.inr ⟨⟨h1, h7, h27⟩, rfl, by simp [h48]⟩)
          · try replace h48 := pd_b1 h48
            iterate 3 refine am_s am_cls okX4_end rfl ?_
            refine am_cV okX4_end rfl (c_wclose l D tc b _ _ _ _ _ _ _ _ _ _ _ _ _ _) cv_X4_71 coX3_close rfl rfl rfl ⟨rfl, rfl, rfl⟩ ⟨Nat.le_refl _, Nat.le_refl _⟩ ?_
            rintro _ _ ⟨rfl, rfl⟩
            iterate 7 refine am_s am_cls okX4_end rfl ?_
            refine am_ri okX4_end rfl rfl rfl (Nat.le_refl _) (Nat.le_refl _) ?_
            exact Or.inr (Or.inr ⟨⟨h1, h7, h27⟩, rfl, by simp [h48]⟩)
      · exact absurd rfl h17
    · skip
      refine am_s am_cls okX4_end rfl ?_
      refine am_ri okX4_end rfl rfl rfl (Nat.le_refl _) (Nat.le_refl _) ?_
      exact Or.inl ⟨Or.inr h7, rfl, rfl⟩
set_option maxHeartbeats 4000000 in
set_option maxRecDepth 100000 in
theorem c_end_d (rest : am_W) (n : Nat) (mr S wr cu te : Int32) (f g : Nat → Int32) (fi : Int32) (so us : Nat → Int32) (ke ge gr : Int32) (co le ma : Nat → Int32) (en : Int32) (kd ev : Int32)  : cM l D tc b yX4_end cX4_end 3 (some .int) 3 0 0 [.ref 0, .int kd, .int ev] (.inr (4, [.ref 1, .int mr, .ref 3, .ref 5, .ref 8, .int 1]) :: .inr (2, [.int S, .ref 2, .int wr, .int cu, .int te]) :: .inl (0, n, .inl f) :: .inr (1, [.ref 4, .int fi]) :: .inl (0, 64, .inl g) :: .inr (0, [.ref 6, .ref 7, .int ke, .int ge, .int gr]) :: .inl (1, 50, .inl so) :: .inl (2, 64, .inl us) :: .inr (3, [.ref 9, .ref 10, .ref 11, .int en]) :: .inl (0, 2040, .inl co) :: .inl (1, 51, .inl le) :: .inl (1, 51, .inl ma) :: rest)
    (am_is (some (.int (bif decide (kd < 0) || !decide (kd ≤ 9) then -12 else -1))) (.inr (4, [.ref 1, .int mr, .ref 3, .ref 5, .ref 8, .int 1]) :: .inr (2, [.int S, .ref 2, .int wr, .int cu, .int te]) :: .inl (0, n, .inl f) :: .inr (1, [.ref 4, .int fi]) :: .inl (0, 64, .inl g) :: .inr (0, [.ref 6, .ref 7, .int ke, .int ge, .int gr]) :: .inl (1, 50, .inl so) :: .inl (2, 64, .inl us) :: .inr (3, [.ref 9, .ref 10, .ref 11, .int en]) :: .inl (0, 2040, .inl co) :: .inl (1, 51, .inl le) :: .inl (1, 51, .inl ma) :: rest)) := by
  refine am_m (own := RX4) (ini := (false, [])) (L := [some (.ref 0), some (.int kd), some (.int ev)]) rfl (by decide) (fun h => absurd h (by decide)) rfl (Nat.le_of_ble_eq_true rfl) rfl rfl ?_
  refine am_s am_cls okX4_end rfl ?_
  refine am_b okX4_end rfl (fun h1 => ?_) (fun h1 => ?_)
  · skip
    refine am_s am_cls okX4_end rfl ?_
    refine am_ri okX4_end rfl rfl rfl (Nat.le_refl _) (Nat.le_refl _) ?_
    exact ⟨by simp [*], rfl⟩
  · skip
    iterate 2 refine am_s am_cls okX4_end rfl ?_
    refine am_b okX4_end rfl (fun h7 => ?_) (fun h7 => ?_)
    · skip
      iterate 2 refine am_s am_cls okX4_end rfl ?_
      refine am_b okX4_end rfl (fun h17 => ?_) (fun h17 => ?_)
      · exact absurd h17 (by decide)
      · try replace h17 := pd_b1 h17
        refine am_s am_cls okX4_end rfl ?_
        refine am_ri okX4_end rfl rfl rfl (Nat.le_refl _) (Nat.le_refl _) ?_
        exact ⟨by simp [*], rfl⟩
    · skip
      refine am_s am_cls okX4_end rfl ?_
      refine am_ri okX4_end rfl rfl rfl (Nat.le_refl _) (Nat.le_refl _) ?_
      exact ⟨by simp [*], rfl⟩
set_option maxHeartbeats 4000000 in
set_option maxRecDepth 100000 in
theorem c_cut_u (rest : am_W) (n : Nat) (mr S wr cu te : Int32) (f g : Nat → Int32) (fi : Int32) (so us : Nat → Int32) (ke ge gr : Int32) (co le ma : Nat → Int32) (en : Int32) (x y : Int32)  : cM l D tc b yX4_cut cX4_cut 3 (some .int) 2 0 0 [.ref 0, .int x, .int y] (.inr (4, [.ref 1, .int mr, .ref 3, .ref 5, .ref 8, .int 0]) :: .inr (2, [.int S, .ref 2, .int wr, .int cu, .int te]) :: .inl (0, n, .inl f) :: .inr (1, [.ref 4, .int fi]) :: .inl (0, 64, .inl g) :: .inr (0, [.ref 6, .ref 7, .int ke, .int ge, .int gr]) :: .inl (1, 50, .inl so) :: .inl (2, 64, .inl us) :: .inr (3, [.ref 9, .ref 10, .ref 11, .int en]) :: .inl (0, 2040, .inl co) :: .inl (1, 51, .inl le) :: .inl (1, 51, .inl ma) :: rest)
    (fun v w => ((¬ x < -1 ∧ ¬ 1000 < x ∧ ¬ y < 0 ∧ y < 64) ∧ am_is (some (.int 1)) (.inr (4, [.ref 1, .int mr, .ref 3, .ref 5, .ref 8, .int 0]) :: .inr (2, [.int S, .ref 2, .int wr, .int x, .int y]) :: .inl (0, n, .inl f) :: .inr (1, [.ref 4, .int fi]) :: .inl (0, 64, .inl g) :: .inr (0, [.ref 6, .ref 7, .int ke, .int ge, .int gr]) :: .inl (1, 50, .inl so) :: .inl (2, 64, .inl us) :: .inr (3, [.ref 9, .ref 10, .ref 11, .int en]) :: .inl (0, 2040, .inl co) :: .inl (1, 51, .inl le) :: .inl (1, 51, .inl ma) :: rest) v w) ∨ (¬ (¬ x < -1 ∧ ¬ 1000 < x ∧ ¬ y < 0 ∧ y < 64) ∧ am_is (some (.int (-12))) (.inr (4, [.ref 1, .int mr, .ref 3, .ref 5, .ref 8, .int 0]) :: .inr (2, [.int S, .ref 2, .int wr, .int cu, .int te]) :: .inl (0, n, .inl f) :: .inr (1, [.ref 4, .int fi]) :: .inl (0, 64, .inl g) :: .inr (0, [.ref 6, .ref 7, .int ke, .int ge, .int gr]) :: .inl (1, 50, .inl so) :: .inl (2, 64, .inl us) :: .inr (3, [.ref 9, .ref 10, .ref 11, .int en]) :: .inl (0, 2040, .inl co) :: .inl (1, 51, .inl le) :: .inl (1, 51, .inl ma) :: rest) v w)) := by
  refine am_m (own := RX4) (ini := (false, [])) (L := [some (.ref 0), some (.int x), some (.int y)]) rfl (by decide) (fun h => absurd h (by decide)) rfl (Nat.le_of_ble_eq_true rfl) rfl rfl ?_
  iterate 2 refine am_s am_cls okX4_cut rfl ?_
  refine am_b okX4_cut rfl (fun h4 => ?_) (fun h4 => ?_)
  · try replace h4 := pd_b0 h4
    iterate 2 refine am_s am_cls okX4_cut rfl ?_
    refine am_b okX4_cut rfl (fun h12 => ?_) (fun h12 => ?_)
    · skip
      refine am_s am_cls okX4_cut rfl ?_
      refine am_ri okX4_cut rfl rfl rfl (Nat.le_refl _) (Nat.le_refl _) ?_
      exact Or.inr ⟨fun q => by simp_all, rfl, rfl⟩
    · skip
      iterate 2 refine am_s am_cls okX4_cut rfl ?_
      refine am_b okX4_cut rfl (fun h19 => ?_) (fun h19 => ?_)
      · skip
        refine am_s am_cls okX4_cut rfl ?_
        refine am_ri okX4_cut rfl rfl rfl (Nat.le_refl _) (Nat.le_refl _) ?_
        exact Or.inr ⟨fun q => by simp_all, rfl, rfl⟩
      · skip
        refine am_s am_cls okX4_cut rfl ?_
        refine am_b okX4_cut rfl (fun h23 => ?_) (fun h23 => ?_)
        · skip
          refine am_s am_cls okX4_cut rfl ?_
          refine am_ri okX4_cut rfl rfl rfl (Nat.le_refl _) (Nat.le_refl _) ?_
          exact Or.inr ⟨fun q => by simp_all, rfl, rfl⟩
        · skip
          iterate 2 refine am_s am_cls okX4_cut rfl ?_
          refine am_b okX4_cut rfl (fun h29 => ?_) (fun h29 => ?_)
          · skip
            iterate 4 refine am_s am_cls okX4_cut rfl ?_
            refine am_cV okX4_cut rfl (c_setCut l D tc b _ _ _ _ _ _ _ _ _ _) cv_X4_126 coX2_setCut rfl rfl rfl ⟨rfl, rfl, rfl⟩ ⟨Nat.le_refl _, Nat.le_refl _⟩ ?_
            rintro _ _ ⟨rfl, rfl⟩
            refine am_s am_cls okX4_cut rfl ?_
            refine am_ri okX4_cut rfl rfl rfl (Nat.le_refl _) (Nat.le_refl _) ?_
            exact Or.inl ⟨⟨h12, h19, h23, h29⟩, rfl, rfl⟩
          · skip
            refine am_s am_cls okX4_cut rfl ?_
            refine am_ri okX4_cut rfl rfl rfl (Nat.le_refl _) (Nat.le_refl _) ?_
            exact Or.inr ⟨fun q => by simp_all, rfl, rfl⟩
  · exact absurd rfl h4
set_option maxHeartbeats 4000000 in
set_option maxRecDepth 100000 in
theorem c_start_u (rest : am_W) (n : Nat) (mr S wr cu te : Int32) (f g : Nat → Int32) (fi : Int32) (so us : Nat → Int32) (ke ge gr : Int32) (co le ma : Nat → Int32) (en : Int32)  : cM l D tc b yX4_start cX4_start 1 (some .int) 1 0 0 [.ref 0] (.inr (4, [.ref 1, .int mr, .ref 3, .ref 5, .ref 8, .int 0]) :: .inr (2, [.int S, .ref 2, .int wr, .int cu, .int te]) :: .inl (0, n, .inl f) :: .inr (1, [.ref 4, .int fi]) :: .inl (0, 64, .inl g) :: .inr (0, [.ref 6, .ref 7, .int ke, .int ge, .int gr]) :: .inl (1, 50, .inl so) :: .inl (2, 64, .inl us) :: .inr (3, [.ref 9, .ref 10, .ref 11, .int en]) :: .inl (0, 2040, .inl co) :: .inl (1, 51, .inl le) :: .inl (1, 51, .inl ma) :: rest)
    (am_is (some (.int (-13))) (.inr (4, [.ref 1, .int mr, .ref 3, .ref 5, .ref 8, .int 0]) :: .inr (2, [.int S, .ref 2, .int wr, .int cu, .int te]) :: .inl (0, n, .inl f) :: .inr (1, [.ref 4, .int fi]) :: .inl (0, 64, .inl g) :: .inr (0, [.ref 6, .ref 7, .int ke, .int ge, .int gr]) :: .inl (1, 50, .inl so) :: .inl (2, 64, .inl us) :: .inr (3, [.ref 9, .ref 10, .ref 11, .int en]) :: .inl (0, 2040, .inl co) :: .inl (1, 51, .inl le) :: .inl (1, 51, .inl ma) :: rest)) := by
  refine am_m (own := RX4) (ini := (false, [])) (L := [some (.ref 0)]) rfl (by decide) (fun h => absurd h (by decide)) rfl (Nat.le_of_ble_eq_true rfl) rfl rfl ?_
  iterate 2 refine am_s am_cls okX4_start rfl ?_
  refine am_b okX4_start rfl (fun h4 => ?_) (fun h4 => ?_)
  · try replace h4 := pd_b0 h4
    refine am_s am_cls okX4_start rfl ?_
    refine am_ri okX4_start rfl rfl rfl (Nat.le_refl _) (Nat.le_refl _) ?_
    exact ⟨rfl, rfl⟩
  · exact absurd rfl h4
set_option maxHeartbeats 4000000 in
set_option maxRecDepth 100000 in
theorem c_start_d (rest : am_W) (n : Nat) (mr S wr cu te : Int32) (f g : Nat → Int32) (fi : Int32) (so us : Nat → Int32) (ke ge gr : Int32) (co le ma : Nat → Int32) (en : Int32) (hn : pd_sz S n) : cM l D tc b yX4_start cX4_start 1 (some .int) 7 0 0 [.ref 0] (.inr (4, [.ref 1, .int mr, .ref 3, .ref 5, .ref 8, .int 1]) :: .inr (2, [.int S, .ref 2, .int wr, .int cu, .int te]) :: .inl (0, n, .inl f) :: .inr (1, [.ref 4, .int fi]) :: .inl (0, 64, .inl g) :: .inr (0, [.ref 6, .ref 7, .int ke, .int ge, .int gr]) :: .inl (1, 50, .inl so) :: .inl (2, 64, .inl us) :: .inr (3, [.ref 9, .ref 10, .ref 11, .int en]) :: .inl (0, 2040, .inl co) :: .inl (1, 51, .inl le) :: .inl (1, 51, .inl ma) :: rest)
    (am_is (some (.int (rd_ke (hd_pick f S) f S))) (.inr (4, [.ref 1, .int mr, .ref 3, .ref 5, .ref 8, .int 0]) :: .inr (2, [.int S, .ref 2, .int wr, .int cu, .int te]) :: .inl (0, n, .inl f) :: .inr (1, [.ref 4, .int fi]) :: .inl (0, 64, .inl g) :: .inr (0, [.ref 6, .ref 7, .int (rd_ke (hd_pick f S) f S), .int (rd_ge (hd_pick f S) f S), .int (rd_gr (hd_pick f S) f S)]) :: .inl (1, 50, .inl (rd_so (hd_pick f S) f S so)) :: .inl (2, 64, .inl us) :: .inr (3, [.ref 9, .ref 10, .ref 11, .int en]) :: .inl (0, 2040, .inl co) :: .inl (1, 51, .inl le) :: .inl (1, 51, .inl ma) :: rest)) := by
  refine am_m (own := RX4) (ini := (false, [])) (L := [some (.ref 0)]) rfl (by decide) (fun h => absurd h (by decide)) rfl (Nat.le_of_ble_eq_true rfl) rfl rfl ?_
  iterate 2 refine am_s am_cls okX4_start rfl ?_
  refine am_b okX4_start rfl (fun h4 => ?_) (fun h4 => ?_)
  · exact absurd h4 (by decide)
  · try replace h4 := pd_b1 h4
    iterate 4 refine am_s am_cls okX4_start rfl ?_
    refine am_cV okX4_start rfl (c_read l D tc b _ _ _ _ _ _ _ _ _ _ _ _ _ _ _ hn) cv_X4_129 coX0_read rfl rfl rfl ⟨rfl, rfl, rfl⟩ ⟨Nat.le_refl _, Nat.le_refl _⟩ ?_
    rintro _ _ ⟨rfl, rfl⟩
    iterate 2 refine am_s am_cls okX4_start rfl ?_
    refine am_pz am_cls okX4_start rfl rfl (by decide) rfl rfl ?_
    iterate 3 refine am_s am_cls okX4_start rfl ?_
    refine am_ri okX4_start rfl rfl rfl (Nat.le_refl _) (Nat.le_refl _) ?_
    exact ⟨rfl, rfl⟩
set_option maxHeartbeats 4000000 in
set_option maxRecDepth 100000 in
theorem c_writes (rest : am_W) (n : Nat) (mr dn S wr cu te : Int32) (f g : Nat → Int32) (fi : Int32) (so us : Nat → Int32) (ke ge gr : Int32) (co le ma : Nat → Int32) (en : Int32)  : cM l D tc b yX4_writes cX4_writes 1 (some .int) 1 0 0 [.ref 0] (.inr (4, [.ref 1, .int mr, .ref 3, .ref 5, .ref 8, .int dn]) :: .inr (2, [.int S, .ref 2, .int wr, .int cu, .int te]) :: .inl (0, n, .inl f) :: .inr (1, [.ref 4, .int fi]) :: .inl (0, 64, .inl g) :: .inr (0, [.ref 6, .ref 7, .int ke, .int ge, .int gr]) :: .inl (1, 50, .inl so) :: .inl (2, 64, .inl us) :: .inr (3, [.ref 9, .ref 10, .ref 11, .int en]) :: .inl (0, 2040, .inl co) :: .inl (1, 51, .inl le) :: .inl (1, 51, .inl ma) :: rest)
    (am_is (some (.int wr)) (.inr (4, [.ref 1, .int mr, .ref 3, .ref 5, .ref 8, .int dn]) :: .inr (2, [.int S, .ref 2, .int wr, .int cu, .int te]) :: .inl (0, n, .inl f) :: .inr (1, [.ref 4, .int fi]) :: .inl (0, 64, .inl g) :: .inr (0, [.ref 6, .ref 7, .int ke, .int ge, .int gr]) :: .inl (1, 50, .inl so) :: .inl (2, 64, .inl us) :: .inr (3, [.ref 9, .ref 10, .ref 11, .int en]) :: .inl (0, 2040, .inl co) :: .inl (1, 51, .inl le) :: .inl (1, 51, .inl ma) :: rest)) := by
  refine am_m (own := RX4) (ini := (false, [])) (L := [some (.ref 0)]) rfl (by decide) (fun h => absurd h (by decide)) rfl (Nat.le_of_ble_eq_true rfl) rfl rfl ?_
  iterate 3 refine am_s am_cls okX4_writes rfl ?_
  refine am_ri okX4_writes rfl rfl rfl (Nat.le_refl _) (Nat.le_refl _) ?_
  exact ⟨rfl, rfl⟩
end PD
