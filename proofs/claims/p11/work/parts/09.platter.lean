/-! ===== the class's own words, as its code says them ===== -/
abbrev cM (l : Launch) (D : va_G) (tc : Nat → ClassId) (b : Nat) (y : MethodName) (cc : ByteArray) (nL : Nat) (ret : Option FieldType) (d mc ms : Nat) (args : List Value) (w : am_W) (post : Option Value → am_W → Prop) : Prop := am_M lw_tbl vwCl l D tc b y cc nL ret d mc ms args w post
def pd_b : Bool → Int32
  | true => 1
  | false => 0
theorem pd_b_01 (x : Bool) : pd_b x = 0 ∨ pd_b x = 1 := by cases x <;> simp [pd_b]
theorem pd_be0 (x : Bool) : pd_b x = 0 ↔ x = false := by cases x <;> simp [pd_b]
theorem pd_bt : pd_b true = 1 := rfl
theorem pd_bf : pd_b false = 0 := rfl
theorem pd_b0 {x : Bool} (h : pd_b x = 0) : x = false := by cases x <;> simp [pd_b] at h ⊢
theorem pd_b1 {x : Bool} (h : ¬ pd_b x = 0) : x = true := by cases x <;> simp [pd_b] at h ⊢
/-- the disk's length: 64 bytes a sector, at most 64 sectors -/
def pd_sz (S : Int32) (n : Nat) : Prop := ∃ N : Nat, S = nI N ∧ n = 64 * N ∧ N ≤ 64
def pd_holds (S s i : Int32) : Bool := !decide (s < 0) && !decide (S ≤ s) && !decide (i < 0) && !decide (64 ≤ i)
theorem pd_holds_nat {S s i : Int32} {n : Nat} (hn : pd_sz S n) (h : pd_holds S s i = true) : ∃ a c : Nat, 64 * a + 64 ≤ n ∧ c < 64 ∧ s = nI a ∧ i = nI c ∧ s * 64 + i = nI (a * 64 + c) := by
  obtain ⟨N, rfl, rfl, hN⟩ := hn
  simp only [pd_holds, Bool.and_eq_true, Bool.not_eq_true', decide_eq_false_iff_not] at h
  obtain ⟨⟨⟨h1, h2⟩, h3⟩, h4⟩ := h
  rcases pk_ix s (n := N) (by omega) with q | q | ⟨a, ha, rfl⟩
  · exact absurd q h1
  · exact absurd q h2
  rcases pk_ix i (n := 64) (by omega) with q | q | ⟨c, hc, rfl⟩
  · exact absurd q h3
  · exact absurd q h4
  refine ⟨a, c, by omega, hc, rfl, rfl, ?_⟩
  rw [show (64 : Int32) = nI 64 from rfl, pk_mul, nI_add]
theorem pd_in {S s i : Int32} {n : Nat} (hn : pd_sz S n) (h : pd_holds S s i = true) : vp_in (s * 64 + i) n := by
  obtain ⟨a, c, h1, h2, -, -, e⟩ := pd_holds_nat hn h
  obtain ⟨N, -, hN, hN2⟩ := hn
  rw [e]
  exact vp_in_nI (by omega) (by omega)
def pd_look (f : Nat → Int32) (S s i : Int32) : Int32 := bif pd_holds S s i then f (s * 64 + i).toNatClampNeg &&& 255 else 0
def pd_set (f : Nat → Int32) (S s i x : Int32) : Nat → Int32 := bif pd_holds S s i then upd f (s * 64 + i).toNatClampNeg (vp_nar .byte x.toInt8.toInt32) else f
def pd_four (f : Nat → Int32) (S s i : Int32) : Int32 := (pd_look f S s i <<< (24 &&& 31)) ||| (pd_look f S s (i + 1) <<< (16 &&& 31)) ||| (pd_look f S s (i + 2) <<< (8 &&& 31)) ||| pd_look f S s (i + 3)
def pd_sw (x y : Int32) : Int32 := (((x ^^^ y) <<< (3 &&& 31)) ||| ((x ^^^ y).toUInt32 >>> ((29 : Int32).toUInt32 &&& Int32.toUInt32 31)).toInt32) * (-2048144777)
def pd_sum (f : Nat → Int32) (S s : Int32) : Nat → Int32
  | 0 => 0
  | k + 1 => pd_sw (pd_sum f S s k) (pd_look f S s (nI k))
theorem pd_sum_0 (f : Nat → Int32) (S s : Int32) : pd_sum f S s 0 = 0 := by simp only [pd_sum]
theorem pd_sum_s (f : Nat → Int32) (S s : Int32) (k : Nat) : pd_sum f S s (k + 1) = pd_sw (pd_sum f S s k) (pd_look f S s (nI k)) := by simp only [pd_sum]
def pd_whole (f : Nat → Int32) (S s : Int32) : Bool := !decide (pd_look f S s 0 = 0) && decide (pd_sum f S s 60 = pd_four f S s 60)
def pd_kind (m : Int32) : Int32 := (m - 1) &&& 15
def pd_mark (m : Int32) : Bool := !decide (m < 1) && !decide (26 < m) && !decide (9 < pd_kind m)
def pd_row (f : Nat → Int32) (S s : Int32) : Bool := pd_mark (pd_look f S s 0) && !decide (40 < pd_look f S s 5) && pd_whole f S s
def pd_event (f : Nat → Int32) (S s : Int32) : Bool := !decide (pd_look f S s 0 ≤ 16)
section PD
variable (l : Launch) (D : va_G) (tc : Nat → ClassId) (b : Nat)
set_option maxHeartbeats 4000000 in
set_option maxRecDepth 100000 in
theorem c_sumWith (w : am_W) (x y : Int32)  : cM l D tc b yX4_sumWith cX4_sumWith 3 (some .int) 1 0 0 [.int x, .int y] w
    (am_is (some (.int (pd_sw x y))) w) := by
  refine am_m (own := RX4) (ini := (false, [])) (L := [some (.int x), some (.int y), none]) rfl (by decide) (fun h => absurd h (by decide)) rfl (Nat.le_of_ble_eq_true rfl) rfl rfl ?_
  iterate 13 refine am_s am_cls okX4_sumWith rfl ?_
  refine am_ri okX4_sumWith rfl rfl rfl (Nat.le_refl _) (Nat.le_refl _) ?_
  exact ⟨rfl, rfl⟩
set_option maxHeartbeats 4000000 in
set_option maxRecDepth 100000 in
theorem c_kindOf (w : am_W) (x : Int32)  : cM l D tc b yX4_kindOf cX4_kindOf 1 (some .int) 1 0 0 [.int x] w
    (am_is (some (.int (pd_kind x))) w) := by
  refine am_m (own := RX4) (ini := (false, [])) (L := [some (.int x)]) rfl (by decide) (fun h => absurd h (by decide)) rfl (Nat.le_of_ble_eq_true rfl) rfl rfl ?_
  iterate 5 refine am_s am_cls okX4_kindOf rfl ?_
  refine am_ri okX4_kindOf rfl rfl rfl (Nat.le_refl _) (Nat.le_refl _) ?_
  exact ⟨rfl, rfl⟩
set_option maxHeartbeats 4000000 in
set_option maxRecDepth 100000 in
theorem c_isRowMark (w : am_W) (x : Int32)  : cM l D tc b yX4_isRowMark cX4_isRowMark 1 (some .boolean) 2 0 0 [.int x] w
    (am_is (some (.int (pd_b (pd_mark x)))) w) := by
  refine am_m (own := RX4) (ini := (false, [])) (L := [some (.int x)]) rfl (by decide) (fun h => absurd h (by decide)) rfl (Nat.le_of_ble_eq_true rfl) rfl rfl ?_
  iterate 2 refine am_s am_cls okX4_isRowMark rfl ?_
  refine am_b okX4_isRowMark rfl (fun h2 => ?_) (fun h2 => ?_)
  · skip
    refine am_s am_cls okX4_isRowMark rfl ?_
    refine am_rz okX4_isRowMark rfl rfl rfl (by decide) (Nat.le_refl _) (Nat.le_refl _) ?_
    exact ⟨by simp [pd_mark, pd_bt, pd_bf, *], rfl⟩
  · skip
    iterate 2 refine am_s am_cls okX4_isRowMark rfl ?_
    refine am_b okX4_isRowMark rfl (fun h8 => ?_) (fun h8 => ?_)
    · skip
      refine am_s am_cls okX4_isRowMark rfl ?_
      refine am_rz okX4_isRowMark rfl rfl rfl (by decide) (Nat.le_refl _) (Nat.le_refl _) ?_
      exact ⟨by simp [pd_mark, pd_bt, pd_bf, *], rfl⟩
    · skip
      refine am_s am_cls okX4_isRowMark rfl ?_
      refine am_cS okX4_isRowMark rfl (c_kindOf l D tc b _ _) cs_X4_145 coX4_kindOf rfl ⟨rfl, rfl, rfl⟩ ⟨Nat.le_refl _, Nat.le_refl _⟩ ?_
      rintro _ _ ⟨rfl, rfl⟩
      refine am_s am_cls okX4_isRowMark rfl ?_
      refine am_b okX4_isRowMark rfl (fun h17 => ?_) (fun h17 => ?_)
      · skip
        refine am_s am_cls okX4_isRowMark rfl ?_
        refine am_rz okX4_isRowMark rfl rfl rfl (by decide) (Nat.le_refl _) (Nat.le_refl _) ?_
        exact ⟨by simp [pd_mark, pd_bt, pd_bf, *], rfl⟩
      · skip
        iterate 2 refine am_s am_cls okX4_isRowMark rfl ?_
        refine am_rz okX4_isRowMark rfl rfl rfl (by decide) (Nat.le_refl _) (Nat.le_refl _) ?_
        exact ⟨by simp [pd_mark, pd_bt, pd_bf, *], rfl⟩
set_option maxHeartbeats 4000000 in
set_option maxRecDepth 100000 in
theorem c_holds (c0 : am_E) (rest : am_W) (n : Nat) (f : Nat → Int32) (S wr cu te s i : Int32)  : cM l D tc b yX2_holds cX2_holds 3 (some .boolean) 1 0 0 [.ref 1, .int s, .int i] (c0 :: .inr (2, [.int S, .ref 2, .int wr, .int cu, .int te]) :: .inl (0, n, .inl f) :: rest)
    (am_is (some (.int (pd_b (pd_holds S s i)))) (c0 :: .inr (2, [.int S, .ref 2, .int wr, .int cu, .int te]) :: .inl (0, n, .inl f) :: rest)) := by
  refine am_m (own := RX2) (ini := (false, [])) (L := [some (.ref 1), some (.int s), some (.int i)]) rfl (by decide) (fun h => absurd h (by decide)) rfl (Nat.le_of_ble_eq_true rfl) rfl rfl ?_
  refine am_s am_cls okX2_holds rfl ?_
  refine am_b okX2_holds rfl (fun h1 => ?_) (fun h1 => ?_)
  · skip
    refine am_s am_cls okX2_holds rfl ?_
    refine am_rz okX2_holds rfl rfl rfl (by decide) (Nat.le_refl _) (Nat.le_refl _) ?_
    exact ⟨by simp [pd_holds, pd_bt, pd_bf, *], rfl⟩
  · skip
    iterate 3 refine am_s am_cls okX2_holds rfl ?_
    refine am_b okX2_holds rfl (fun h9 => ?_) (fun h9 => ?_)
    · skip
      refine am_s am_cls okX2_holds rfl ?_
      refine am_rz okX2_holds rfl rfl rfl (by decide) (Nat.le_refl _) (Nat.le_refl _) ?_
      exact ⟨by simp [pd_holds, pd_bt, pd_bf, *], rfl⟩
    · skip
      refine am_s am_cls okX2_holds rfl ?_
      refine am_b okX2_holds rfl (fun h13 => ?_) (fun h13 => ?_)
      · skip
        refine am_s am_cls okX2_holds rfl ?_
        refine am_rz okX2_holds rfl rfl rfl (by decide) (Nat.le_refl _) (Nat.le_refl _) ?_
        exact ⟨by simp [pd_holds, pd_bt, pd_bf, *], rfl⟩
      · skip
        iterate 2 refine am_s am_cls okX2_holds rfl ?_
        refine am_b okX2_holds rfl (fun h19 => ?_) (fun h19 => ?_)
        · skip
          refine am_s am_cls okX2_holds rfl ?_
          refine am_rz okX2_holds rfl rfl rfl (by decide) (Nat.le_refl _) (Nat.le_refl _) ?_
          exact ⟨by simp [pd_holds, pd_bt, pd_bf, *], rfl⟩
        · skip
          iterate 2 refine am_s am_cls okX2_holds rfl ?_
          refine am_rz okX2_holds rfl rfl rfl (by decide) (Nat.le_refl _) (Nat.le_refl _) ?_
          exact ⟨by simp [pd_holds, pd_bt, pd_bf, *], rfl⟩
set_option maxHeartbeats 4000000 in
set_option maxRecDepth 100000 in
theorem c_look (c0 : am_E) (rest : am_W) (n : Nat) (f : Nat → Int32) (S wr cu te s i : Int32) (hn : pd_sz S n) : cM l D tc b yX2_look cX2_look 3 (some .int) 2 0 0 [.ref 1, .int s, .int i] (c0 :: .inr (2, [.int S, .ref 2, .int wr, .int cu, .int te]) :: .inl (0, n, .inl f) :: rest)
    (am_is (some (.int (pd_look f S s i))) (c0 :: .inr (2, [.int S, .ref 2, .int wr, .int cu, .int te]) :: .inl (0, n, .inl f) :: rest)) := by
  refine am_m (own := RX2) (ini := (false, [])) (L := [some (.ref 1), some (.int s), some (.int i)]) rfl (by decide) (fun h => absurd h (by decide)) rfl (Nat.le_of_ble_eq_true rfl) rfl rfl ?_
  iterate 3 refine am_s am_cls okX2_look rfl ?_
  refine am_cV okX2_look rfl (c_holds l D tc b c0 rest n f S wr cu te s i) cv_X2_31 coX2_holds rfl rfl rfl ⟨rfl, rfl, rfl⟩ ⟨Nat.le_refl _, Nat.le_refl _⟩ ?_
  rintro _ _ ⟨rfl, rfl⟩
  refine am_b okX2_look rfl (fun h6 => ?_) (fun h6 => ?_)
  · try replace h6 := pd_b0 h6
    refine am_s am_cls okX2_look rfl ?_
    refine am_ri okX2_look rfl rfl rfl (Nat.le_refl _) (Nat.le_refl _) ?_
    exact ⟨by rw [pd_look, h6]; rfl, rfl⟩
  · try replace h6 := pd_b1 h6
    iterate 7 refine am_s am_cls okX2_look rfl ?_
    refine am_al okX2_look rfl (pd_in hn h6) ?_
    iterate 3 refine am_s am_cls okX2_look rfl ?_
    refine am_ri okX2_look rfl rfl rfl (Nat.le_refl _) (Nat.le_refl _) ?_
    exact ⟨by rw [pd_look, h6]; rfl, rfl⟩
set_option maxHeartbeats 4000000 in
set_option maxRecDepth 100000 in
theorem c_pset (c0 : am_E) (rest : am_W) (n : Nat) (f : Nat → Int32) (S wr cu te s i : Int32) (x : Int32) (hn : pd_sz S n) : cM l D tc b yX2_set cX2_set 4 none 2 0 0 [.ref 1, .int s, .int i, .int x] (c0 :: .inr (2, [.int S, .ref 2, .int wr, .int cu, .int te]) :: .inl (0, n, .inl f) :: rest)
    (am_is none (c0 :: .inr (2, [.int S, .ref 2, .int wr, .int cu, .int te]) :: .inl (0, n, .inl (pd_set f S s i x)) :: rest)) := by
  refine am_m (own := RX2) (ini := (false, [])) (L := [some (.ref 1), some (.int s), some (.int i), some (.int x)]) rfl (by decide) (fun h => absurd h (by decide)) rfl (Nat.le_of_ble_eq_true rfl) rfl rfl ?_
  iterate 3 refine am_s am_cls okX2_set rfl ?_
  refine am_cV okX2_set rfl (c_holds l D tc b c0 rest n f S wr cu te s i) cv_X2_31 coX2_holds rfl rfl rfl ⟨rfl, rfl, rfl⟩ ⟨Nat.le_refl _, Nat.le_refl _⟩ ?_
  rintro _ _ ⟨rfl, rfl⟩
  refine am_b okX2_set rfl (fun h6 => ?_) (fun h6 => ?_)
  · try replace h6 := pd_b0 h6
    refine am_rv okX2_set rfl rfl rfl (Nat.le_refl _) (Nat.le_refl _) ?_
    exact ⟨rfl, by rw [pd_set, h6]; rfl⟩
  · try replace h6 := pd_b1 h6
    iterate 9 refine am_s am_cls okX2_set rfl ?_
    refine am_as okX2_set rfl (pd_in hn h6) ?_
    refine am_rv okX2_set rfl rfl rfl (Nat.le_refl _) (Nat.le_refl _) ?_
    exact ⟨rfl, by rw [pd_set, h6]; rfl⟩
set_option maxHeartbeats 4000000 in
set_option maxRecDepth 100000 in
theorem c_four (c0 : am_E) (rest : am_W) (n : Nat) (f : Nat → Int32) (S wr cu te s i : Int32) (hn : pd_sz S n) : cM l D tc b yX2_fourBytes cX2_fourBytes 3 (some .int) 3 0 0 [.ref 1, .int s, .int i] (c0 :: .inr (2, [.int S, .ref 2, .int wr, .int cu, .int te]) :: .inl (0, n, .inl f) :: rest)
    (am_is (some (.int (pd_four f S s i))) (c0 :: .inr (2, [.int S, .ref 2, .int wr, .int cu, .int te]) :: .inl (0, n, .inl f) :: rest)) := by
  refine am_m (own := RX2) (ini := (false, [])) (L := [some (.ref 1), some (.int s), some (.int i)]) rfl (by decide) (fun h => absurd h (by decide)) rfl (Nat.le_of_ble_eq_true rfl) rfl rfl ?_
  iterate 3 refine am_s am_cls okX2_fourBytes rfl ?_
  refine am_cV okX2_fourBytes rfl (c_look l D tc b c0 rest n f S wr cu te _ _ hn) cv_X2_35 coX2_look rfl rfl rfl ⟨rfl, rfl, rfl⟩ ⟨Nat.le_refl _, Nat.le_refl _⟩ ?_
  rintro _ _ ⟨rfl, rfl⟩
  iterate 7 refine am_s am_cls okX2_fourBytes rfl ?_
  refine am_cV okX2_fourBytes rfl (c_look l D tc b c0 rest n f S wr cu te _ _ hn) cv_X2_35 coX2_look rfl rfl rfl ⟨rfl, rfl, rfl⟩ ⟨Nat.le_refl _, Nat.le_refl _⟩ ?_
  rintro _ _ ⟨rfl, rfl⟩
  iterate 8 refine am_s am_cls okX2_fourBytes rfl ?_
  refine am_cV okX2_fourBytes rfl (c_look l D tc b c0 rest n f S wr cu te _ _ hn) cv_X2_35 coX2_look rfl rfl rfl ⟨rfl, rfl, rfl⟩ ⟨Nat.le_refl _, Nat.le_refl _⟩ ?_
  rintro _ _ ⟨rfl, rfl⟩
  iterate 8 refine am_s am_cls okX2_fourBytes rfl ?_
  refine am_cV okX2_fourBytes rfl (c_look l D tc b c0 rest n f S wr cu te _ _ hn) cv_X2_35 coX2_look rfl rfl rfl ⟨rfl, rfl, rfl⟩ ⟨Nat.le_refl _, Nat.le_refl _⟩ ?_
  rintro _ _ ⟨rfl, rfl⟩
  refine am_s am_cls okX2_fourBytes rfl ?_
  refine am_ri okX2_fourBytes rfl rfl rfl (Nat.le_refl _) (Nat.le_refl _) ?_
  exact ⟨rfl, rfl⟩
end PD
