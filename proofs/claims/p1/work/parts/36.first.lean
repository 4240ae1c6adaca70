/-! ===== printed by wip/pd_first.py: one call at the beginning ===== -/
def p1_w (S : Int32) (a : Nat) : am_W := .inr (4, [.ref 1, .int (if 50 < S - 2 then 50 else S - 2), .ref 3, .ref 5, .ref 8, .int 0]) :: .inr (2, [.int S, .ref 2, .int 0, .int (-1), .int 0]) :: .inl (0, 64 * a, .inl (fun _ => 0)) :: .inr (1, [.ref 4, .int 0]) :: .inl (0, 64, .inl (fun _ => 0)) :: .inr (0, [.ref 6, .ref 7, .int 0, .int 0, .int 0]) :: .inl (1, 50, .inl (fun _ => 0)) :: .inl (2, 64, .inl (fun _ => 0)) :: .inr (3, [.ref 9, .ref 10, .ref 11, .int 0]) :: .inl (0, 2040, .inl (fun _ => 0)) :: .inl (1, 51, .inl (fun _ => 0)) :: .inl (1, 51, .inl (fun _ => 0)) :: .inr (5, [.int 0, .int S, .ref 13, .int 0, .int 0, .int 0, .int 0, .int 0, .int 0, .int 0, .int 0, .ref 14, .int 1, .int 0, .ref 15, .ref 16, .ref 17, .ref 18, .int 0, .ref 19, .ref 20]) :: .inl (1, 4096, .inl (fun _ => 0)) :: .inl (1, 50, .inl (fun _ => 0)) :: .inl (1, 50, .inl (fun _ => 0)) :: .inl (1, 50, .inl (fun _ => 0)) :: .inl (1, 50, .inl (fun _ => 0)) :: .inl (1, 2000, .inl (fun _ => 0)) :: .inl (1, 40, .inl (fun _ => 0)) :: .inl (1, 64, .inl (fun _ => 0)) :: .inl (3, 1, .inr (.inl (fun _ => 0))) :: []
def p1_Sim (n : Nat) (w : am_W) : Prop := n = 0 → ∃ a : Nat, 16 ≤ a ∧ a ≤ 64 ∧ w = p1_w (nI a) a
theorem p1_stay (n : Nat) (w : am_W) (_ : p1_Sim n w) : p1_Sim (n + 1) w := fun h => absurd h (Nat.succ_ne_zero n)
theorem p1_nx (n : Nat) (w : am_W) : p1_Sim (n + 1) w := fun h => absurd h (Nat.succ_ne_zero n)
theorem p1_S (x : Int32) : rf_S x = pd_S x := by
  unfold rf_S pd_S
  have e16 : (16 : Int32).toInt = 16 := rfl
  have e64 : (64 : Int32).toInt = 64 := rfl
  by_cases h3 : 16 ≤ x
  · rw [if_neg (fun q => q h3)]
    by_cases h4 : x ≤ 64
    · rw [if_neg (fun q => q h4)]
      by_cases h5 : x < 64
      · rw [if_pos h5]
        by_cases h6 : 16 < x
        · rw [if_pos h6]
        · have e : x = 16 := by
            apply Int32.toInt_inj.mp
            simp only [Int32.le_iff_toInt_le, Int32.lt_iff_toInt_lt, e16] at *
            omega
          subst e
          rw [if_neg h6]
      · have e : x = 64 := by
          apply Int32.toInt_inj.mp
          simp only [Int32.le_iff_toInt_le, Int32.lt_iff_toInt_lt, e64] at *
          omega
        subst e
        decide
    · have h5 : ¬ x < 64 := by
        simp only [Int32.le_iff_toInt_le, Int32.lt_iff_toInt_lt, e64] at *
        omega
      rw [if_pos h4, if_neg h5]
      decide
  · have h5 : x < 64 := by
      simp only [Int32.le_iff_toInt_le, Int32.lt_iff_toInt_lt, e16, e64] at *
      omega
    have h6 : ¬ 16 < x := by
      simp only [Int32.le_iff_toInt_le, Int32.lt_iff_toInt_lt, e16, e64] at *
      omega
    rw [if_pos h3, if_pos h5, if_neg h6]
theorem p1_room : ∀ a : Nat, a < 65 → 16 ≤ a → (pd_room 0 0 (if 50 < nI a - 2 then 50 else nI a - 2) 0 = true ∧ pd_room 0 0 (if 50 < nI a - 2 then 50 else nI a - 2) 1 = true ∧ rf_room (nI a) 0 0 0 = true ∧ rf_room (nI a) 0 0 1 = true) := by decide +kernel
theorem p1_sec (so : Nat → Int32) (k : Int32) : hd_sec so 0 k = -1 := by
  unfold hd_sec
  by_cases h : k < 0
  · simp [h]
  · rw [show decide ((0 : Int32) ≤ k) = true from decide_eq_true (Int32.not_lt.mp h)]
    simp
theorem p1_lf (u : Nat → Int32) : hd_lf u (-1) 62 2 = -1 := by
  show hd_lf u (-1) (61 + 1) 2 = -1
  rw [hd_lf, show decide ((-1 : Int32) ≤ nI 2) = true from by decide]
  rfl
theorem p1_63 (y : Int32) : y < 64 ↔ y ≤ 63 := by
  rw [Int32.lt_iff_toInt_lt, Int32.le_iff_toInt_le, show (64 : Int32).toInt = 64 from rfl, show (63 : Int32).toInt = 63 from rfl]
  omega
theorem p1_ne {x c : Int32} (h : ¬ x = c) : x.toInt ≠ c.toInt := fun q => h (Int32.toInt_inj.mp q)
theorem q1_count (ke en ge gr ol x : Int32) : pd_count ke en ge gr ol x = if x < 0 then -12 else if ¬ x ≤ 4 then -12 else if ¬ 2 ≤ x then (if x = 0 then ke else en) else if x = 2 then ge else if x = 3 then gr else ol := by
  by_cases h0 : x = 0
  · subst h0; rfl
  by_cases h1 : x = 1
  · subst h1; rfl
  by_cases h2 : x = 2
  · subst h2; rfl
  by_cases h3 : x = 3
  · subst h3; rfl
  by_cases h4 : x = 4
  · subst h4; rfl
  have i0 := p1_ne h0
  have i1 := p1_ne h1
  have i2 := p1_ne h2
  have i3 := p1_ne h3
  have i4 := p1_ne h4
  rw [show (0 : Int32).toInt = 0 from rfl] at i0
  rw [show (1 : Int32).toInt = 1 from rfl] at i1
  rw [show (2 : Int32).toInt = 2 from rfl] at i2
  rw [show (3 : Int32).toInt = 3 from rfl] at i3
  rw [show (4 : Int32).toInt = 4 from rfl] at i4
  rw [pd_count_o (by omega)]
  by_cases n0 : x < 0
  · rw [if_pos n0]
  · rw [if_neg n0, if_pos]
    rw [Int32.lt_iff_toInt_lt, show (0 : Int32).toInt = 0 from rfl] at n0
    rw [Int32.le_iff_toInt_le, show (4 : Int32).toInt = 4 from rfl]
    omega
theorem q1_row (f so : Nat → Int32) (S k x : Int32) : pd_rowv f S (hd_sec so 0 k) x = if x < 0 then -12 else if ¬ x ≤ 4 then -12 else -1 := by
  rw [p1_sec]
  unfold pd_rowv
  by_cases h1 : x < 0
  · simp [h1]
  · by_cases h2 : x ≤ 4
    · simp [h1, h2]
    · simp [h1, h2]
theorem q1_wrong (f so : Nat → Int32) (S x : Int32) : (bif decide (x < 0) || !decide (x ≤ 1) then (-12 : Int32) else pd_wl f S so 0 x (0 : Int32).toNatClampNeg 0 0) = if x < 0 then -12 else if ¬ x ≤ 1 then -12 else if x = 0 then 0 else -1 := by
  rw [show (0 : Int32).toNatClampNeg = 0 from rfl, pd_wl]
  by_cases h1 : x < 0
  · simp [h1]
  · by_cases h2 : x ≤ 1
    · by_cases h3 : x = 0
      · subst h3; decide
      · have h4 : x = 1 := by
          have i0 := p1_ne h3
          rw [show (0 : Int32).toInt = 0 from rfl] at i0
          rw [Int32.lt_iff_toInt_lt, show (0 : Int32).toInt = 0 from rfl] at h1
          rw [Int32.le_iff_toInt_le, show (1 : Int32).toInt = 1 from rfl] at h2
          apply Int32.toInt_inj.mp
          rw [show (1 : Int32).toInt = 1 from rfl]
          omega
        subst h4; decide
    · simp [h1, h2]
theorem p1_b8 (x : Int32) : x.toInt8.toInt32 &&& 255 = x &&& 255 := by
  apply Int32.toBitVec_inj.mp
  rw [Int32.toBitVec_and, Int32.toBitVec_and, Int8.toBitVec_toInt32, Int32.toBitVec_toInt8]
  apply BitVec.eq_of_getLsbD_eq
  intro i hi
  rw [BitVec.getLsbD_and, BitVec.getLsbD_and]
  have hm : ∀ i < 32, 8 ≤ i → (255 : Int32).toBitVec.getLsbD i = false := by decide
  rcases Nat.lt_or_ge i 8 with z | z
  · rw [BitVec.getLsbD_signExtend, BitVec.getLsbD_signExtend, if_pos z, if_pos hi]
    simp only [z, hi, decide_true, Bool.true_and]
  · rw [hm i hi z]; simp
theorem p1_look {S s i x : Int32} (f : Nat → Int32) (h : pd_holds S s i = true) : pd_look (pd_set f S s i x) S s i = x &&& 255 := by
  unfold pd_look pd_set
  rw [h]
  simp only [cond_true, upd, if_true]
  rw [pk_vb, p1_b8]
theorem vp_upd0 (q : Nat → Int64) (v : Int64) : vp_updL q (0 : Int32).toNatClampNeg v (0 : Int32).toNatClampNeg = v := by simp [vp_updL]
theorem p1_look0 (S s i : Int32) : pd_look (fun _ => 0) S s i = 0 := by
  unfold pd_look
  cases pd_holds S s i
  · rfl
  · show (0 : Int32) &&& 255 = 0
    decide
theorem p1_mg0 {rest : am_W} {n : Nat} {mr S te gr : Int32} {co le ma : Nat → Int32} {en : Int32} {so us : Nat → Int32} {ge : Int32} {f g : Nat → Int32} {fi wr cu : Int32} {v : Option Value} {w : am_W} {x : Int32} (hx : x.toNatClampNeg = 0) (h : mgP rest n mr S te 0 gr co le ma en x.toNatClampNeg 0 (so, us, ge, f, g, fi, wr, cu) v w) : am_is (some (.int (nI 0))) (.inr (4, [.ref 1, .int mr, .ref 3, .ref 5, .ref 8, .int 0]) :: .inr (2, [.int S, .ref 2, .int wr, .int cu, .int te]) :: .inl (0, n, .inl f) :: .inr (1, [.ref 4, .int fi]) :: .inl (0, 64, .inl g) :: .inr (0, [.ref 6, .ref 7, .int 0, .int ge, .int gr]) :: .inl (1, 50, .inl so) :: .inl (2, 64, .inl us) :: .inr (3, [.ref 9, .ref 10, .ref 11, .int en]) :: .inl (0, 2040, .inl co) :: .inl (1, 51, .inl le) :: .inl (1, 51, .inl ma) :: rest) v w := by
  rw [hx] at h
  simp only [mgP] at h
  exact h
theorem p1_mgs {rest : am_W} {n : Nat} {mr S te gr : Int32} {co le ma : Nat → Int32} {en : Int32} {so us : Nat → Int32} {ge : Int32} {f g : Nat → Int32} {fi wr cu : Int32} {v : Option Value} {w : am_W} {x : Int32} {m : Nat} (hx : x.toNatClampNeg = m + 1) (h : mgP rest n mr S te 0 gr co le ma en x.toNatClampNeg 0 (so, us, ge, f, g, fi, wr, cu) v w) : am_is (some (.int (nI 0))) (.inr (4, [.ref 1, .int mr, .ref 3, .ref 5, .ref 8, .int 0]) :: .inr (2, [.int S, .ref 2, .int wr, .int cu, .int te]) :: .inl (0, n, .inl f) :: .inr (1, [.ref 4, .int fi]) :: .inl (0, 64, .inl g) :: .inr (0, [.ref 6, .ref 7, .int 0, .int ge, .int gr]) :: .inl (1, 50, .inl so) :: .inl (2, 64, .inl (hd_us so 0 us)) :: .inr (3, [.ref 9, .ref 10, .ref 11, .int en]) :: .inl (0, 2040, .inl co) :: .inl (1, 51, .inl le) :: .inl (1, 51, .inl ma) :: rest) v w := by
  rw [hx] at h
  simp only [mgP] at h
  rcases h with ⟨-, h⟩ | ⟨q, -⟩ | ⟨q, -⟩ | ⟨q, -⟩
  · exact h
  all_goals
    rw [p1_sec, p1_lf] at q
    exact absurd rfl q
section P1
variable (l : Launch) (D : va_G) (tc : Nat → ClassId) (b : Nat)
set_option maxHeartbeats 4000000 in
set_option maxRecDepth 100000 in
theorem p1_init : lh_init l D tc b p1_Sim := by
  intro v
  obtain ⟨a, ha, h1, h2⟩ := pd_S_nat v
  have hc := dp_M (d' := 8) (by decide) (c_disk0 l D tc b v a ha h1 h2)
  have hr := dp_M (d' := 8) (by decide) (r_init l D tc b (.inr (4, [.ref 1, .int (if 50 < nI a - 2 then 50 else nI a - 2), .ref 3, .ref 5, .ref 8, .int 0])) (.inr (2, [.int (nI a), .ref 2, .int 0, .int (-1), .int 0])) (.inl (0, 64 * a, .inl (fun _ => 0))) (.inr (1, [.ref 4, .int 0])) (.inl (0, 64, .inl (fun _ => 0))) (.inr (0, [.ref 6, .ref 7, .int 0, .int 0, .int 0])) (.inl (1, 50, .inl (fun _ => 0))) (.inl (2, 64, .inl (fun _ => 0))) (.inr (3, [.ref 9, .ref 10, .ref 11, .int 0])) (.inl (0, 2040, .inl (fun _ => 0))) (.inl (1, 51, .inl (fun _ => 0))) (.inl (1, 51, .inl (fun _ => 0))) v)
  rw [p1_S, ha] at hr
  rw [ha] at hc
  exact ⟨_, _, hc, rfl, hr, rfl, fun _ => ⟨a, h1, h2, rfl⟩⟩
set_option maxHeartbeats 4000000 in
set_option maxRecDepth 100000 in
theorem p1_add : lh_add l D tc b p1_Sim 5 := by
  intro n w x hs hle
  obtain ⟨a, h1, h2, rfl⟩ := hs (by omega)
  have hn : pd_sz (nI a) (64 * a) := ⟨a, rfl, rfl, h2⟩
  unfold p1_w
  refine ⟨_, _, _, _, _, _, rfl, dp_M (by decide) (c_add_u l D tc b _ _ _ _ _ _ _ _ _ _ _ _ _ _ _ _ _ _ _ _), rfl, dp_M (by decide) (am_Mpo (fun v w h => h.elim (fun q => absurd q.1 (by decide)) (fun q => q.2)) (r_add_u l D tc b _ _ _ _ _ _ _ _ _ _ _ _ _ _ _ _ _ _ _ _ _ _ _ _ _ _ _ _ _ _ _ _ _ _ (fun _ => vp_in_nI (n := 0) (N := 40) (by decide) (by decide)))), fun _ => by decide, p1_nx _ _⟩
set_option maxHeartbeats 4000000 in
set_option maxRecDepth 100000 in
theorem p1_end : lh_end l D tc b p1_Sim 5 := by
  intro n w kd ev hev hs hle
  obtain ⟨a, h1, h2, rfl⟩ := hs (by omega)
  have hn : pd_sz (nI a) (64 * a) := ⟨a, rfl, rfl, h2⟩
  unfold p1_w
  obtain ⟨g1, g2, g3, g4⟩ := p1_room a (by omega) h1
  have e1 : pd_room 0 0 (if 50 < nI a - 2 then 50 else nI a - 2) ev = true := by rcases hev with rfl | rfl <;> assumption
  have e2 : rf_room (nI a) 0 0 ev = true := by rcases hev with rfl | rfl <;> assumption
  by_cases hk : kd < 0 ∨ ¬ kd ≤ 9
  · exact ⟨_, _, _, _, _, _, rfl, dp_M (by decide) (am_Mpo (fun v w h => h.elim (fun q => q.2) (fun q => q.elim (fun q => absurd hk (fun z => z.elim q.1.1 (fun z => z q.1.2.1))) (fun q => absurd hk (fun z => z.elim q.1.1 (fun z => z q.1.2.1))))) (c_end_u l D tc b _ _ _ _ _ _ _ _ _ _ _ _ _ _ _ _ _ _ _ _ _)), rfl, dp_M (by decide) (am_Mpo (fun v w h => h.elim (fun q => q.2) (fun q => absurd hk (fun z => z.elim q.1.1 (fun z => z q.1.2)))) (r_end_f l D tc b _ _ _ _ _ _ _ _ _ _ _ _ _ _ _ _ e2)), fun _ => rfl, p1_nx _ _⟩
  · exact ⟨_, _, _, _, _, _, rfl, dp_M (by decide) (am_Mpo (fun v w h => h.elim (fun q => absurd q.1 hk) (fun q => q.elim (fun q => absurd (e1.symm.trans q.1.2.2) (by decide)) (fun q => q.2))) (c_end_u l D tc b _ _ _ _ _ _ _ _ _ _ _ _ _ _ _ _ _ _ _ _ _)), rfl, dp_M (by decide) (am_Mpo (fun v w h => h.elim (fun q => absurd q.1 hk) (fun q => q.2)) (r_end_f l D tc b _ _ _ _ _ _ _ _ _ _ _ _ _ _ _ _ e2)), fun _ => rfl, p1_nx _ _⟩
set_option maxHeartbeats 4000000 in
set_option maxRecDepth 100000 in
theorem p1_sync : lh_sync l D tc b p1_Sim 5 := by
  intro n w hs hle
  obtain ⟨a, h1, h2, rfl⟩ := hs (by omega)
  have hn : pd_sz (nI a) (64 * a) := ⟨a, rfl, rfl, h2⟩
  unfold p1_w
  refine ⟨_, _, _, _, _, _, rfl, dp_M (by decide) (am_Mpo (fun v w h => h.elim (fun q => q.2) (fun q => absurd rfl q.1)) (c_sync_u l D tc b _ _ _ _ _ _ _ _ _ _ _ _ _ _ _ _ _ _ _ hn)), rfl, dp_M (by decide) (r_sync_f l D tc b _ _ _ _ _ _ _ _ _ _ _ _ _ _), fun _ => rfl, p1_nx _ _⟩
set_option maxHeartbeats 4000000 in
set_option maxRecDepth 100000 in
theorem p1_merge : lh_merge l D tc b p1_Sim 5 := by
  intro n w x hs hle
  obtain ⟨a, h1, h2, rfl⟩ := hs (by omega)
  have hn : pd_sz (nI a) (64 * a) := ⟨a, rfl, rfl, h2⟩
  unfold p1_w
  by_cases hk : x < 0 ∨ ¬ x ≤ 100
  · exact ⟨_, _, _, _, _, _, rfl, dp_M (by decide) (am_Mpo (fun v w h => h.elim (fun q => q.2) (fun q => q.elim (fun q => absurd hk (fun z => z.elim q.1.1 (fun z => z q.1.2.1))) (fun q => absurd hk (fun z => z.elim q.1.1 (fun z => z q.1.2.1))))) (c_merge_u l D tc b _ _ _ _ _ _ _ _ _ _ _ _ _ _ _ _ _ _ _ _ hn)), rfl, dp_M (by decide) (am_Mpo (fun v w h => h.elim (fun q => q.2) (fun q => absurd hk (fun z => z.elim q.1.1 (fun z => z q.1.2)))) (r_merge_f l D tc b _ _ _ _ _ _ _ _ _ _ _ _ _ _ _)), fun _ => rfl, p1_nx _ _⟩
  · cases hx : x.toNatClampNeg with
    | zero =>
      exact ⟨_, _, _, _, _, _, rfl, dp_M (by decide) (am_Mpo (fun v w h => h.elim (fun q => absurd q.1 hk) (fun q => q.elim (fun q => absurd (by decide) q.1.2.2) (fun q => p1_mg0 hx q.2))) (c_merge_u l D tc b _ _ _ _ _ _ _ _ _ _ _ _ _ _ _ _ _ _ _ _ hn)), rfl, dp_M (by decide) (am_Mpo (fun v w h => h.elim (fun q => absurd q.1 hk) (fun q => q.2)) (r_merge_f l D tc b _ _ _ _ _ _ _ _ _ _ _ _ _ _ _)), fun _ => rfl, p1_nx _ _⟩
    | succ m =>
      exact ⟨_, _, _, _, _, _, rfl, dp_M (by decide) (am_Mpo (fun v w h => h.elim (fun q => absurd q.1 hk) (fun q => q.elim (fun q => absurd (by decide) q.1.2.2) (fun q => p1_mgs hx q.2))) (c_merge_u l D tc b _ _ _ _ _ _ _ _ _ _ _ _ _ _ _ _ _ _ _ _ hn)), rfl, dp_M (by decide) (am_Mpo (fun v w h => h.elim (fun q => absurd q.1 hk) (fun q => q.2)) (r_merge_f l D tc b _ _ _ _ _ _ _ _ _ _ _ _ _ _ _)), fun _ => rfl, p1_nx _ _⟩
set_option maxHeartbeats 4000000 in
set_option maxRecDepth 100000 in
theorem p1_drop : lh_drop l D tc b p1_Sim 5 := by
  intro n w x hs hle
  obtain ⟨a, h1, h2, rfl⟩ := hs (by omega)
  have hn : pd_sz (nI a) (64 * a) := ⟨a, rfl, rfl, h2⟩
  unfold p1_w
  have e : ∀ (f so : Nat → Int32) (S : Int32), (dr f S 0 x so (0 : Int32).toNatClampNeg).2 = 0 := fun f so S => by rw [show (0 : Int32).toNatClampNeg = 0 from rfl, dr_0]
  refine ⟨_, _, _, _, _, _, rfl, dp_M (by decide) (am_Mpo (fun v w h => h.elim (fun q => q.2) (fun q => q.elim (fun q => absurd (e _ _ _) q.1) (fun q => absurd (e _ _ _) q.1))) (c_drop_u l D tc b _ _ _ _ _ _ _ _ _ _ _ _ _ _ _ _ _ _ _ _ hn)), rfl, dp_M (by decide) (r_drop_f l D tc b _ _ _ _ _ _ _ _ _ _ _ _ _ _ _), fun _ => rfl, p1_nx _ _⟩
set_option maxHeartbeats 4000000 in
set_option maxRecDepth 100000 in
theorem p1_cut : lh_cut l D tc b p1_Sim 5 := by
  intro n w x y hs hle
  obtain ⟨a, h1, h2, rfl⟩ := hs (by omega)
  have hn : pd_sz (nI a) (64 * a) := ⟨a, rfl, rfl, h2⟩
  unfold p1_w
  by_cases hk : ¬ x < -1 ∧ ¬ 1000 < x ∧ ¬ y < 0 ∧ y < 64
  · refine ⟨_, _, _, _, _, _, rfl, dp_M (by decide) (am_Mpo (fun v w h => h.elim (fun q => q.2) (fun q => absurd hk q.1)) (c_cut_u l D tc b _ _ _ _ _ _ _ _ _ _ _ _ _ _ _ _ _ _ _ _ _)), rfl, dp_M (by decide) (am_Mpo (fun v w h => h.elim (fun q => absurd q.1 ?_) (fun q => q.2)) (r_cut_u l D tc b _ _ _ _ _ _ _ _ _ _ _ _ _ _ _ _ _ _ _ _ _ _ _ _ _ _ _ _ _ _ _ _ _ _ _)), fun _ => rfl, p1_nx _ _⟩
    rintro (q | q | q | q)
    · exact hk.1 q
    · exact hk.2.1 q
    · exact hk.2.2.1 q
    · exact q ((p1_63 y).mp hk.2.2.2)
  · refine ⟨_, _, _, _, _, _, rfl, dp_M (by decide) (am_Mpo (fun v w h => h.elim (fun q => absurd q.1 hk) (fun q => q.2)) (c_cut_u l D tc b _ _ _ _ _ _ _ _ _ _ _ _ _ _ _ _ _ _ _ _ _)), rfl, dp_M (by decide) (am_Mpo (fun v w h => h.elim (fun q => q.2) (fun q => absurd ⟨q.1.1, q.1.2.1, q.1.2.2.1, (p1_63 y).mpr q.1.2.2.2⟩ hk)) (r_cut_u l D tc b _ _ _ _ _ _ _ _ _ _ _ _ _ _ _ _ _ _ _ _ _ _ _ _ _ _ _ _ _ _ _ _ _ _ _)), fun _ => rfl, p1_nx _ _⟩
set_option maxHeartbeats 4000000 in
set_option maxRecDepth 100000 in
theorem p1_start : lh_start l D tc b p1_Sim 5 := by
  intro n w hs hle
  obtain ⟨a, h1, h2, rfl⟩ := hs (by omega)
  have hn : pd_sz (nI a) (64 * a) := ⟨a, rfl, rfl, h2⟩
  unfold p1_w
  refine ⟨_, _, _, _, _, _, rfl, dp_M (by decide) (c_start_u l D tc b _ _ _ _ _ _ _ _ _ _ _ _ _ _ _ _ _ _ _), rfl, dp_M (by decide) (r_start_u l D tc b _ _ _ _ _ _ _ _ _ _ _ _ _ _ _ _ _ _ _ _ _ _ _ _ _ _ _ _ _ _ _ _ _), fun _ => rfl, p1_nx _ _⟩
set_option maxHeartbeats 4000000 in
set_option maxRecDepth 100000 in
theorem p1_count : lh_count l D tc b p1_Sim 5 := by
  intro n w x hs hle
  obtain ⟨a, h1, h2, rfl⟩ := hs (by omega)
  have hn : pd_sz (nI a) (64 * a) := ⟨a, rfl, rfl, h2⟩
  unfold p1_w
  refine ⟨_, _, _, _, _, _, rfl, dp_M (by decide) (c_count_u l D tc b _ _ _ _ _ _ _ _ _ _ _ _ _ _ _ _ _ _ _ _), rfl, dp_M (by decide) (r_count_u l D tc b _ _ _ _ _ _ _ _ _ _ _ _ _ _ _ _ _ _ _ _ _ _ _ _ _ _ _ _ _ _ _ _ _ _), fun _ => q1_count _ _ _ _ _ _, p1_nx _ _⟩
set_option maxHeartbeats 4000000 in
set_option maxRecDepth 100000 in
theorem p1_row : lh_row l D tc b p1_Sim 5 := by
  intro n w k x hs hle
  obtain ⟨a, h1, h2, rfl⟩ := hs (by omega)
  have hn : pd_sz (nI a) (64 * a) := ⟨a, rfl, rfl, h2⟩
  unfold p1_w
  refine ⟨_, _, _, _, _, _, rfl, dp_M (by decide) (c_row_u l D tc b _ _ _ _ _ _ _ _ _ _ _ _ _ _ _ _ _ _ _ _ _ hn), rfl, dp_M (by decide) (r_row_f l D tc b _ _ _ _ _ _ _ _ _ _ _ _ _ _ _ _), fun _ => q1_row _ _ _ _ _, p1_nx _ _⟩
set_option maxHeartbeats 4000000 in
set_option maxRecDepth 100000 in
theorem p1_wrong : lh_wrong l D tc b p1_Sim 5 := by
  intro n w x hs hle
  obtain ⟨a, h1, h2, rfl⟩ := hs (by omega)
  have hn : pd_sz (nI a) (64 * a) := ⟨a, rfl, rfl, h2⟩
  unfold p1_w
  refine ⟨_, _, _, _, _, _, rfl, dp_M (by decide) (c_wrong_u l D tc b _ _ _ _ _ _ _ _ _ _ _ _ _ _ _ _ _ _ _ _ hn), rfl, dp_M (by decide) (r_wrong_f l D tc b _ _ _ _ _ _ _ _ _ _ _ _ _ _ _), fun _ => q1_wrong _ _ _ _, p1_nx _ _⟩
set_option maxHeartbeats 4000000 in
set_option maxRecDepth 100000 in
theorem p1_writes : lh_writes l D tc b p1_Sim 5 := by
  intro n w hs hle
  obtain ⟨a, h1, h2, rfl⟩ := hs (by omega)
  have hn : pd_sz (nI a) (64 * a) := ⟨a, rfl, rfl, h2⟩
  unfold p1_w
  refine ⟨_, _, _, _, _, _, rfl, dp_M (by decide) (c_writes l D tc b _ _ _ _ _ _ _ _ _ _ _ _ _ _ _ _ _ _ _ _), rfl, dp_M (by decide) (r_writes l D tc b _ _ _ _ _ _ _ _ _ _ _ _ _ _ _ _ _ _ _ _ _ _ _ _ _ _ _ _ _ _ _ _ _ _), fun _ => rfl, p1_nx _ _⟩
set_option maxHeartbeats 4000000 in
set_option maxRecDepth 100000 in
theorem p1_at (hl : ∀ e : Env, l.admits e → e.platform.stackTraces = false) : lh_at l D tc b p1_Sim 5 := by
  intro n w k i hs hle
  obtain ⟨a, h1, h2, rfl⟩ := hs (by omega)
  have hn : pd_sz (nI a) (64 * a) := ⟨a, rfl, rfl, h2⟩
  unfold p1_w
  have hc := dp_MW (post' := am_is (some (.int 1)) _) (fun v w h => by
    rcases h with ⟨⟨q, -⟩, -⟩ | ⟨⟨q, -⟩, -⟩ | ⟨-, h⟩
    · exact absurd (p1_sec _ _) q
    · exact absurd (p1_sec _ _) q
    · exact h) (c_lat_u l D tc b hl (.inr (5, [.int 0, .int (nI a), .ref 13, .int 0, .int 0, .int 0, .int 0, .int 0, .int 0, .int 0, .int 0, .ref 14, .int 1, .int 0, .ref 15, .ref 16, .ref 17, .ref 18, .int 0, .ref 19, .ref 20])) (.inl (1, 4096, .inl (fun _ => 0))) (.inl (1, 50, .inl (fun _ => 0))) (.inl (1, 50, .inl (fun _ => 0))) (.inl (1, 50, .inl (fun _ => 0))) (.inl (1, 50, .inl (fun _ => 0))) (.inl (1, 2000, .inl (fun _ => 0))) (.inl (1, 40, .inl (fun _ => 0))) (.inl (1, 64, .inl (fun _ => 0))) (fun _ => 0) [] (64 * a) (if 50 < nI a - 2 then 50 else nI a - 2) (nI a) 0 (-1) 0 (fun _ => 0) (fun _ => 0) 0 (fun _ => 0) (fun _ => 0) 0 0 0 (fun _ => 0) (fun _ => 0) (fun _ => 0) 0 k i hn)
  simp only [List.cons_append, List.nil_append] at hc
  exact ⟨_, _, _, _, _, _, _, hc, rfl, dp_M (by decide) (r_at_f l D tc b _ _ _ _ _ _ _ _ _ _ _ _ _ _ _ _), rfl, dp_M (by decide) (r_thrown l D tc b _ _ _ _ _ _ _ _ _ _ _ _ _ _ _ _ _ _ _ _ _ _ _ _ _ _ _ _ _ _ _ _ _ _), rfl, fun h => absurd h (by decide), p1_nx _ _⟩
set_option maxHeartbeats 4000000 in
set_option maxRecDepth 100000 in
theorem p1_poke (hl : ∀ e : Env, l.admits e → e.platform.stackTraces = false) : lh_poke l D tc b p1_Sim 5 := by
  intro n w s i x hs hle
  obtain ⟨a, h1, h2, rfl⟩ := hs (by omega)
  have hn : pd_sz (nI a) (64 * a) := ⟨a, rfl, rfl, h2⟩
  unfold p1_w
  cases hh : pd_holds (nI a) s i
  · have hc := dp_MW (post' := am_is (some (.int 1)) _) (fun v w h => by
      rcases h with ⟨q, -⟩ | ⟨-, h⟩
      · rw [hh] at q; cases q
      · exact h) (c_lpoke l D tc b hl (.inr (5, [.int 0, .int (nI a), .ref 13, .int 0, .int 0, .int 0, .int 0, .int 0, .int 0, .int 0, .int 0, .ref 14, .int 1, .int 0, .ref 15, .ref 16, .ref 17, .ref 18, .int 0, .ref 19, .ref 20])) (.inl (1, 4096, .inl (fun _ => 0))) (.inl (1, 50, .inl (fun _ => 0))) (.inl (1, 50, .inl (fun _ => 0))) (.inl (1, 50, .inl (fun _ => 0))) (.inl (1, 50, .inl (fun _ => 0))) (.inl (1, 2000, .inl (fun _ => 0))) (.inl (1, 40, .inl (fun _ => 0))) (.inl (1, 64, .inl (fun _ => 0))) (fun _ => 0) [] (64 * a) (if 50 < nI a - 2 then 50 else nI a - 2) 0 (nI a) 0 (-1) 0 (fun _ => 0) (fun _ => 0) 0 (fun _ => 0) (fun _ => 0) 0 0 0 (fun _ => 0) (fun _ => 0) (fun _ => 0) 0 s i x hn)
    simp only [List.cons_append, List.nil_append] at hc
    exact ⟨_, _, _, _, _, _, _, hc, rfl, dp_M (by decide) (am_Mpo (fun v w h => h.elim (fun q => absurd (hh.symm.trans q.1) (by decide)) (fun q => q.2)) (r_poke l D tc b _ _ _ _ _ _ _ _ _ _ _ _ _ _ _ _ _ _ _ _ _ _ _ _ _ _ _ _ _ _ _ _ _ _ _ _ _ hn)), rfl, dp_M (by decide) (r_thrown l D tc b _ _ _ _ _ _ _ _ _ _ _ _ _ _ _ _ _ _ _ _ _ _ _ _ _ _ _ _ _ _ _ _ _ _), rfl, fun h => absurd h (by decide), p1_nx _ _⟩
  · have hc := dp_MW (post' := am_is (some (.int 0)) _) (fun v w h => by
      rcases h with ⟨-, h⟩ | ⟨q, -⟩
      · exact h
      · rw [hh] at q; cases q) (c_lpoke l D tc b hl (.inr (5, [.int 0, .int (nI a), .ref 13, .int 0, .int 0, .int 0, .int 0, .int 0, .int 0, .int 0, .int 0, .ref 14, .int 1, .int 0, .ref 15, .ref 16, .ref 17, .ref 18, .int 0, .ref 19, .ref 20])) (.inl (1, 4096, .inl (fun _ => 0))) (.inl (1, 50, .inl (fun _ => 0))) (.inl (1, 50, .inl (fun _ => 0))) (.inl (1, 50, .inl (fun _ => 0))) (.inl (1, 50, .inl (fun _ => 0))) (.inl (1, 2000, .inl (fun _ => 0))) (.inl (1, 40, .inl (fun _ => 0))) (.inl (1, 64, .inl (fun _ => 0))) (fun _ => 0) [] (64 * a) (if 50 < nI a - 2 then 50 else nI a - 2) 0 (nI a) 0 (-1) 0 (fun _ => 0) (fun _ => 0) 0 (fun _ => 0) (fun _ => 0) 0 0 0 (fun _ => 0) (fun _ => 0) (fun _ => 0) 0 s i x hn)
    exact ⟨_, _, _, _, _, _, _, hc, rfl, dp_M (by decide) (am_Mpo (fun v w h => h.elim (fun q => q.2) (fun q => absurd (hh.symm.trans q.1) (by decide))) (r_poke l D tc b _ _ _ _ _ _ _ _ _ _ _ _ _ _ _ _ _ _ _ _ _ _ _ _ _ _ _ _ _ _ _ _ _ _ _ _ _ hn)), rfl, dp_M (by decide) (r_thrown l D tc b _ _ _ _ _ _ _ _ _ _ _ _ _ _ _ _ _ _ _ _ _ _ _ _ _ _ _ _ _ _ _ _ _ _), rfl, fun _ => by rw [vp_upd0]; exact congrArg Int32.toInt64 (by rw [p1_look _ hh, p1_look0]; simp), p1_nx _ _⟩
set_option maxHeartbeats 4000000 in
set_option maxRecDepth 100000 in
theorem p1_octet (hl : ∀ e : Env, l.admits e → e.platform.stackTraces = false) : lh_octet l D tc b p1_Sim 5 := by
  intro n w s i hs hle
  obtain ⟨a, h1, h2, rfl⟩ := hs (by omega)
  have hn : pd_sz (nI a) (64 * a) := ⟨a, rfl, rfl, h2⟩
  unfold p1_w
  cases hh : pd_holds (nI a) s i
  · have hc := dp_MW (post' := am_is (some (.int 1)) _) (fun v w h => by
      rcases h with ⟨q, -⟩ | ⟨-, h⟩
      · rw [hh] at q; cases q
      · exact h) (c_loctet l D tc b hl (.inr (5, [.int 0, .int (nI a), .ref 13, .int 0, .int 0, .int 0, .int 0, .int 0, .int 0, .int 0, .int 0, .ref 14, .int 1, .int 0, .ref 15, .ref 16, .ref 17, .ref 18, .int 0, .ref 19, .ref 20])) (.inl (1, 4096, .inl (fun _ => 0))) (.inl (1, 50, .inl (fun _ => 0))) (.inl (1, 50, .inl (fun _ => 0))) (.inl (1, 50, .inl (fun _ => 0))) (.inl (1, 50, .inl (fun _ => 0))) (.inl (1, 2000, .inl (fun _ => 0))) (.inl (1, 40, .inl (fun _ => 0))) (.inl (1, 64, .inl (fun _ => 0))) (fun _ => 0) [] (64 * a) (if 50 < nI a - 2 then 50 else nI a - 2) 0 (nI a) 0 (-1) 0 (fun _ => 0) (fun _ => 0) 0 (fun _ => 0) (fun _ => 0) 0 0 0 (fun _ => 0) (fun _ => 0) (fun _ => 0) 0 s i hn)
    simp only [List.cons_append, List.nil_append] at hc
    exact ⟨_, _, _, _, _, _, _, hc, rfl, dp_M (by decide) (am_Mpo (fun v w h => h.elim (fun q => absurd (hh.symm.trans q.1) (by decide)) (fun q => q.2)) (r_octet l D tc b _ _ _ _ _ _ _ _ _ _ _ _ _ _ _ _ _ _ _ _ _ _ _ _ _ _ _ _ _ _ _ _ _ _ _ _ hn)), rfl, dp_M (by decide) (r_thrown l D tc b _ _ _ _ _ _ _ _ _ _ _ _ _ _ _ _ _ _ _ _ _ _ _ _ _ _ _ _ _ _ _ _ _ _), rfl, fun h => absurd h (by decide), p1_nx _ _⟩
  · have hc := dp_MW (post' := am_is (some (.int 0)) _) (fun v w h => by
      rcases h with ⟨-, h⟩ | ⟨q, -⟩
      · exact h
      · rw [hh] at q; cases q) (c_loctet l D tc b hl (.inr (5, [.int 0, .int (nI a), .ref 13, .int 0, .int 0, .int 0, .int 0, .int 0, .int 0, .int 0, .int 0, .ref 14, .int 1, .int 0, .ref 15, .ref 16, .ref 17, .ref 18, .int 0, .ref 19, .ref 20])) (.inl (1, 4096, .inl (fun _ => 0))) (.inl (1, 50, .inl (fun _ => 0))) (.inl (1, 50, .inl (fun _ => 0))) (.inl (1, 50, .inl (fun _ => 0))) (.inl (1, 50, .inl (fun _ => 0))) (.inl (1, 2000, .inl (fun _ => 0))) (.inl (1, 40, .inl (fun _ => 0))) (.inl (1, 64, .inl (fun _ => 0))) (fun _ => 0) [] (64 * a) (if 50 < nI a - 2 then 50 else nI a - 2) 0 (nI a) 0 (-1) 0 (fun _ => 0) (fun _ => 0) 0 (fun _ => 0) (fun _ => 0) 0 0 0 (fun _ => 0) (fun _ => 0) (fun _ => 0) 0 s i hn)
    exact ⟨_, _, _, _, _, _, _, hc, rfl, dp_M (by decide) (am_Mpo (fun v w h => h.elim (fun q => q.2) (fun q => absurd (hh.symm.trans q.1) (by decide))) (r_octet l D tc b _ _ _ _ _ _ _ _ _ _ _ _ _ _ _ _ _ _ _ _ _ _ _ _ _ _ _ _ _ _ _ _ _ _ _ _ hn)), rfl, dp_M (by decide) (r_thrown l D tc b _ _ _ _ _ _ _ _ _ _ _ _ _ _ _ _ _ _ _ _ _ _ _ _ _ _ _ _ _ _ _ _ _ _), rfl, fun _ => by rw [vp_upd0]; exact congrArg Int32.toInt64 (p1_look0 _ _ _), p1_nx _ _⟩
end P1
