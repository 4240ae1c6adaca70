/-! ===== printed by wip/pd_sim.py: the relation of class and reference ===== -/
/-- a row that waits -/
def sm_row (w : Nat) (gr : Int32) (co le ma fI nu lE bs : Nat → Int32) : Prop := fI w = ma w ∧ (∃ c : Nat, c < 256 ∧ ma w = nI c) ∧ nu w = gr + 1 + nI w ∧ ∃ L : Nat, L ≤ 40 ∧ le w = nI L ∧ lE w = nI L ∧ ∀ i, i < L → bs (40 * w + i) = co (40 * w + i) &&& 255
/-- while it is up: kept rows, rows that wait, the row that is put together -/
def sm_live (a K E Z : Nat) (so sO : Nat → Int32) (gr nx : Int32) (co le ma fI nu lE bs mA : Nat → Int32) : Prop := K ≤ 50 ∧ rf_secs sO K a ∧ sm_so K so sO ∧ (E = 0 ∨ (K + E + 2 ≤ a ∧ K + E ≤ 50)) ∧ Z ≤ 40 ∧ le E = nI Z ∧ (∀ i, i < Z → mA i = co (40 * E + i) &&& 255) ∧ nx = gr + 1 + nI E ∧ ∀ w, w < E → sm_row w gr co le ma fI nu lE bs
def sm_base (a t : Nat) (f d : Nat → Int32) (cu te go ga : Int32) : Prop := 16 ≤ a ∧ a ≤ 64 ∧ sm_disk a f d ∧ sm_cut cu te go ga t
def sm_Up (w : am_W) : Prop := ∃ (a K E Z t : Nat) (wr cu te fi ge gr th go ga nx : Int32) (f g so us co le ma d sO fI nu lE bs mA sh : Nat → Int32) (q : Nat → Int64) (rest : am_W), sm_base a t f d cu te go ga ∧ sm_live a K E Z so sO gr nx co le ma fI nu lE bs mA ∧ w = (.inr (4, [.ref 1, .int (if 50 < nI a - 2 then 50 else nI a - 2), .ref 3, .ref 5, .ref 8, .int 0]) :: .inr (2, [.int (nI a), .ref 2, .int wr, .int cu, .int te]) :: .inl (0, 64 * a, .inl f) :: .inr (1, [.ref 4, .int fi]) :: .inl (0, 64, .inl g) :: .inr (0, [.ref 6, .ref 7, .int (nI K), .int ge, .int gr]) :: .inl (1, 50, .inl so) :: .inl (2, 64, .inl us) :: .inr (3, [.ref 9, .ref 10, .ref 11, .int (nI E)]) :: .inl (0, 2040, .inl co) :: .inl (1, 51, .inl le) :: .inl (1, 51, .inl ma) :: .inr (5, [.int th, .int (nI a), .ref 13, .int wr, .int 0, .int go, .int ga, .int (nI t), .int ge, .int gr, .int (nI K), .ref 14, .int nx, .int (nI E), .ref 15, .ref 16, .ref 17, .ref 18, .int (nI Z), .ref 19, .ref 20]) :: .inl (1, 4096, .inl d) :: .inl (1, 50, .inl sO) :: .inl (1, 50, .inl fI) :: .inl (1, 50, .inl nu) :: .inl (1, 50, .inl lE) :: .inl (1, 2000, .inl bs) :: .inl (1, 40, .inl mA) :: .inl (1, 64, .inl sh) :: .inl (3, 1, .inr (.inl q)) :: rest)
def sm_Dn (w : am_W) : Prop := ∃ (a t : Nat) (wr te fi ke ge gr th ga gE gR kE nx : Int32) (f g so us co le ma d sO fI nu lE bs mA sh : Nat → Int32) (q : Nat → Int64) (rest : am_W), (16 ≤ a ∧ a ≤ 64 ∧ sm_disk a f d ∧ t < 64) ∧ le 0 = 0 ∧ w = (.inr (4, [.ref 1, .int (if 50 < nI a - 2 then 50 else nI a - 2), .ref 3, .ref 5, .ref 8, .int 1]) :: .inr (2, [.int (nI a), .ref 2, .int wr, .int (-1), .int te]) :: .inl (0, 64 * a, .inl f) :: .inr (1, [.ref 4, .int fi]) :: .inl (0, 64, .inl g) :: .inr (0, [.ref 6, .ref 7, .int ke, .int ge, .int gr]) :: .inl (1, 50, .inl so) :: .inl (2, 64, .inl us) :: .inr (3, [.ref 9, .ref 10, .ref 11, .int 0]) :: .inl (0, 2040, .inl co) :: .inl (1, 51, .inl le) :: .inl (1, 51, .inl ma) :: .inr (5, [.int th, .int (nI a), .ref 13, .int wr, .int 1, .int 0, .int ga, .int (nI t), .int gE, .int gR, .int kE, .ref 14, .int nx, .int 0, .ref 15, .ref 16, .ref 17, .ref 18, .int 0, .ref 19, .ref 20]) :: .inl (1, 4096, .inl d) :: .inl (1, 50, .inl sO) :: .inl (1, 50, .inl fI) :: .inl (1, 50, .inl nu) :: .inl (1, 50, .inl lE) :: .inl (1, 2000, .inl bs) :: .inl (1, 40, .inl mA) :: .inl (1, 64, .inl sh) :: .inl (3, 1, .inr (.inl q)) :: rest)
def ss_Sim (_ : Nat) (w : am_W) : Prop := sm_Up w ∨ sm_Dn w
theorem ss_stay (n : Nat) (w : am_W) (h : ss_Sim n w) : ss_Sim (n + 1) w := h
theorem sm_up {n a : Nat} (K E Z t : Nat) {wr cu te fi ke ge gr en th wr2 go ga tr gE gR kE nx wt sz : Int32} {f g so us co le ma d sO fI nu lE bs mA sh : Nat → Int32} {q : Nat → Int64} {rest : am_W} (hb : sm_base a t f d cu te go ga) (hl : sm_live a K E Z so sO gr nx co le ma fI nu lE bs mA) (h1 : ke = nI K) (h2 : en = nI E) (h3 : gE = ge) (h4 : gR = gr) (h5 : kE = nI K) (h6 : wt = nI E) (h7 : sz = nI Z) (h8 : tr = nI t) (h9 : wr2 = wr) : ss_Sim n (.inr (4, [.ref 1, .int (if 50 < nI a - 2 then 50 else nI a - 2), .ref 3, .ref 5, .ref 8, .int 0]) :: .inr (2, [.int (nI a), .ref 2, .int wr, .int cu, .int te]) :: .inl (0, 64 * a, .inl f) :: .inr (1, [.ref 4, .int fi]) :: .inl (0, 64, .inl g) :: .inr (0, [.ref 6, .ref 7, .int ke, .int ge, .int gr]) :: .inl (1, 50, .inl so) :: .inl (2, 64, .inl us) :: .inr (3, [.ref 9, .ref 10, .ref 11, .int en]) :: .inl (0, 2040, .inl co) :: .inl (1, 51, .inl le) :: .inl (1, 51, .inl ma) :: .inr (5, [.int th, .int (nI a), .ref 13, .int wr2, .int 0, .int go, .int ga, .int tr, .int gE, .int gR, .int kE, .ref 14, .int nx, .int wt, .ref 15, .ref 16, .ref 17, .ref 18, .int sz, .ref 19, .ref 20]) :: .inl (1, 4096, .inl d) :: .inl (1, 50, .inl sO) :: .inl (1, 50, .inl fI) :: .inl (1, 50, .inl nu) :: .inl (1, 50, .inl lE) :: .inl (1, 2000, .inl bs) :: .inl (1, 40, .inl mA) :: .inl (1, 64, .inl sh) :: .inl (3, 1, .inr (.inl q)) :: rest) := by
  subst h1 h2 h3 h4 h5 h6 h7 h8 h9
  exact Or.inl ⟨a, K, E, Z, t, _, _, _, _, _, _, _, _, _, _, _, _, _, _, _, _, _, _, _, _, _, _, _, _, _, _, _, hb, hl, rfl⟩
theorem sm_dn {n a : Nat} (t : Nat) {wr cu te fi ke ge gr en th wr2 go ga tr gE gR kE nx wt sz : Int32} {f g so us co le ma d sO fI nu lE bs mA sh : Nat → Int32} {q : Nat → Int64} {rest : am_W} (hb : 16 ≤ a ∧ a ≤ 64 ∧ sm_disk a f d ∧ t < 64) (hl : le 0 = 0) (h1 : cu = -1) (h2 : en = 0) (h3 : go = 0) (h6 : wt = 0) (h7 : sz = 0) (h8 : tr = nI t) (h9 : wr2 = wr) : ss_Sim n (.inr (4, [.ref 1, .int (if 50 < nI a - 2 then 50 else nI a - 2), .ref 3, .ref 5, .ref 8, .int 1]) :: .inr (2, [.int (nI a), .ref 2, .int wr, .int cu, .int te]) :: .inl (0, 64 * a, .inl f) :: .inr (1, [.ref 4, .int fi]) :: .inl (0, 64, .inl g) :: .inr (0, [.ref 6, .ref 7, .int ke, .int ge, .int gr]) :: .inl (1, 50, .inl so) :: .inl (2, 64, .inl us) :: .inr (3, [.ref 9, .ref 10, .ref 11, .int en]) :: .inl (0, 2040, .inl co) :: .inl (1, 51, .inl le) :: .inl (1, 51, .inl ma) :: .inr (5, [.int th, .int (nI a), .ref 13, .int wr2, .int 1, .int go, .int ga, .int tr, .int gE, .int gR, .int kE, .ref 14, .int nx, .int wt, .ref 15, .ref 16, .ref 17, .ref 18, .int sz, .ref 19, .ref 20]) :: .inl (1, 4096, .inl d) :: .inl (1, 50, .inl sO) :: .inl (1, 50, .inl fI) :: .inl (1, 50, .inl nu) :: .inl (1, 50, .inl lE) :: .inl (1, 2000, .inl bs) :: .inl (1, 40, .inl mA) :: .inl (1, 64, .inl sh) :: .inl (3, 1, .inr (.inl q)) :: rest) := by
  subst h1 h2 h3 h6 h7 h8 h9
  exact Or.inr ⟨a, t, _, _, _, _, _, _, _, _, _, _, _, _, _, _, _, _, _, _, _, _, _, _, _, _, _, _, _, _, _, hb, hl, rfl⟩
section XL
variable {a K E Z : Nat} {so sO : Nat → Int32} {gr nx : Int32} {co le ma fI nu lE bs mA : Nat → Int32}
theorem sm_live.e50 (h : sm_live a K E Z so sO gr nx co le ma fI nu lE bs mA) : E ≤ 50 := by
  obtain ⟨h1, -, -, h4, -⟩ := h
  omega
theorem sm_live.z (h : sm_live a K E Z so sO gr nx co le ma fI nu lE bs mA) : Z ≤ 40 := h.2.2.2.2.1
theorem sm_live.leE (h : sm_live a K E Z so sO gr nx co le ma fI nu lE bs mA) : le E = nI Z := h.2.2.2.2.2.1
theorem sm_live.secs (h : sm_live a K E Z so sO gr nx co le ma fI nu lE bs mA) : rf_secs sO K a := h.2.1
theorem sm_live.k (h : sm_live a K E Z so sO gr nx co le ma fI nu lE bs mA) : K ≤ 50 := h.1
theorem sm_live.sos (h : sm_live a K E Z so sO gr nx co le ma fI nu lE bs mA) : sm_so K so sO := h.2.2.1
theorem xl_ok {e : Nat} (h : e ≤ 50) : wt_ok (nI e) = true := by
  unfold wt_ok
  have q1 := xb_lt0 (n := e) (by omega)
  have q2 : ¬ (51 : Int32) ≤ nI e := fun z => by
    have z : nI 51 ≤ nI e := z
    rw [xb_le (by omega) (by omega)] at z; omega
  simp [q1, q2]
theorem xl_can (hE : E ≤ 50) (h : le E = nI Z) (hZ : Z ≤ 40) : wt_can le (nI E) = decide (Z < 40) := by
  unfold wt_can
  rw [xw_len hE h]
  have q1 := xb_lt0 (n := E) (by omega)
  have q2 : ¬ (51 : Int32) ≤ nI E := fun z => by
    have z : nI 51 ≤ nI E := z
    rw [xb_le (by omega) (by omega)] at z; omega
  have q3 := xb_lt0 (n := Z) (by omega)
  have q4 : nI Z < 40 ↔ Z < 40 := xb_lt (a := Z) (c := 40) (by omega) (by omega)
  simp only [q1, q2, q3, decide_false, Bool.not_false, Bool.true_and]
  exact decide_eq_decide.mpr q4
theorem xl_al (hE : E ≤ 50) (h : le E = nI Z) (hZ : Z < 40) : wt_al le (nI E) = upd le E (nI (Z + 1)) := by
  unfold wt_al
  rw [xl_can hE h (by omega), decide_eq_true hZ, xw_len hE h, nI_clamp (by omega), ← nI_succ]
  rfl
theorem xl_ac (hE : E ≤ 50) (h : le E = nI Z) (hZ : Z < 40) (x : Int32) : wt_ac co le (nI E) x = upd co (40 * E + Z) (vp_nar .byte x.toInt8.toInt32) := by
  unfold wt_ac
  rw [xl_can hE h (by omega), decide_eq_true hZ, xw_len hE h, show (nI E * 40 + nI Z).toNatClampNeg = 40 * E + Z from by rw [show (40 : Int32) = nI 40 from rfl, pk_mul, nI_add, nI_clamp (by omega), Nat.mul_comm]]
  rfl
theorem xl_add (h : sm_live a K E Z so sO gr nx co le ma fI nu lE bs mA) (hZ : Z < 40) (x : Int32) : sm_live a K E (Z + 1) so sO gr nx (wt_ac co le (nI E) x) (wt_al le (nI E)) ma fI nu lE bs (upd mA (nI Z).toNatClampNeg (x &&& 255)) := by
  rw [xl_al h.e50 h.leE hZ, xl_ac h.e50 h.leE hZ, nI_clamp (by omega)]
  obtain ⟨h1, h2, h3, h4, h5, h6, h7, h8, h9⟩ := h
  refine ⟨h1, h2, h3, h4, by omega, by simp [upd], fun i hi => ?_, h8, fun w hw => ?_⟩
  · by_cases e : i = Z
    · subst e
      simp only [upd, if_true]
      rw [xb_st]
    · have e2 : ¬ 40 * E + i = 40 * E + Z := by omega
      simp only [upd, if_neg e, if_neg e2]
      exact h7 i (by omega)
  · obtain ⟨r1, r2, r3, L, r4, r5, r6, r7⟩ := h9 w hw
    refine ⟨r1, r2, r3, L, r4, ?_, r6, fun i hi => ?_⟩
    · have e : ¬ w = E := by omega
      simp only [upd, if_neg e]
      exact r5
    · have e : ¬ 40 * w + i = 40 * E + Z := by omega
      simp only [upd, if_neg e]
      exact r7 i hi
theorem xl_endr (h : sm_live a K E Z so sO gr nx co le ma fI nu lE bs mA) : sm_live a K E 0 so sO gr nx co (wt_el le (nI E)) ma fI nu lE bs mA := by
  have hE := h.e50
  obtain ⟨h1, h2, h3, h4, h5, h6, h7, h8, h9⟩ := h
  have e : wt_el le (nI E) = upd le E 0 := by
    unfold wt_el
    rw [xl_ok hE, nI_clamp (by omega)]
    rfl
  rw [e]
  refine ⟨h1, h2, h3, h4, by omega, by simp [upd]; rfl, fun i hi => by omega, h8, fun w hw => ?_⟩
  obtain ⟨r1, r2, r3, L, r4, r5, r6, r7⟩ := h9 w hw
  refine ⟨r1, r2, r3, L, r4, ?_, r6, r7⟩
  have e : ¬ w = E := by omega
  simp only [upd, if_neg e]
  exact r5
theorem xl_mb (bs mA : Nat → Int32) {E : Nat} (hE : E < 50) : ∀ m, m ≤ 40 → (∀ i, i < m → rf_mb bs mA (nI E) m (40 * E + i) = mA i) ∧ ∀ j, (j < 40 * E ∨ 40 * E + m ≤ j) → rf_mb bs mA (nI E) m j = bs j := by
  intro m
  induction m with
  | zero => intro _; exact ⟨fun i hi => by omega, fun j _ => by rw [rf_mb_0]⟩
  | succ m ih =>
    intro hm
    obtain ⟨i1, i2⟩ := ih (by omega)
    have e1 : (40 * nI E + nI m).toNatClampNeg = 40 * E + m := by rw [show (40 : Int32) = nI 40 from rfl, pk_mul, nI_add, nI_clamp (by omega)]
    rw [rf_mb_s, e1, nI_clamp (n := m) (by omega)]
    refine ⟨fun i hi => ?_, fun j hj => ?_⟩
    · by_cases e : i = m
      · subst e; simp [upd]
      · have e2 : ¬ 40 * E + i = 40 * E + m := by omega
        simp only [upd, if_neg e2]
        exact i1 i (by omega)
    · have e2 : ¬ j = 40 * E + m := by omega
      simp only [upd, if_neg e2]
      exact i2 j (by omega)
theorem xl_mk (kd ev : Int32) : 1 + kd + (bif decide (ev = 0) then 0 else 16) = rf_mk kd ev := by
  unfold rf_mk
  rw [Int32.add_comm 1 kd]
  by_cases h : ev = 0
  · simp [h]
  · simp [h]
theorem xl_mkb {kd : Int32} (h1 : ¬ kd < 0) (h2 : kd ≤ 9) (ev : Int32) : ∃ c : Nat, c < 256 ∧ rf_mk kd ev = nI c := by
  rcases pk_ix kd (n := 10) (by decide) with q | q | ⟨j, hj, rfl⟩
  · exact absurd q h1
  · exact absurd (Int32.le_trans q h2) (by decide)
  · unfold rf_mk
    by_cases h : ev = 0
    · rw [if_pos h]
      exact ⟨j + 1, by omega, by rw [nI_succ]; simp⟩
    · rw [if_neg h]
      exact ⟨j + 1 + 16, by omega, by rw [← nI_succ, show (16 : Int32) = nI 16 from rfl, nI_add]⟩
theorem xl_end (h : sm_live a K E Z so sO gr nx co le ma fI nu lE bs mA) (hr1 : K + E + 1 + 2 ≤ a) (hr2 : K + E + 1 ≤ 50) {kd ev : Int32} (hk1 : ¬ kd < 0) (hk2 : kd ≤ 9) : sm_live a K (E + 1) 0 so sO gr (nx + 1) co (wt_cle le (nI E)) (wt_cm ma (nI E) (1 + kd + (bif decide (ev = 0) then 0 else 16))) (upd fI (nI E).toNatClampNeg (rf_mk kd ev)) (upd nu (nI E).toNatClampNeg nx) (upd lE (nI E).toNatClampNeg (nI Z)) (rf_mb bs mA (nI E) Z) mA := by
  obtain ⟨h1, h2, h3, h4, h5, h6, h7, h8, h9⟩ := h
  have ecl : wt_cl (nI E) = true := by
    unfold wt_cl
    have q1 := xb_lt0 (n := E) (by omega)
    have q2 : ¬ (50 : Int32) ≤ nI E := fun z => by
      have z : nI 50 ≤ nI E := z
      rw [xb_le (by omega) (by omega)] at z; omega
    simp [q1, q2]
  have e1 : wt_cle le (nI E) = upd le (E + 1) 0 := by
    unfold wt_cle wt_el
    rw [ecl, ← nI_succ, xl_ok (by omega), nI_clamp (by omega)]
    rfl
  have e2 : wt_cm ma (nI E) (1 + kd + (bif decide (ev = 0) then 0 else 16)) = upd ma E (rf_mk kd ev) := by
    unfold wt_cm
    rw [ecl, nI_clamp (by omega), xl_mk]
    rfl
  rw [e1, e2, nI_clamp (by omega)]
  obtain ⟨m1, m2⟩ := xl_mb bs mA (E := E) (by omega) Z h5
  refine ⟨h1, h2, h3, Or.inr ⟨by omega, by omega⟩, by omega, by simp [upd]; rfl, fun i hi => by omega, by rw [h8, nI_succ, Int32.add_assoc], fun w hw => ?_⟩
  by_cases ew : w = E
  · subst ew
    refine ⟨by simp [upd], ?_, by simp only [upd, if_true]; exact h8, Z, h5, ?_, by simp [upd], fun i hi => ?_⟩
    · obtain ⟨c, hc, ec⟩ := xl_mkb hk1 hk2 ev
      exact ⟨c, hc, by simp only [upd, if_true]; exact ec⟩
    · have e : ¬ w = w + 1 := by omega
      simp only [upd, if_neg e]
      exact h6
    · rw [m1 i hi]
      exact h7 i hi
  · obtain ⟨r1, r2, r3, L, r4, r5, r6, r7⟩ := h9 w (by omega)
    have e3 : ¬ w = E + 1 := by omega
    refine ⟨by simp only [upd, if_neg ew]; exact r1, by simp only [upd, if_neg ew]; exact r2, by simp only [upd, if_neg ew]; exact r3, L, r4, by simp only [upd, if_neg e3]; exact r5, by simp only [upd, if_neg ew]; exact r6, fun i hi => ?_⟩
    rw [m2 _ (by omega)]
    exact r7 i hi
theorem xl_room (ha1 : 16 ≤ a) (ha2 : a ≤ 64) (hK : K + E ≤ 100) {ev : Int32} : pd_room (nI K) (nI E) (if 50 < nI a - 2 then 50 else nI a - 2) ev = rf_room (nI a) (nI K) (nI E) ev ∧ (rf_room (nI a) (nI K) (nI E) ev = true → K + E + 1 + 2 ≤ a ∧ K + E + 1 ≤ 50) := by
  have es : nI a - 2 = nI (a - 2) := by
    have : nI a = nI (a - 2) + 2 := by rw [show (2 : Int32) = nI 2 from rfl, nI_add]; congr 1; omega
    rw [this]; simp
  have em : (if 50 < nI a - 2 then (50 : Int32) else nI a - 2) = nI (min 50 (a - 2)) := by
    rw [es]
    have : (50 : Int32) < nI (a - 2) ↔ 50 < a - 2 := xb_lt (a := 50) (c := a - 2) (by omega) (by omega)
    by_cases h : 50 < a - 2
    · rw [if_pos (this.mpr h), show min 50 (a - 2) = 50 by omega]; rfl
    · rw [if_neg (fun z => h (this.mp z)), show min 50 (a - 2) = a - 2 by omega]
  rw [em]
  unfold pd_room rf_room rf_n
  rw [es, nI_add]
  have k4 : nI (K + E) + 4 = nI (K + E + 4) := nI_add (K + E) 4
  by_cases h : ev = 0
  · simp only [h, decide_true, cond_true, if_true]
    rw [k4]
    have b1 : decide (nI (min 50 (a - 2)) ≤ nI (K + E + 4)) = decide (min 50 (a - 2) ≤ K + E + 4) := decide_eq_decide.mpr (xb_le (by omega) (by omega))
    have b2 : decide (nI (a - 2) ≤ nI (K + E + 4)) = decide (a - 2 ≤ K + E + 4) := decide_eq_decide.mpr (xb_le (by omega) (by omega))
    have b3 : decide ((50 : Int32) ≤ nI (K + E + 4)) = decide (50 ≤ K + E + 4) := decide_eq_decide.mpr (xb_le (a := 50) (by omega) (by omega))
    rw [b1, b2, b3]
    constructor
    · by_cases c1 : a - 2 ≤ K + E + 4 <;> by_cases c2 : 50 ≤ K + E + 4 <;> simp [c1, c2] <;> omega
    · intro z
      simp only [Bool.and_eq_true, Bool.not_eq_true', decide_eq_false_iff_not] at z
      omega
  · simp only [h, decide_false, cond_false, if_false, Int32.add_zero]
    have b1 : decide (nI (min 50 (a - 2)) ≤ nI (K + E)) = decide (min 50 (a - 2) ≤ K + E) := decide_eq_decide.mpr (xb_le (by omega) (by omega))
    have b2 : decide (nI (a - 2) ≤ nI (K + E)) = decide (a - 2 ≤ K + E) := decide_eq_decide.mpr (xb_le (by omega) (by omega))
    have b3 : decide ((50 : Int32) ≤ nI (K + E)) = decide (50 ≤ K + E) := decide_eq_decide.mpr (xb_le (a := 50) (by omega) (by omega))
    rw [b1, b2, b3]
    constructor
    · by_cases c1 : a - 2 ≤ K + E <;> by_cases c2 : 50 ≤ K + E <;> simp [c1, c2] <;> omega
    · intro z
      simp only [Bool.and_eq_true, Bool.not_eq_true', decide_eq_false_iff_not] at z
      omega
theorem xl_val (gr : Int32) (E : Nat) : gr + nI (E + 1) = gr + 1 + nI E + 1 - 1 := by
  rw [show ∀ z : Int32, z + 1 - 1 = z from fun z => by simp, nI_succ, Int32.add_assoc, Int32.add_comm (nI E) 1]
theorem xl_ce (h : E < 50) : wt_ce (nI E) = nI (E + 1) := by
  unfold wt_ce wt_cl
  have q1 := xb_lt0 (n := E) (by omega)
  have q2 : ¬ (50 : Int32) ≤ nI E := fun z => by
    have z : nI 50 ≤ nI E := z
    rw [xb_le (by omega) (by omega)] at z; omega
  rw [nI_succ]
  simp [q1, q2]
end XL
