/-! ===== class and reference: bytes, the disk ===== -/
theorem xb_b8 (x : Int32) : x.toInt8.toInt32 &&& 255 = x &&& 255 := by
  apply Int32.toBitVec_inj.mp
  rw [Int32.toBitVec_and, Int32.toBitVec_and, Int8.toBitVec_toInt32, Int32.toBitVec_toInt8]
  apply BitVec.eq_of_getLsbD_eq
  intro i hi
  rw [BitVec.getLsbD_and, BitVec.getLsbD_and]
  have hm : ∀ i < 32, 8 ≤ i → (255 : Int32).toBitVec.getLsbD i = false := by decide
  rcases Nat.lt_or_ge i 8 with z | z
  · rw [BitVec.getLsbD_signExtend, BitVec.getLsbD_signExtend, if_pos z, if_pos hi]
    simp only [z, hi, decide_true, Bool.true_and]
  · rw [hm i hi z]; simp
def xb_byte (x : Int32) : Prop := ∃ n : Nat, n < 256 ∧ x = nI n
theorem xb_and (x : Int32) : xb_byte (x &&& 255) := by
  refine ⟨(x &&& 255).toBitVec.toNat, ?_, ?_⟩
  · rw [Int32.toBitVec_and, BitVec.toNat_and]
    have : (255 : Int32).toBitVec.toNat = 255 := by decide
    rw [this]
    exact Nat.lt_of_le_of_lt Nat.and_le_right (by decide)
  · apply Int32.toBitVec_inj.mp
    show _ = BitVec.ofNat 32 _
    simp
theorem xb_256 : ∀ n, n < 256 → nI n &&& 255 = nI n := by decide +kernel
theorem xb_id {x : Int32} (h : xb_byte x) : x &&& 255 = x := by
  obtain ⟨n, hn, rfl⟩ := h
  exact xb_256 n hn
theorem xb_and2 (x : Int32) : (x &&& 255) &&& 255 = x &&& 255 := xb_id (xb_and x)
/-- what a byte's store keeps -/
theorem xb_st (x : Int32) : vp_nar .byte x.toInt8.toInt32 &&& 255 = x &&& 255 := by rw [pk_vb, xb_b8]
def sm_disk (a : Nat) (f d : Nat → Int32) : Prop := ∀ j, j < 64 * a → d j = f j &&& 255
theorem sm_disk.byte {a : Nat} {f d : Nat → Int32} (h : sm_disk a f d) {j : Nat} (hj : j < 64 * a) : xb_byte (d j) := by
  rw [h j hj]
  exact xb_and _
theorem xb_n0 : (0 : Int32) = nI 0 := rfl
theorem xb_lt0 {n : Nat} (h : n < 2 ^ 31) : ¬ nI n < 0 := by
  rw [Int32.lt_iff_toInt_lt, nI_toInt h, show (0 : Int32).toInt = 0 from rfl]
  omega
theorem xb_le {a c : Nat} (ha : a < 2 ^ 31) (hc : c < 2 ^ 31) : nI a ≤ nI c ↔ a ≤ c := by
  rw [Int32.le_iff_toInt_le, nI_toInt ha, nI_toInt hc]
  omega
theorem xb_lt {a c : Nat} (ha : a < 2 ^ 31) (hc : c < 2 ^ 31) : nI a < nI c ↔ a < c := nI_ltI ha hc
theorem xb_holds {a q i : Nat} (ha : a ≤ 64) (hq : q < a) (hi : i < 64) : pd_holds (nI a) (nI q) (nI i) = true := by
  unfold pd_holds
  have h1 := xb_lt0 (n := q) (by omega)
  have h2 : ¬ nI a ≤ nI q := fun z => by rw [xb_le (by omega) (by omega)] at z; omega
  have h3 := xb_lt0 (n := i) (by omega)
  have h4 : ¬ (64 : Int32) ≤ nI i := fun z => by
    have z : nI 64 ≤ nI i := z
    rw [xb_le (by omega) (by omega)] at z; omega
  simp [h1, h2, h3, h4]
theorem xb_ix {q i : Nat} (hq : q < 64) (hi : i < 64) : (64 * nI q + nI i).toNatClampNeg = 64 * q + i := by
  rw [show (64 : Int32) = nI 64 from rfl, pk_mul, nI_add, nI_clamp (by omega)]
theorem xb_ix0 {q : Nat} (hq : q < 64) : (64 * nI q).toNatClampNeg = 64 * q := by
  rw [show (64 : Int32) = nI 64 from rfl, pk_mul, nI_clamp (by omega)]
theorem xb_ix2 {q i : Nat} (hq : q < 64) (hi : i < 64) : (nI q * 64 + nI i).toNatClampNeg = 64 * q + i := by
  rw [show (64 : Int32) = nI 64 from rfl, pk_mul, nI_add, nI_clamp (by omega), Nat.mul_comm]
theorem xb_lookf {a q i : Nat} (f : Nat → Int32) (ha : a ≤ 64) (hq : q < a) (hi : i < 64) : pd_look f (nI a) (nI q) (nI i) = f (64 * q + i) &&& 255 := by
  unfold pd_look
  rw [xb_holds ha hq hi, xb_ix2 (by omega) hi]
  rfl
section SB
variable {a : Nat} {f d : Nat → Int32} (hd : sm_disk a f d) (ha : a ≤ 64)
theorem xb_look (hd : sm_disk a f d) (ha : a ≤ 64) {q i : Nat} (hq : q < a) (hi : i < 64) : pd_look f (nI a) (nI q) (nI i) = d (64 * q + i) := by
  rw [xb_lookf f ha hq hi, hd _ (by omega)]
theorem xb_sum (hd : sm_disk a f d) (ha : a ≤ 64) {q : Nat} (hq : q < a) : ∀ k, k ≤ 60 → pd_sum f (nI a) (nI q) k = rf_sum d (nI q) k := by
  intro k
  induction k with
  | zero => intro _; rw [pd_sum_0, rf_sum_0]
  | succ k ih =>
    intro hk
    rw [pd_sum_s, rf_sum_s, ih (by omega), xb_look hd ha hq (by omega), xb_ix (by omega) (by omega)]
theorem xb_four (hd : sm_disk a f d) (ha : a ≤ 64) {q i : Nat} (hq : q < a) (hi : i + 3 < 64) : pd_four f (nI a) (nI q) (nI i) = rf_four d (64 * nI q + nI i) := by
  unfold pd_four rf_four
  have e1 : nI i + 1 = nI (i + 1) := (nI_succ i).symm
  have e2 : nI i + 2 = nI (i + 2) := nI_add i 2
  have e3 : nI i + 3 = nI (i + 3) := nI_add i 3
  have g1 : 64 * nI q + nI i + 1 = 64 * nI q + nI (i + 1) := by rw [Int32.add_assoc, e1]
  have g2 : 64 * nI q + nI i + 2 = 64 * nI q + nI (i + 2) := by rw [Int32.add_assoc, e2]
  have g3 : 64 * nI q + nI i + 3 = 64 * nI q + nI (i + 3) := by rw [Int32.add_assoc, e3]
  rw [e1, e2, e3, g1, g2, g3, xb_look hd ha hq (by omega), xb_look hd ha hq (by omega), xb_look hd ha hq (by omega), xb_look hd ha hq (by omega), xb_ix (by omega) (by omega), xb_ix (by omega) (by omega), xb_ix (by omega) (by omega), xb_ix (by omega) (by omega)]
theorem xb_whole (hd : sm_disk a f d) (ha : a ≤ 64) {q : Nat} (hq : q < a) : pd_whole f (nI a) (nI q) = rf_whole d (nI q) := by
  unfold pd_whole rf_whole
  have e0 : pd_look f (nI a) (nI q) 0 = d (64 * nI q).toNatClampNeg := by
    rw [xb_ix0 (by omega)]
    exact xb_look hd ha hq (i := 0) (by omega)
  have e60 : pd_four f (nI a) (nI q) 60 = rf_four d (64 * nI q + 60) := xb_four hd ha hq (i := 60) (by omega)
  rw [e0, e60, xb_sum hd ha hq 60 (Nat.le_refl _)]
  congr 1
  exact decide_eq_decide.mpr ⟨Eq.symm, Eq.symm⟩
theorem xb_mark : ∀ n, n < 256 → pd_mark (nI n) = rf_mark (nI n) := by decide +kernel
theorem xb_ev16 : ∀ n, n < 256 → rf_mark (nI n) = true → decide (nI n ≤ 16) = !decide (16 ≤ nI n) := by decide +kernel
theorem xb_row (hd : sm_disk a f d) (ha : a ≤ 64) {q : Nat} (hq : q < a) : pd_row f (nI a) (nI q) = !rf_wrong d (nI q) := by
  unfold pd_row rf_wrong
  have e0 : pd_look f (nI a) (nI q) 0 = d (64 * nI q).toNatClampNeg := by
    rw [xb_ix0 (by omega)]
    exact xb_look hd ha hq (i := 0) (by omega)
  have e5 : pd_look f (nI a) (nI q) 5 = d (64 * nI q + 5).toNatClampNeg := by
    rw [show (64 * nI q + 5).toNatClampNeg = 64 * q + 5 from xb_ix (i := 5) (by omega) (by omega)]
    exact xb_look hd ha hq (i := 5) (by omega)
  rw [e0, e5, xb_whole hd ha hq]
  have hb : xb_byte (d (64 * nI q).toNatClampNeg) := by
    rw [xb_ix0 (by omega)]
    exact hd.byte (by omega)
  obtain ⟨n, hn, e⟩ := hb
  rw [e, xb_mark n hn]
  have e40 : (!decide (40 < d (64 * nI q + 5).toNatClampNeg)) = decide (d (64 * nI q + 5).toNatClampNeg ≤ 40) := by
    rw [← decide_not]
    exact decide_eq_decide.mpr Int32.not_lt
  rw [e40]
  cases rf_whole d (nI q) <;> cases rf_mark (nI n) <;> cases decide (d (64 * nI q + 5).toNatClampNeg ≤ 40) <;> rfl
theorem xb_drp (hd : sm_disk a f d) (ha : a ≤ 64) {q : Nat} (hq : q < a) (bf : Int32) : pd_drp f (nI a) (nI q) bf = rf_out d bf (nI q) := by
  unfold pd_drp rf_out pd_event
  have e0 : pd_look f (nI a) (nI q) 0 = d (64 * nI q).toNatClampNeg := by
    rw [xb_ix0 (by omega)]
    exact xb_look hd ha hq (i := 0) (by omega)
  have e1 : pd_four f (nI a) (nI q) 1 = rf_four d (64 * nI q + 1) := xb_four hd ha hq (i := 1) (by omega)
  rw [xb_row hd ha hq, e0, e1]
  have hb : xb_byte (d (64 * nI q).toNatClampNeg) := by
    rw [xb_ix0 (by omega)]
    exact hd.byte (by omega)
  obtain ⟨n, hn, e⟩ := hb
  cases hw : rf_wrong d (nI q) with
  | true => rfl
  | false =>
    have hm : rf_mark (nI n) = true := by
      simp only [rf_wrong, Bool.or_eq_false_iff, Bool.not_eq_false'] at hw
      rw [← e]
      exact hw.1.2
    rw [e]
    have h16 := xb_ev16 n hn hm
    rw [Bool.not_not, h16]
theorem xb_hl (hd : sm_disk a f d) (ha : a ≤ 64) {q : Nat} (hq : q < a) : ∀ m k, k + m ≤ 50 → pd_hl f (nI a) (nI q) m k = rf_hb d (nI a) (nI q) m k := by
  intro m
  induction m with
  | zero => intro k _; rw [rf_hb_0]; simp only [pd_hl]
  | succ m ih =>
    intro k hk
    have e : pd_look f (nI a) (nI q) (10 + nI k) = d (64 * nI q + 10 + nI k).toNatClampNeg := by
      have e1 : (10 : Int32) + nI k = nI (10 + k) := nI_add 10 k
      rw [Int32.add_assoc, e1, xb_ix (by omega) (by omega)]
      exact xb_look hd ha hq (by omega)
    rw [rf_hb_s]
    simp only [pd_hl]
    rw [e, ih (k + 1) (by omega)]
    cases decide (d (64 * nI q + 10 + nI k).toNatClampNeg < 2) <;> cases decide (d (64 * nI q + 10 + nI k).toNatClampNeg < nI a) <;> rfl
theorem xb_head (hd : sm_disk a f d) (ha : a ≤ 64) {q : Nat} (hq : q < a) : pd_head f (nI a) (nI q) = rf_head d (nI a) (nI q) := by
  unfold pd_head rf_head
  have e0 : pd_look f (nI a) (nI q) 0 = d (64 * nI q).toNatClampNeg := by
    rw [xb_ix0 (by omega)]
    exact xb_look hd ha hq (i := 0) (by omega)
  have e9 : pd_look f (nI a) (nI q) 9 = d (64 * nI q + 9).toNatClampNeg := by
    rw [show (64 * nI q + 9).toNatClampNeg = 64 * q + 9 from xb_ix (i := 9) (by omega) (by omega)]
    exact xb_look hd ha hq (i := 9) (by omega)
  rw [e0, e9, xb_whole hd ha hq]
  have e50 : (!decide (50 < d (64 * nI q + 9).toNatClampNeg)) = decide (d (64 * nI q + 9).toNatClampNeg ≤ 50) := by
    rw [← decide_not]
    exact decide_eq_decide.mpr Int32.not_lt
  rw [e50]
  by_cases h50 : d (64 * nI q + 9).toNatClampNeg ≤ 50
  · rw [xb_hl hd ha hq _ 0 (by have := rf_le (n := 50) h50 (by decide); omega)]
    cases rf_whole d (nI q) <;> cases decide (d (64 * nI q).toNatClampNeg = 200) <;> cases decide (d (64 * nI q + 9).toNatClampNeg ≤ 50) <;> simp
  · simp [h50]
/-- a write of the same 64 bytes -/
theorem xb_wr {a : Nat} {f d g sh : Nat → Int32} (hd : sm_disk a f d) (ha : a ≤ 64) (hg : ∀ k, k < 64 → sh k = g k &&& 255) {q : Nat} (hq : q < a) : ∀ m, m ≤ 64 → sm_disk a (pd_wr f (nI a) (nI q) g m) (rf_wr d (nI q) sh m) := by
  intro m
  induction m with
  | zero => intro _; rw [pd_wr_0, rf_wr_0]; exact hd
  | succ m ih =>
    intro hm j hj
    rw [pd_wr_s, rf_wr_s, xb_ix (by omega) (by omega), nI_clamp (n := m) (by omega)]
    unfold pd_set
    rw [xb_holds ha hq (by omega), xb_ix2 (by omega) (by omega)]
    have hi : im_look g (nI m) = g m &&& 255 := by
      unfold im_look im_ok
      have h3 := xb_lt0 (n := m) (by omega)
      have h4 : ¬ (64 : Int32) ≤ nI m := fun z => by
        have z : nI 64 ≤ nI m := z
        rw [xb_le (by omega) (by omega)] at z; omega
      rw [nI_clamp (by omega)]
      simp [h3, h4]
    rw [hi]
    simp only [cond_true]
    by_cases e : j = 64 * q + m
    · subst e
      simp only [upd, if_true]
      rw [xb_st, xb_and2, hg m (by omega)]
    · simp only [upd, if_neg e]
      exact ih (by omega) j hj
end SB
