/-! ===== Platter ===== -/
section PL
variable (l : Launch) (D : va_G) (tc : Nat → ClassId) (b : Nat)
abbrev cM (l : Launch) (D : va_G) (tc : Nat → ClassId) (b : Nat) (y : MethodName) (cc : ByteArray) (nL : Nat) (ret : Option FieldType) (d mc ms : Nat) (args : List Value) (w : am_W) (post : Option Value → am_W → Prop) : Prop := am_M lw_tbl vwCl l D tc b y cc nL ret d mc ms args w post
set_option maxHeartbeats 4000000 in
set_option maxRecDepth 100000 in
theorem c_holds (c0 : am_E) (rest : am_W) (S cu wr te s i : Int32) (pb : Nat) : cM l D tc b yX2_holds cX2_holds 3 (some .boolean) 1 0 0 [.ref 1, .int s, .int i] (c0 :: .inr (2, [.int S, .ref pb, .int wr, .int cu, .int te]) :: rest)
    (am_is (some (.int (if 0 ≤ s ∧ s < S ∧ 0 ≤ i ∧ i < 64 then 1 else 0))) (c0 :: .inr (2, [.int S, .ref pb, .int wr, .int cu, .int te]) :: rest)) := by
  refine am_m (own := RX2) (ini := false) (L := [some (.ref 1), some (.int s), some (.int i)]) rfl (by decide) (fun h => by cases h) (Nat.le_of_ble_eq_true rfl) rfl rfl ?_
  repeat refine am_s am_cls okX2_holds rfl ?_
  refine am_b okX2_holds rfl (fun h => ?_) (fun h => ?_)
  · repeat refine am_s am_cls okX2_holds rfl ?_
    refine am_rz okX2_holds rfl rfl rfl (by decide) (Nat.le_refl _) (Nat.le_refl _) ?_
    trace_state
    sorry
  · repeat refine am_s am_cls okX2_holds rfl ?_
    trace_state
    sorry
end PL
