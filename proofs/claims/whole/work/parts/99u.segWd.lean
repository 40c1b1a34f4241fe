/-! WORDS AS THE MODEL PACKS THEM -/
section
variable {d : Nat} {N : ev_Mem}
def wsh (a : Int64) (x : Int32) : Int64 := (a <<< ((8 : Int32).toInt64 &&& 63)) ||| x.toInt64
def w2f (x y : Int32) : Int64 := wsh x.toInt64 y
def w3f (x y z : Int32) : Int64 := wsh (w2f x y) z
def w4f (x y z w : Int32) : Int64 := wsh (w3f x y z) w
def w5f (x y z w v : Int32) : Int64 := wsh (w4f x y z w) v
def w6f (x y z w v u : Int32) : Int64 := wsh (w5f x y z w v) u
theorem kX11_w2 {x y : Int32} : Cl LM d mX11_w2 [.int x, .int y] N (ev_R (some (.long (w2f x y))) N) := by
  refine Cl_of rfl (Nat.le_of_ble_eq_true rfl) rfl (gX11_w2_0 ?_)
  exact ⟨rfl, rfl⟩
end
theorem dX11_w3_0 : decode cX11_w3 0 = .ok (.iload_n 0, 1) := by decide +kernel
theorem dX11_w3_1 : decode cX11_w3 1 = .ok (.iload_n 1, 1) := by decide +kernel
theorem dX11_w3_2 : decode cX11_w3 2 = .ok (.invokestatic 141, 3) := by decide +kernel
theorem dX11_w3_5 : decode cX11_w3 5 = .ok (.bipush 8, 2) := by decide +kernel
theorem dX11_w3_7 : decode cX11_w3 7 = .ok (.lshl, 1) := by decide +kernel
theorem dX11_w3_8 : decode cX11_w3 8 = .ok (.iload_n 2, 1) := by decide +kernel
theorem dX11_w3_9 : decode cX11_w3 9 = .ok (.i2l, 1) := by decide +kernel
theorem dX11_w3_10 : decode cX11_w3 10 = .ok (.lor, 1) := by decide +kernel
theorem dX11_w3_11 : decode cX11_w3 11 = .ok (.lreturn, 1) := by decide +kernel
theorem gX11_w3_0 {d : Nat} {M : ev_Mem} {Q : Option Value → ev_Mem → Prop} {x0 x1 x2 : Int32} (h : (Q (some (.long (((w2f x0 x1) <<< (((8 : Int32)).toInt64 &&& 63)) ||| ((x2 : Int32).toInt64)))) M)) : Ev LM (d + 1) mX11_w3 0 [some (.int x0), some (.int x1), some (.int x2)] [] M Q := by
  refine ev_iload_n dX11_w3_0 rfl ?_
  refine ev_iload_n dX11_w3_1 rfl ?_
  refine ev_callS [.int x0, .int x1] dX11_w3_2 ml_WithoutEModel_141 rfl (Nat.le_of_ble_eq_true rfl) (kX11_w2) ?_
  rintro zr zM ⟨q1, q2⟩
  rw [q1, q2]
  show Ev LM (d + 1) mX11_w3 5 [some (.int x0), some (.int x1), some (.int x2)] [(.long (w2f x0 x1))] M Q
  refine ev_bipush (v := 8) dX11_w3_5 (by decide) ?_
  refine ev_lshl dX11_w3_7 ?_
  refine ev_iload_n dX11_w3_8 rfl ?_
  refine ev_i2l dX11_w3_9 ?_
  refine ev_lor dX11_w3_10 ?_
  exact ev_lret dX11_w3_11 rfl h
theorem kX11_w3 {d : Nat} {N : ev_Mem} {x y z : Int32} : Cl LM (d + 1) mX11_w3 [.int x, .int y, .int z] N (ev_R (some (.long (w3f x y z))) N) := by
  refine Cl_of rfl (Nat.le_of_ble_eq_true rfl) rfl (gX11_w3_0 ?_)
  exact ⟨rfl, rfl⟩
theorem dX11_w4_0 : decode cX11_w4 0 = .ok (.iload_n 0, 1) := by decide +kernel
theorem dX11_w4_1 : decode cX11_w4 1 = .ok (.iload_n 1, 1) := by decide +kernel
theorem dX11_w4_2 : decode cX11_w4 2 = .ok (.iload_n 2, 1) := by decide +kernel
theorem dX11_w4_3 : decode cX11_w4 3 = .ok (.invokestatic 145, 3) := by decide +kernel
theorem dX11_w4_6 : decode cX11_w4 6 = .ok (.bipush 8, 2) := by decide +kernel
theorem dX11_w4_8 : decode cX11_w4 8 = .ok (.lshl, 1) := by decide +kernel
theorem dX11_w4_9 : decode cX11_w4 9 = .ok (.iload_n 3, 1) := by decide +kernel
theorem dX11_w4_10 : decode cX11_w4 10 = .ok (.i2l, 1) := by decide +kernel
theorem dX11_w4_11 : decode cX11_w4 11 = .ok (.lor, 1) := by decide +kernel
theorem dX11_w4_12 : decode cX11_w4 12 = .ok (.lreturn, 1) := by decide +kernel
theorem gX11_w4_0 {d : Nat} {M : ev_Mem} {Q : Option Value → ev_Mem → Prop} {x0 x1 x2 x3 : Int32} (h : (Q (some (.long (((w3f x0 x1 x2) <<< (((8 : Int32)).toInt64 &&& 63)) ||| ((x3 : Int32).toInt64)))) M)) : Ev LM (d + 2) mX11_w4 0 [some (.int x0), some (.int x1), some (.int x2), some (.int x3)] [] M Q := by
  refine ev_iload_n dX11_w4_0 rfl ?_
  refine ev_iload_n dX11_w4_1 rfl ?_
  refine ev_iload_n dX11_w4_2 rfl ?_
  refine ev_callS [.int x0, .int x1, .int x2] dX11_w4_3 ml_WithoutEModel_145 rfl (Nat.le_of_ble_eq_true rfl) (kX11_w3) ?_
  rintro zr zM ⟨q1, q2⟩
  rw [q1, q2]
  show Ev LM (d + 2) mX11_w4 6 [some (.int x0), some (.int x1), some (.int x2), some (.int x3)] [(.long (w3f x0 x1 x2))] M Q
  refine ev_bipush (v := 8) dX11_w4_6 (by decide) ?_
  refine ev_lshl dX11_w4_8 ?_
  refine ev_iload_n dX11_w4_9 rfl ?_
  refine ev_i2l dX11_w4_10 ?_
  refine ev_lor dX11_w4_11 ?_
  exact ev_lret dX11_w4_12 rfl h
theorem kX11_w4 {d : Nat} {N : ev_Mem} {x y z w : Int32} : Cl LM (d + 2) mX11_w4 [.int x, .int y, .int z, .int w] N (ev_R (some (.long (w4f x y z w))) N) := by
  refine Cl_of rfl (Nat.le_of_ble_eq_true rfl) rfl (gX11_w4_0 ?_)
  exact ⟨rfl, rfl⟩
theorem dX11_w5_0 : decode cX11_w5 0 = .ok (.iload_n 0, 1) := by decide +kernel
theorem dX11_w5_1 : decode cX11_w5 1 = .ok (.iload_n 1, 1) := by decide +kernel
theorem dX11_w5_2 : decode cX11_w5 2 = .ok (.iload_n 2, 1) := by decide +kernel
theorem dX11_w5_3 : decode cX11_w5 3 = .ok (.iload_n 3, 1) := by decide +kernel
theorem dX11_w5_4 : decode cX11_w5 4 = .ok (.invokestatic 149, 3) := by decide +kernel
theorem dX11_w5_7 : decode cX11_w5 7 = .ok (.bipush 8, 2) := by decide +kernel
theorem dX11_w5_9 : decode cX11_w5 9 = .ok (.lshl, 1) := by decide +kernel
theorem dX11_w5_10 : decode cX11_w5 10 = .ok (.iload 4, 2) := by decide +kernel
theorem dX11_w5_12 : decode cX11_w5 12 = .ok (.i2l, 1) := by decide +kernel
theorem dX11_w5_13 : decode cX11_w5 13 = .ok (.lor, 1) := by decide +kernel
theorem dX11_w5_14 : decode cX11_w5 14 = .ok (.lreturn, 1) := by decide +kernel
theorem gX11_w5_0 {d : Nat} {M : ev_Mem} {Q : Option Value → ev_Mem → Prop} {x0 x1 x2 x3 x4 : Int32} (h : (Q (some (.long (((w4f x0 x1 x2 x3) <<< (((8 : Int32)).toInt64 &&& 63)) ||| ((x4 : Int32).toInt64)))) M)) : Ev LM (d + 3) mX11_w5 0 [some (.int x0), some (.int x1), some (.int x2), some (.int x3), some (.int x4)] [] M Q := by
  refine ev_iload_n dX11_w5_0 rfl ?_
  refine ev_iload_n dX11_w5_1 rfl ?_
  refine ev_iload_n dX11_w5_2 rfl ?_
  refine ev_iload_n dX11_w5_3 rfl ?_
  refine ev_callS [.int x0, .int x1, .int x2, .int x3] dX11_w5_4 ml_WithoutEModel_149 rfl (Nat.le_of_ble_eq_true rfl) (kX11_w4) ?_
  rintro zr zM ⟨q1, q2⟩
  rw [q1, q2]
  show Ev LM (d + 3) mX11_w5 7 [some (.int x0), some (.int x1), some (.int x2), some (.int x3), some (.int x4)] [(.long (w4f x0 x1 x2 x3))] M Q
  refine ev_bipush (v := 8) dX11_w5_7 (by decide) ?_
  refine ev_lshl dX11_w5_9 ?_
  refine ev_iload dX11_w5_10 rfl ?_
  refine ev_i2l dX11_w5_12 ?_
  refine ev_lor dX11_w5_13 ?_
  exact ev_lret dX11_w5_14 rfl h
theorem kX11_w5 {d : Nat} {N : ev_Mem} {x y z w v : Int32} : Cl LM (d + 3) mX11_w5 [.int x, .int y, .int z, .int w, .int v] N (ev_R (some (.long (w5f x y z w v))) N) := by
  refine Cl_of rfl (Nat.le_of_ble_eq_true rfl) rfl (gX11_w5_0 ?_)
  exact ⟨rfl, rfl⟩
theorem dX11_w6_0 : decode cX11_w6 0 = .ok (.iload_n 0, 1) := by decide +kernel
theorem dX11_w6_1 : decode cX11_w6 1 = .ok (.iload_n 1, 1) := by decide +kernel
theorem dX11_w6_2 : decode cX11_w6 2 = .ok (.iload_n 2, 1) := by decide +kernel
theorem dX11_w6_3 : decode cX11_w6 3 = .ok (.iload_n 3, 1) := by decide +kernel
theorem dX11_w6_4 : decode cX11_w6 4 = .ok (.iload 4, 2) := by decide +kernel
theorem dX11_w6_6 : decode cX11_w6 6 = .ok (.invokestatic 153, 3) := by decide +kernel
theorem dX11_w6_9 : decode cX11_w6 9 = .ok (.bipush 8, 2) := by decide +kernel
theorem dX11_w6_11 : decode cX11_w6 11 = .ok (.lshl, 1) := by decide +kernel
theorem dX11_w6_12 : decode cX11_w6 12 = .ok (.iload 5, 2) := by decide +kernel
theorem dX11_w6_14 : decode cX11_w6 14 = .ok (.i2l, 1) := by decide +kernel
theorem dX11_w6_15 : decode cX11_w6 15 = .ok (.lor, 1) := by decide +kernel
theorem dX11_w6_16 : decode cX11_w6 16 = .ok (.lreturn, 1) := by decide +kernel
theorem gX11_w6_0 {d : Nat} {M : ev_Mem} {Q : Option Value → ev_Mem → Prop} {x0 x1 x2 x3 x4 x5 : Int32} (h : (Q (some (.long (((w5f x0 x1 x2 x3 x4) <<< (((8 : Int32)).toInt64 &&& 63)) ||| ((x5 : Int32).toInt64)))) M)) : Ev LM (d + 4) mX11_w6 0 [some (.int x0), some (.int x1), some (.int x2), some (.int x3), some (.int x4), some (.int x5)] [] M Q := by
  refine ev_iload_n dX11_w6_0 rfl ?_
  refine ev_iload_n dX11_w6_1 rfl ?_
  refine ev_iload_n dX11_w6_2 rfl ?_
  refine ev_iload_n dX11_w6_3 rfl ?_
  refine ev_iload dX11_w6_4 rfl ?_
  refine ev_callS [.int x0, .int x1, .int x2, .int x3, .int x4] dX11_w6_6 ml_WithoutEModel_153 rfl (Nat.le_of_ble_eq_true rfl) (kX11_w5) ?_
  rintro zr zM ⟨q1, q2⟩
  rw [q1, q2]
  show Ev LM (d + 4) mX11_w6 9 [some (.int x0), some (.int x1), some (.int x2), some (.int x3), some (.int x4), some (.int x5)] [(.long (w5f x0 x1 x2 x3 x4))] M Q
  refine ev_bipush (v := 8) dX11_w6_9 (by decide) ?_
  refine ev_lshl dX11_w6_11 ?_
  refine ev_iload dX11_w6_12 rfl ?_
  refine ev_i2l dX11_w6_14 ?_
  refine ev_lor dX11_w6_15 ?_
  exact ev_lret dX11_w6_16 rfl h
theorem kX11_w6 {d : Nat} {N : ev_Mem} {x y z w v u : Int32} : Cl LM (d + 4) mX11_w6 [.int x, .int y, .int z, .int w, .int v, .int u] N (ev_R (some (.long (w6f x y z w v u))) N) := by
  refine Cl_of rfl (Nat.le_of_ble_eq_true rfl) rfl (gX11_w6_0 ?_)
  exact ⟨rfl, rfl⟩
section
variable {d : Nat} {N : ev_Mem}
def isw (N : ev_Mem) (w : Int64) : Bool := decide (N.1 0 10 = 2) && decide (lg_cmp (N.2 0 12) w = 0)
theorem kX11_isWord {w : Int64} : Cl LM d mX11_isWord [.ref 0, .long w] N (ev_R (some (.int (bi (isw N w)))) N) := by
  refine Cl_of rfl (Nat.le_of_ble_eq_true rfl) rfl (gX11_isWord_0 ⟨fun z => ⟨?_, rfl⟩, fun z => ⟨fun z2 => ⟨?_, rfl⟩, fun z2 => ⟨?_, rfl⟩⟩⟩)
  all_goals (unfold isw; simp [z, *] <;> rfl)
def rkI (o : Int32) : Int32 := if o < 40 then (if o = 22 then 1 else if o = 21 then 2 else if o = 20 then 3 else if o < 10 then (if o = 4 then 7 else if o = 2 then 7 else if o < 7 then 5 else 6) else 4) else 0
theorem kX11_rank {o : Int32} : Cl LM d mX11_rank [.int o] N (ev_R (some (.int (rkI o))) N) := by
  refine Cl_of rfl (Nat.le_of_ble_eq_true rfl) rfl (gX11_rank_0 ?_)
  unfold rkI
  refine ⟨fun c => ⟨fun c2 => ⟨fun c3 => ⟨fun c4 => ⟨fun c5 => ⟨fun c6 => ⟨?_, rfl⟩, fun c6 => ⟨fun c7 => ⟨fun c8 => ⟨?_, rfl⟩, fun c8 => ⟨?_, rfl⟩⟩, fun c7 => ⟨?_, rfl⟩⟩⟩, fun c5 => ⟨?_, rfl⟩⟩, fun c4 => ⟨?_, rfl⟩⟩, fun c3 => ⟨?_, rfl⟩⟩, fun c2 => ⟨?_, rfl⟩⟩, fun c => ⟨?_, rfl⟩⟩
  all_goals simp [*]
def iof (k x : Int32) : Bool := decide (x < 2) || (if 7 ≤ x then (if 9 ≤ x then decide (k = 2) else decide (k = 1)) else decide (k = 0))
theorem kX11_isOf {x : Int32} : Cl LM d mX11_isOf [.ref 0, .int x] N (ev_R (some (.int (bi (iof (N.1 0 15) x)))) N) := by
  refine Cl_of rfl (Nat.le_of_ble_eq_true rfl) rfl (gX11_isOf_0 ?_)
  unfold iof
  refine ⟨fun c => ⟨?_, rfl⟩, fun c => ⟨fun c2 => ⟨fun c3 => ⟨fun c4 => ⟨?_, rfl⟩, fun c4 => ⟨?_, rfl⟩⟩, fun c3 => ⟨fun c4 => ⟨?_, rfl⟩, fun c4 => ⟨?_, rfl⟩⟩⟩, fun c2 => ⟨fun c4 => ⟨?_, rfl⟩, fun c4 => ⟨?_, rfl⟩⟩⟩⟩
  all_goals (simp [*]; try rfl)
def cpI (t : Int32) : Int32 := if t = 60 then 10 else if t = 4 then 11 else if t = 62 then 12 else if t = 5 then 13 else if t = 61 then 14 else if t = 35 then 15 else -1
theorem kX11_compareOf : Cl LM d mX11_compareOf [.ref 0] N (ev_R (some (.int (cpI (N.1 0 10)))) N) := by
  refine Cl_of rfl (Nat.le_of_ble_eq_true rfl) rfl (gX11_compareOf_0 ?_)
  unfold cpI
  refine ⟨fun c => ⟨fun c2 => ⟨fun c3 => ⟨fun c4 => ⟨fun c5 => ⟨fun c6 => ⟨?_, rfl⟩, fun c6 => ⟨?_, rfl⟩⟩, fun c5 => ⟨?_, rfl⟩⟩, fun c4 => ⟨?_, rfl⟩⟩, fun c3 => ⟨?_, rfl⟩⟩, fun c2 => ⟨?_, rfl⟩⟩, fun c => ⟨?_, rfl⟩⟩
  all_goals simp [*]
end
