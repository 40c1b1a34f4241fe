/-! MAKING OBJECTS: the constructors but two -/
theorem dX7_init_0 : decode cX7_init 0 = .ok (.aload_n 0, 1) := by decide +kernel
theorem dX7_init_1 : decode cX7_init 1 = .ok (.invokespecial 3, 3) := by decide +kernel
theorem dX7_init_4 : decode cX7_init 4 = .ok (.aload_n 0, 1) := by decide +kernel
theorem dX7_init_5 : decode cX7_init 5 = .ok (.sipush 300, 3) := by decide +kernel
theorem dX7_init_8 : decode cX7_init 8 = .ok (.newarray .int, 2) := by decide +kernel
theorem dX7_init_10 : decode cX7_init 10 = .ok (.putfield 9, 3) := by decide +kernel
theorem dX7_init_13 : decode cX7_init 13 = .ok (.return_, 1) := by decide +kernel
def eX7_init (ids : Nat → ClassId) (h0 : Nat) : List va_E := .inr (7, [.ref (h0 + 1), .int 0]) :: ([] ++ [.inl (ids 0, 300, .inl (fun _ => 0))])
set_option maxRecDepth 100000 in
theorem kX7_init {ids : Nat → ClassId} {ad : Nat → Nat} {b0 d h0 : Nat} : Ck ids ad b0 (d + 1) 1 300 mX7_init [] h0 (.inr (7, [.null, .int 0])) (eX7_init ids h0) := by
  refine Ck_of rfl rfl (Nat.le_of_ble_eq_true rfl) (ls := [some (.ref h0)]) rfl ?_
  refine ek_aload_n (x := h0) dX7_init_0 rfl ?_
  refine ek_objInit dX7_init_1 (ev_t1 34 rfl rfl) (ev_t1 27 rfl rfl) (ev_t1 28 rfl rfl) (by omega) ?_
  refine ek_aload_n (x := h0) dX7_init_4 rfl ?_
  refine ek_sipush (v := 300) dX7_init_5 (by decide) ?_
  refine ek_newa (t := 0) (N := 300) (a0 := (300, .inl (fun _ => 0))) dX7_init_8 (ev_t1 46 rfl rfl) rfl rfl (fun _ => rfl) (nI_pos (n := 300) (by decide)) (nI_clamp (n := 300) (by decide)) (by decide) (Nat.le_of_ble_eq_true rfl) (Nat.le_of_ble_eq_true rfl) ?_
  refine Ek.nm (es2 := (.inr (7, [.null, .int 0]) :: ([] ++ [.inl (ids 0, 300, .inl (fun _ => 0))]) : List va_E)) (st2 := [.ref (h0 + 1), .ref h0]) (kc2 := 1) (ks2 := 300) rfl rfl rfl rfl ?_
  refine ek_putF (i := 0) dX7_init_10 kf_WithoutE_Tape_9 rfl (Nat.le_of_ble_eq_true rfl) rfl rfl ?_
  refine Ek.nm (es2 := (.inr (7, [.ref (h0 + 1), .int 0]) :: ([] ++ [.inl (ids 0, 300, .inl (fun _ => 0))]) : List va_E)) (st2 := []) (kc2 := 1) (ks2 := 300) rfl rfl rfl rfl ?_
  exact ek_vret dX7_init_13 rfl (Nat.le_of_ble_eq_true rfl) (Nat.le_of_ble_eq_true rfl)
theorem dX9_init_0 : decode cX9_init 0 = .ok (.aload_n 0, 1) := by decide +kernel
theorem dX9_init_1 : decode cX9_init 1 = .ok (.invokespecial 3, 3) := by decide +kernel
theorem dX9_init_4 : decode cX9_init 4 = .ok (.aload_n 0, 1) := by decide +kernel
theorem dX9_init_5 : decode cX9_init 5 = .ok (.bipush 26, 2) := by decide +kernel
theorem dX9_init_7 : decode cX9_init 7 = .ok (.newarray .int, 2) := by decide +kernel
theorem dX9_init_9 : decode cX9_init 9 = .ok (.putfield 9, 3) := by decide +kernel
theorem dX9_init_12 : decode cX9_init 12 = .ok (.aload_n 0, 1) := by decide +kernel
theorem dX9_init_13 : decode cX9_init 13 = .ok (.sipush 173, 3) := by decide +kernel
theorem dX9_init_16 : decode cX9_init 16 = .ok (.putfield 15, 3) := by decide +kernel
theorem dX9_init_19 : decode cX9_init 19 = .ok (.aload_n 0, 1) := by decide +kernel
theorem dX9_init_20 : decode cX9_init 20 = .ok (.sipush 360, 3) := by decide +kernel
theorem dX9_init_23 : decode cX9_init 23 = .ok (.newarray .int, 2) := by decide +kernel
theorem dX9_init_25 : decode cX9_init 25 = .ok (.putfield 19, 3) := by decide +kernel
theorem dX9_init_28 : decode cX9_init 28 = .ok (.aload_n 0, 1) := by decide +kernel
theorem dX9_init_29 : decode cX9_init 29 = .ok (.sipush 930, 3) := by decide +kernel
theorem dX9_init_32 : decode cX9_init 32 = .ok (.newarray .int, 2) := by decide +kernel
theorem dX9_init_34 : decode cX9_init 34 = .ok (.putfield 22, 3) := by decide +kernel
theorem dX9_init_37 : decode cX9_init 37 = .ok (.return_, 1) := by decide +kernel
def eX9_init (ids : Nat → ClassId) (h0 : Nat) : List va_E := .inr (9, [.int 0, .ref (h0 + 1), .int 0, .int 0, .int 173, .ref (h0 + 2), .int 0, .ref (h0 + 3), .int 0, .int 0]) :: ((([] ++ [.inl (ids 0, 26, .inl (fun _ => 0))]) ++ [.inl (ids 0, 360, .inl (fun _ => 0))]) ++ [.inl (ids 0, 930, .inl (fun _ => 0))])
set_option maxRecDepth 100000 in
theorem kX9_init {ids : Nat → ClassId} {ad : Nat → Nat} {b0 d h0 : Nat} : Ck ids ad b0 (d + 1) 3 1316 mX9_init [] h0 (.inr (9, [.int 0, .null, .int 0, .int 0, .int 0, .null, .int 0, .null, .int 0, .int 0])) (eX9_init ids h0) := by
  refine Ck_of rfl rfl (Nat.le_of_ble_eq_true rfl) (ls := [some (.ref h0)]) rfl ?_
  refine ek_aload_n (x := h0) dX9_init_0 rfl ?_
  refine ek_objInit dX9_init_1 (ev_t1 109 rfl rfl) (ev_t1 27 rfl rfl) (ev_t1 28 rfl rfl) (by omega) ?_
  refine ek_aload_n (x := h0) dX9_init_4 rfl ?_
  refine ek_bipush (v := 26) dX9_init_5 (by decide) ?_
  refine ek_newa (t := 0) (N := 26) (a0 := (26, .inl (fun _ => 0))) dX9_init_7 (ev_t1 46 rfl rfl) rfl rfl (fun _ => rfl) (nI_pos (n := 26) (by decide)) (nI_clamp (n := 26) (by decide)) (by decide) (Nat.le_of_ble_eq_true rfl) (Nat.le_of_ble_eq_true rfl) ?_
  refine Ek.nm (es2 := (.inr (9, [.int 0, .null, .int 0, .int 0, .int 0, .null, .int 0, .null, .int 0, .int 0]) :: ([] ++ [.inl (ids 0, 26, .inl (fun _ => 0))]) : List va_E)) (st2 := [.ref (h0 + 1), .ref h0]) (kc2 := 1) (ks2 := 26) rfl rfl rfl rfl ?_
  refine ek_putF (i := 0) dX9_init_9 kf_WithoutE_Typewriter_9 rfl (Nat.le_of_ble_eq_true rfl) rfl rfl ?_
  refine Ek.nm (es2 := (.inr (9, [.int 0, .ref (h0 + 1), .int 0, .int 0, .int 0, .null, .int 0, .null, .int 0, .int 0]) :: ([] ++ [.inl (ids 0, 26, .inl (fun _ => 0))]) : List va_E)) (st2 := []) (kc2 := 1) (ks2 := 26) rfl rfl rfl rfl ?_
  refine ek_aload_n (x := h0) dX9_init_12 rfl ?_
  refine ek_sipush (v := 173) dX9_init_13 (by decide) ?_
  refine ek_put (i := 0) dX9_init_16 kf_WithoutE_Typewriter_15 rfl (Nat.le_of_ble_eq_true rfl) rfl rfl ?_
  refine Ek.nm (es2 := (.inr (9, [.int 0, .ref (h0 + 1), .int 0, .int 0, .int 173, .null, .int 0, .null, .int 0, .int 0]) :: ([] ++ [.inl (ids 0, 26, .inl (fun _ => 0))]) : List va_E)) (st2 := []) (kc2 := 1) (ks2 := 26) rfl rfl rfl rfl ?_
  refine ek_aload_n (x := h0) dX9_init_19 rfl ?_
  refine ek_sipush (v := 360) dX9_init_20 (by decide) ?_
  refine ek_newa (t := 0) (N := 360) (a0 := (360, .inl (fun _ => 0))) dX9_init_23 (ev_t1 46 rfl rfl) rfl rfl (fun _ => rfl) (nI_pos (n := 360) (by decide)) (nI_clamp (n := 360) (by decide)) (by decide) (Nat.le_of_ble_eq_true rfl) (Nat.le_of_ble_eq_true rfl) ?_
  refine Ek.nm (es2 := (.inr (9, [.int 0, .ref (h0 + 1), .int 0, .int 0, .int 173, .null, .int 0, .null, .int 0, .int 0]) :: (([] ++ [.inl (ids 0, 26, .inl (fun _ => 0))]) ++ [.inl (ids 0, 360, .inl (fun _ => 0))]) : List va_E)) (st2 := [.ref (h0 + 2), .ref h0]) (kc2 := 2) (ks2 := 386) rfl rfl rfl rfl ?_
  refine ek_putF (i := 0) dX9_init_25 kf_WithoutE_Typewriter_19 rfl (Nat.le_of_ble_eq_true rfl) rfl rfl ?_
  refine Ek.nm (es2 := (.inr (9, [.int 0, .ref (h0 + 1), .int 0, .int 0, .int 173, .ref (h0 + 2), .int 0, .null, .int 0, .int 0]) :: (([] ++ [.inl (ids 0, 26, .inl (fun _ => 0))]) ++ [.inl (ids 0, 360, .inl (fun _ => 0))]) : List va_E)) (st2 := []) (kc2 := 2) (ks2 := 386) rfl rfl rfl rfl ?_
  refine ek_aload_n (x := h0) dX9_init_28 rfl ?_
  refine ek_sipush (v := 930) dX9_init_29 (by decide) ?_
  refine ek_newa (t := 0) (N := 930) (a0 := (930, .inl (fun _ => 0))) dX9_init_32 (ev_t1 46 rfl rfl) rfl rfl (fun _ => rfl) (nI_pos (n := 930) (by decide)) (nI_clamp (n := 930) (by decide)) (by decide) (Nat.le_of_ble_eq_true rfl) (Nat.le_of_ble_eq_true rfl) ?_
  refine Ek.nm (es2 := (.inr (9, [.int 0, .ref (h0 + 1), .int 0, .int 0, .int 173, .ref (h0 + 2), .int 0, .null, .int 0, .int 0]) :: ((([] ++ [.inl (ids 0, 26, .inl (fun _ => 0))]) ++ [.inl (ids 0, 360, .inl (fun _ => 0))]) ++ [.inl (ids 0, 930, .inl (fun _ => 0))]) : List va_E)) (st2 := [.ref (h0 + 3), .ref h0]) (kc2 := 3) (ks2 := 1316) rfl rfl rfl rfl ?_
  refine ek_putF (i := 0) dX9_init_34 kf_WithoutE_Typewriter_22 rfl (Nat.le_of_ble_eq_true rfl) rfl rfl ?_
  refine Ek.nm (es2 := (.inr (9, [.int 0, .ref (h0 + 1), .int 0, .int 0, .int 173, .ref (h0 + 2), .int 0, .ref (h0 + 3), .int 0, .int 0]) :: ((([] ++ [.inl (ids 0, 26, .inl (fun _ => 0))]) ++ [.inl (ids 0, 360, .inl (fun _ => 0))]) ++ [.inl (ids 0, 930, .inl (fun _ => 0))]) : List va_E)) (st2 := []) (kc2 := 3) (ks2 := 1316) rfl rfl rfl rfl ?_
  exact ek_vret dX9_init_37 rfl (Nat.le_of_ble_eq_true rfl) (Nat.le_of_ble_eq_true rfl)
theorem dX3_init_0 : decode cX3_init 0 = .ok (.aload_n 0, 1) := by decide +kernel
theorem dX3_init_1 : decode cX3_init 1 = .ok (.invokespecial 3, 3) := by decide +kernel
theorem dX3_init_4 : decode cX3_init 4 = .ok (.aload_n 0, 1) := by decide +kernel
theorem dX3_init_5 : decode cX3_init 5 = .ok (.bipush 26, 2) := by decide +kernel
theorem dX3_init_7 : decode cX3_init 7 = .ok (.newarray .int, 2) := by decide +kernel
theorem dX3_init_9 : decode cX3_init 9 = .ok (.putfield 9, 3) := by decide +kernel
theorem dX3_init_12 : decode cX3_init 12 = .ok (.aload_n 0, 1) := by decide +kernel
theorem dX3_init_13 : decode cX3_init 13 = .ok (.bipush 26, 2) := by decide +kernel
theorem dX3_init_15 : decode cX3_init 15 = .ok (.newarray .int, 2) := by decide +kernel
theorem dX3_init_17 : decode cX3_init 17 = .ok (.putfield 15, 3) := by decide +kernel
theorem dX3_init_20 : decode cX3_init 20 = .ok (.aload_n 0, 1) := by decide +kernel
theorem dX3_init_21 : decode cX3_init 21 = .ok (.iconst (-1), 1) := by decide +kernel
theorem dX3_init_22 : decode cX3_init 22 = .ok (.putfield 18, 3) := by decide +kernel
theorem dX3_init_25 : decode cX3_init 25 = .ok (.aload_n 0, 1) := by decide +kernel
theorem dX3_init_26 : decode cX3_init 26 = .ok (.bipush 8, 2) := by decide +kernel
theorem dX3_init_28 : decode cX3_init 28 = .ok (.newarray .int, 2) := by decide +kernel
theorem dX3_init_30 : decode cX3_init 30 = .ok (.putfield 22, 3) := by decide +kernel
theorem dX3_init_33 : decode cX3_init 33 = .ok (.aload_n 0, 1) := by decide +kernel
theorem dX3_init_34 : decode cX3_init 34 = .ok (.iconst 5, 1) := by decide +kernel
theorem dX3_init_35 : decode cX3_init 35 = .ok (.bipush 9, 2) := by decide +kernel
theorem dX3_init_37 : decode cX3_init 37 = .ok (.multianewarray 25 2, 4) := by decide +kernel
theorem dX3_init_41 : decode cX3_init 41 = .ok (.putfield 27, 3) := by decide +kernel
theorem dX3_init_44 : decode cX3_init 44 = .ok (.aload_n 0, 1) := by decide +kernel
theorem dX3_init_45 : decode cX3_init 45 = .ok (.iconst 5, 1) := by decide +kernel
theorem dX3_init_46 : decode cX3_init 46 = .ok (.newarray .int, 2) := by decide +kernel
theorem dX3_init_48 : decode cX3_init 48 = .ok (.putfield 30, 3) := by decide +kernel
theorem dX3_init_51 : decode cX3_init 51 = .ok (.aload_n 0, 1) := by decide +kernel
theorem dX3_init_52 : decode cX3_init 52 = .ok (.bipush 8, 2) := by decide +kernel
theorem dX3_init_54 : decode cX3_init 54 = .ok (.newarray .int, 2) := by decide +kernel
theorem dX3_init_56 : decode cX3_init 56 = .ok (.putfield 33, 3) := by decide +kernel
theorem dX3_init_59 : decode cX3_init 59 = .ok (.aload_n 0, 1) := by decide +kernel
theorem dX3_init_60 : decode cX3_init 60 = .ok (.bipush 8, 2) := by decide +kernel
theorem dX3_init_62 : decode cX3_init 62 = .ok (.newarray .int, 2) := by decide +kernel
theorem dX3_init_64 : decode cX3_init 64 = .ok (.putfield 36, 3) := by decide +kernel
theorem dX3_init_67 : decode cX3_init 67 = .ok (.aload_n 0, 1) := by decide +kernel
theorem dX3_init_68 : decode cX3_init 68 = .ok (.getfield 9, 3) := by decide +kernel
theorem dX3_init_71 : decode cX3_init 71 = .ok (.iconst (-1), 1) := by decide +kernel
theorem dX3_init_72 : decode cX3_init 72 = .ok (.invokestatic 39, 3) := by decide +kernel
theorem dX3_init_75 : decode cX3_init 75 = .ok (.return_, 1) := by decide +kernel
def eX3_init (ids : Nat → ClassId) (h0 : Nat) : List va_E := .inr (3, [.ref (h0 + 1), .ref (h0 + 2), .int 0, .int (-1), .ref (h0 + 3), .int 0, .ref (h0 + 4), .ref (h0 + 10), .int 0, .ref (h0 + 11), .ref (h0 + 12), .int 0]) :: ((((((([] ++ [.inl (ids 0, 26, .inl (fun j => if j < 26 then (-1) else 0))]) ++ [.inl (ids 0, 26, .inl (fun _ => 0))]) ++ [.inl (ids 0, 8, .inl (fun _ => 0))]) ++ ek_rw ids (h0 + 4) 5 9) ++ [.inl (ids 0, 5, .inl (fun _ => 0))]) ++ [.inl (ids 0, 8, .inl (fun _ => 0))]) ++ [.inl (ids 0, 8, .inl (fun _ => 0))])
set_option maxRecDepth 100000 in
theorem kX3_init {ids : Nat → ClassId} {ad : Nat → Nat} {b0 d h0 : Nat} : Ck ids ad b0 (d + 1) 12 131 mX3_init [] h0 (.inr (3, [.null, .null, .int 0, .int 0, .null, .int 0, .null, .null, .int 0, .null, .null, .int 0])) (eX3_init ids h0) := by
  refine Ck_of rfl rfl (Nat.le_of_ble_eq_true rfl) (ls := [some (.ref h0)]) rfl ?_
  refine ek_aload_n (x := h0) dX3_init_0 rfl ?_
  refine ek_objInit dX3_init_1 (ev_t1 154 rfl rfl) (ev_t1 27 rfl rfl) (ev_t1 28 rfl rfl) (by omega) ?_
  refine ek_aload_n (x := h0) dX3_init_4 rfl ?_
  refine ek_bipush (v := 26) dX3_init_5 (by decide) ?_
  refine ek_newa (t := 0) (N := 26) (a0 := (26, .inl (fun _ => 0))) dX3_init_7 (ev_t1 46 rfl rfl) rfl rfl (fun _ => rfl) (nI_pos (n := 26) (by decide)) (nI_clamp (n := 26) (by decide)) (by decide) (Nat.le_of_ble_eq_true rfl) (Nat.le_of_ble_eq_true rfl) ?_
  refine Ek.nm (es2 := (.inr (3, [.null, .null, .int 0, .int 0, .null, .int 0, .null, .null, .int 0, .null, .null, .int 0]) :: ([] ++ [.inl (ids 0, 26, .inl (fun _ => 0))]) : List va_E)) (st2 := [.ref (h0 + 1), .ref h0]) (kc2 := 1) (ks2 := 26) rfl rfl rfl rfl ?_
  refine ek_putF (i := 0) dX3_init_9 kf_WithoutE_Notes_9 rfl (Nat.le_of_ble_eq_true rfl) rfl rfl ?_
  refine Ek.nm (es2 := (.inr (3, [.ref (h0 + 1), .null, .int 0, .int 0, .null, .int 0, .null, .null, .int 0, .null, .null, .int 0]) :: ([] ++ [.inl (ids 0, 26, .inl (fun _ => 0))]) : List va_E)) (st2 := []) (kc2 := 1) (ks2 := 26) rfl rfl rfl rfl ?_
  refine ek_aload_n (x := h0) dX3_init_12 rfl ?_
  refine ek_bipush (v := 26) dX3_init_13 (by decide) ?_
  refine ek_newa (t := 0) (N := 26) (a0 := (26, .inl (fun _ => 0))) dX3_init_15 (ev_t1 46 rfl rfl) rfl rfl (fun _ => rfl) (nI_pos (n := 26) (by decide)) (nI_clamp (n := 26) (by decide)) (by decide) (Nat.le_of_ble_eq_true rfl) (Nat.le_of_ble_eq_true rfl) ?_
  refine Ek.nm (es2 := (.inr (3, [.ref (h0 + 1), .null, .int 0, .int 0, .null, .int 0, .null, .null, .int 0, .null, .null, .int 0]) :: (([] ++ [.inl (ids 0, 26, .inl (fun _ => 0))]) ++ [.inl (ids 0, 26, .inl (fun _ => 0))]) : List va_E)) (st2 := [.ref (h0 + 2), .ref h0]) (kc2 := 2) (ks2 := 52) rfl rfl rfl rfl ?_
  refine ek_putF (i := 0) dX3_init_17 kf_WithoutE_Notes_15 rfl (Nat.le_of_ble_eq_true rfl) rfl rfl ?_
  refine Ek.nm (es2 := (.inr (3, [.ref (h0 + 1), .ref (h0 + 2), .int 0, .int 0, .null, .int 0, .null, .null, .int 0, .null, .null, .int 0]) :: (([] ++ [.inl (ids 0, 26, .inl (fun _ => 0))]) ++ [.inl (ids 0, 26, .inl (fun _ => 0))]) : List va_E)) (st2 := []) (kc2 := 2) (ks2 := 52) rfl rfl rfl rfl ?_
  refine ek_aload_n (x := h0) dX3_init_20 rfl ?_
  refine ek_iconst (v := -1) dX3_init_21 (by decide) ?_
  refine ek_put (i := 0) dX3_init_22 kf_WithoutE_Notes_18 rfl (Nat.le_of_ble_eq_true rfl) rfl rfl ?_
  refine Ek.nm (es2 := (.inr (3, [.ref (h0 + 1), .ref (h0 + 2), .int 0, .int (-1), .null, .int 0, .null, .null, .int 0, .null, .null, .int 0]) :: (([] ++ [.inl (ids 0, 26, .inl (fun _ => 0))]) ++ [.inl (ids 0, 26, .inl (fun _ => 0))]) : List va_E)) (st2 := []) (kc2 := 2) (ks2 := 52) rfl rfl rfl rfl ?_
  refine ek_aload_n (x := h0) dX3_init_25 rfl ?_
  refine ek_bipush (v := 8) dX3_init_26 (by decide) ?_
  refine ek_newa (t := 0) (N := 8) (a0 := (8, .inl (fun _ => 0))) dX3_init_28 (ev_t1 46 rfl rfl) rfl rfl (fun _ => rfl) (nI_pos (n := 8) (by decide)) (nI_clamp (n := 8) (by decide)) (by decide) (Nat.le_of_ble_eq_true rfl) (Nat.le_of_ble_eq_true rfl) ?_
  refine Ek.nm (es2 := (.inr (3, [.ref (h0 + 1), .ref (h0 + 2), .int 0, .int (-1), .null, .int 0, .null, .null, .int 0, .null, .null, .int 0]) :: ((([] ++ [.inl (ids 0, 26, .inl (fun _ => 0))]) ++ [.inl (ids 0, 26, .inl (fun _ => 0))]) ++ [.inl (ids 0, 8, .inl (fun _ => 0))]) : List va_E)) (st2 := [.ref (h0 + 3), .ref h0]) (kc2 := 3) (ks2 := 60) rfl rfl rfl rfl ?_
  refine ek_putF (i := 0) dX3_init_30 kf_WithoutE_Notes_22 rfl (Nat.le_of_ble_eq_true rfl) rfl rfl ?_
  refine Ek.nm (es2 := (.inr (3, [.ref (h0 + 1), .ref (h0 + 2), .int 0, .int (-1), .ref (h0 + 3), .int 0, .null, .null, .int 0, .null, .null, .int 0]) :: ((([] ++ [.inl (ids 0, 26, .inl (fun _ => 0))]) ++ [.inl (ids 0, 26, .inl (fun _ => 0))]) ++ [.inl (ids 0, 8, .inl (fun _ => 0))]) : List va_E)) (st2 := []) (kc2 := 3) (ks2 := 60) rfl rfl rfl rfl ?_
  refine ek_aload_n (x := h0) dX3_init_33 rfl ?_
  refine ek_iconst (v := 5) dX3_init_34 (by decide) ?_
  refine ek_bipush (v := 9) dX3_init_35 (by decide) ?_
  refine ek_multi (N := 5) (K := 9) dX3_init_37 (ev_t1 155 rfl rfl) (nI_pos (n := 5) (by decide)) (nI_pos (n := 9) (by decide)) (nI_clamp (n := 5) (by decide)) (nI_clamp (n := 9) (by decide)) (by decide) (by decide) (Nat.le_of_ble_eq_true rfl) (Nat.le_of_ble_eq_true rfl) ?_
  refine Ek.nm (es2 := (.inr (3, [.ref (h0 + 1), .ref (h0 + 2), .int 0, .int (-1), .ref (h0 + 3), .int 0, .null, .null, .int 0, .null, .null, .int 0]) :: (((([] ++ [.inl (ids 0, 26, .inl (fun _ => 0))]) ++ [.inl (ids 0, 26, .inl (fun _ => 0))]) ++ [.inl (ids 0, 8, .inl (fun _ => 0))]) ++ ek_rw ids (h0 + 4) 5 9) : List va_E)) (st2 := [.ref (h0 + 4), .ref h0]) (kc2 := 9) (ks2 := 110) rfl rfl rfl rfl ?_
  refine ek_putF (i := 0) dX3_init_41 kf_WithoutE_Notes_27 rfl (Nat.le_of_ble_eq_true rfl) rfl rfl ?_
  refine Ek.nm (es2 := (.inr (3, [.ref (h0 + 1), .ref (h0 + 2), .int 0, .int (-1), .ref (h0 + 3), .int 0, .ref (h0 + 4), .null, .int 0, .null, .null, .int 0]) :: (((([] ++ [.inl (ids 0, 26, .inl (fun _ => 0))]) ++ [.inl (ids 0, 26, .inl (fun _ => 0))]) ++ [.inl (ids 0, 8, .inl (fun _ => 0))]) ++ ek_rw ids (h0 + 4) 5 9) : List va_E)) (st2 := []) (kc2 := 9) (ks2 := 110) rfl rfl rfl rfl ?_
  refine ek_aload_n (x := h0) dX3_init_44 rfl ?_
  refine ek_iconst (v := 5) dX3_init_45 (by decide) ?_
  refine ek_newa (t := 0) (N := 5) (a0 := (5, .inl (fun _ => 0))) dX3_init_46 (ev_t1 46 rfl rfl) rfl rfl (fun _ => rfl) (nI_pos (n := 5) (by decide)) (nI_clamp (n := 5) (by decide)) (by decide) (Nat.le_of_ble_eq_true rfl) (Nat.le_of_ble_eq_true rfl) ?_
  refine Ek.nm (es2 := (.inr (3, [.ref (h0 + 1), .ref (h0 + 2), .int 0, .int (-1), .ref (h0 + 3), .int 0, .ref (h0 + 4), .null, .int 0, .null, .null, .int 0]) :: ((((([] ++ [.inl (ids 0, 26, .inl (fun _ => 0))]) ++ [.inl (ids 0, 26, .inl (fun _ => 0))]) ++ [.inl (ids 0, 8, .inl (fun _ => 0))]) ++ ek_rw ids (h0 + 4) 5 9) ++ [.inl (ids 0, 5, .inl (fun _ => 0))]) : List va_E)) (st2 := [.ref (h0 + 10), .ref h0]) (kc2 := 10) (ks2 := 115) rfl rfl rfl rfl ?_
  refine ek_putF (i := 0) dX3_init_48 kf_WithoutE_Notes_30 rfl (Nat.le_of_ble_eq_true rfl) rfl rfl ?_
  refine Ek.nm (es2 := (.inr (3, [.ref (h0 + 1), .ref (h0 + 2), .int 0, .int (-1), .ref (h0 + 3), .int 0, .ref (h0 + 4), .ref (h0 + 10), .int 0, .null, .null, .int 0]) :: ((((([] ++ [.inl (ids 0, 26, .inl (fun _ => 0))]) ++ [.inl (ids 0, 26, .inl (fun _ => 0))]) ++ [.inl (ids 0, 8, .inl (fun _ => 0))]) ++ ek_rw ids (h0 + 4) 5 9) ++ [.inl (ids 0, 5, .inl (fun _ => 0))]) : List va_E)) (st2 := []) (kc2 := 10) (ks2 := 115) rfl rfl rfl rfl ?_
  refine ek_aload_n (x := h0) dX3_init_51 rfl ?_
  refine ek_bipush (v := 8) dX3_init_52 (by decide) ?_
  refine ek_newa (t := 0) (N := 8) (a0 := (8, .inl (fun _ => 0))) dX3_init_54 (ev_t1 46 rfl rfl) rfl rfl (fun _ => rfl) (nI_pos (n := 8) (by decide)) (nI_clamp (n := 8) (by decide)) (by decide) (Nat.le_of_ble_eq_true rfl) (Nat.le_of_ble_eq_true rfl) ?_
  refine Ek.nm (es2 := (.inr (3, [.ref (h0 + 1), .ref (h0 + 2), .int 0, .int (-1), .ref (h0 + 3), .int 0, .ref (h0 + 4), .ref (h0 + 10), .int 0, .null, .null, .int 0]) :: (((((([] ++ [.inl (ids 0, 26, .inl (fun _ => 0))]) ++ [.inl (ids 0, 26, .inl (fun _ => 0))]) ++ [.inl (ids 0, 8, .inl (fun _ => 0))]) ++ ek_rw ids (h0 + 4) 5 9) ++ [.inl (ids 0, 5, .inl (fun _ => 0))]) ++ [.inl (ids 0, 8, .inl (fun _ => 0))]) : List va_E)) (st2 := [.ref (h0 + 11), .ref h0]) (kc2 := 11) (ks2 := 123) rfl rfl rfl rfl ?_
  refine ek_putF (i := 0) dX3_init_56 kf_WithoutE_Notes_33 rfl (Nat.le_of_ble_eq_true rfl) rfl rfl ?_
  refine Ek.nm (es2 := (.inr (3, [.ref (h0 + 1), .ref (h0 + 2), .int 0, .int (-1), .ref (h0 + 3), .int 0, .ref (h0 + 4), .ref (h0 + 10), .int 0, .ref (h0 + 11), .null, .int 0]) :: (((((([] ++ [.inl (ids 0, 26, .inl (fun _ => 0))]) ++ [.inl (ids 0, 26, .inl (fun _ => 0))]) ++ [.inl (ids 0, 8, .inl (fun _ => 0))]) ++ ek_rw ids (h0 + 4) 5 9) ++ [.inl (ids 0, 5, .inl (fun _ => 0))]) ++ [.inl (ids 0, 8, .inl (fun _ => 0))]) : List va_E)) (st2 := []) (kc2 := 11) (ks2 := 123) rfl rfl rfl rfl ?_
  refine ek_aload_n (x := h0) dX3_init_59 rfl ?_
  refine ek_bipush (v := 8) dX3_init_60 (by decide) ?_
  refine ek_newa (t := 0) (N := 8) (a0 := (8, .inl (fun _ => 0))) dX3_init_62 (ev_t1 46 rfl rfl) rfl rfl (fun _ => rfl) (nI_pos (n := 8) (by decide)) (nI_clamp (n := 8) (by decide)) (by decide) (Nat.le_of_ble_eq_true rfl) (Nat.le_of_ble_eq_true rfl) ?_
  refine Ek.nm (es2 := (.inr (3, [.ref (h0 + 1), .ref (h0 + 2), .int 0, .int (-1), .ref (h0 + 3), .int 0, .ref (h0 + 4), .ref (h0 + 10), .int 0, .ref (h0 + 11), .null, .int 0]) :: ((((((([] ++ [.inl (ids 0, 26, .inl (fun _ => 0))]) ++ [.inl (ids 0, 26, .inl (fun _ => 0))]) ++ [.inl (ids 0, 8, .inl (fun _ => 0))]) ++ ek_rw ids (h0 + 4) 5 9) ++ [.inl (ids 0, 5, .inl (fun _ => 0))]) ++ [.inl (ids 0, 8, .inl (fun _ => 0))]) ++ [.inl (ids 0, 8, .inl (fun _ => 0))]) : List va_E)) (st2 := [.ref (h0 + 12), .ref h0]) (kc2 := 12) (ks2 := 131) rfl rfl rfl rfl ?_
  refine ek_putF (i := 0) dX3_init_64 kf_WithoutE_Notes_36 rfl (Nat.le_of_ble_eq_true rfl) rfl rfl ?_
  refine Ek.nm (es2 := (.inr (3, [.ref (h0 + 1), .ref (h0 + 2), .int 0, .int (-1), .ref (h0 + 3), .int 0, .ref (h0 + 4), .ref (h0 + 10), .int 0, .ref (h0 + 11), .ref (h0 + 12), .int 0]) :: ((((((([] ++ [.inl (ids 0, 26, .inl (fun _ => 0))]) ++ [.inl (ids 0, 26, .inl (fun _ => 0))]) ++ [.inl (ids 0, 8, .inl (fun _ => 0))]) ++ ek_rw ids (h0 + 4) 5 9) ++ [.inl (ids 0, 5, .inl (fun _ => 0))]) ++ [.inl (ids 0, 8, .inl (fun _ => 0))]) ++ [.inl (ids 0, 8, .inl (fun _ => 0))]) : List va_E)) (st2 := []) (kc2 := 12) (ks2 := 131) rfl rfl rfl rfl ?_
  refine ek_aload_n (x := h0) dX3_init_67 rfl ?_
  refine ek_get (i := 0) (v := .ref (h0 + 1)) dX3_init_68 kg_WithoutE_Notes_9 rfl rfl ?_
  refine ek_iconst (v := -1) dX3_init_71 (by decide) ?_
  refine ek_fill (i := 1) dX3_init_72 ks_fill (Nat.le_of_ble_eq_true rfl) (Nat.le_of_ble_eq_true rfl) (Nat.le_of_ble_eq_true rfl) rfl (by decide) ?_
  refine Ek.nm (es2 := (.inr (3, [.ref (h0 + 1), .ref (h0 + 2), .int 0, .int (-1), .ref (h0 + 3), .int 0, .ref (h0 + 4), .ref (h0 + 10), .int 0, .ref (h0 + 11), .ref (h0 + 12), .int 0]) :: ((((((([] ++ [.inl (ids 0, 26, .inl (fun j => if j < 26 then (-1) else 0))]) ++ [.inl (ids 0, 26, .inl (fun _ => 0))]) ++ [.inl (ids 0, 8, .inl (fun _ => 0))]) ++ ek_rw ids (h0 + 4) 5 9) ++ [.inl (ids 0, 5, .inl (fun _ => 0))]) ++ [.inl (ids 0, 8, .inl (fun _ => 0))]) ++ [.inl (ids 0, 8, .inl (fun _ => 0))]) : List va_E)) (st2 := []) (kc2 := 12) (ks2 := 131) rfl rfl rfl rfl ?_
  exact ek_vret dX3_init_75 rfl (Nat.le_of_ble_eq_true rfl) (Nat.le_of_ble_eq_true rfl)
theorem dX0_init_0 : decode cX0_init 0 = .ok (.aload_n 0, 1) := by decide +kernel
theorem dX0_init_1 : decode cX0_init 1 = .ok (.invokespecial 3, 3) := by decide +kernel
theorem dX0_init_4 : decode cX0_init 4 = .ok (.aload_n 0, 1) := by decide +kernel
theorem dX0_init_5 : decode cX0_init 5 = .ok (.bipush 24, 2) := by decide +kernel
theorem dX0_init_7 : decode cX0_init 7 = .ok (.bipush 9, 2) := by decide +kernel
theorem dX0_init_9 : decode cX0_init 9 = .ok (.multianewarray 9 2, 4) := by decide +kernel
theorem dX0_init_13 : decode cX0_init 13 = .ok (.putfield 11, 3) := by decide +kernel
theorem dX0_init_16 : decode cX0_init 16 = .ok (.aload_n 0, 1) := by decide +kernel
theorem dX0_init_17 : decode cX0_init 17 = .ok (.bipush 24, 2) := by decide +kernel
theorem dX0_init_19 : decode cX0_init 19 = .ok (.newarray .int, 2) := by decide +kernel
theorem dX0_init_21 : decode cX0_init 21 = .ok (.putfield 16, 3) := by decide +kernel
theorem dX0_init_24 : decode cX0_init 24 = .ok (.aload_n 0, 1) := by decide +kernel
theorem dX0_init_25 : decode cX0_init 25 = .ok (.bipush 24, 2) := by decide +kernel
theorem dX0_init_27 : decode cX0_init 27 = .ok (.newarray .int, 2) := by decide +kernel
theorem dX0_init_29 : decode cX0_init 29 = .ok (.putfield 20, 3) := by decide +kernel
theorem dX0_init_32 : decode cX0_init 32 = .ok (.aload_n 0, 1) := by decide +kernel
theorem dX0_init_33 : decode cX0_init 33 = .ok (.bipush 24, 2) := by decide +kernel
theorem dX0_init_35 : decode cX0_init 35 = .ok (.newarray .int, 2) := by decide +kernel
theorem dX0_init_37 : decode cX0_init 37 = .ok (.putfield 23, 3) := by decide +kernel
theorem dX0_init_40 : decode cX0_init 40 = .ok (.aload_n 0, 1) := by decide +kernel
theorem dX0_init_41 : decode cX0_init 41 = .ok (.bipush 24, 2) := by decide +kernel
theorem dX0_init_43 : decode cX0_init 43 = .ok (.newarray .int, 2) := by decide +kernel
theorem dX0_init_45 : decode cX0_init 45 = .ok (.putfield 26, 3) := by decide +kernel
theorem dX0_init_48 : decode cX0_init 48 = .ok (.aload_n 0, 1) := by decide +kernel
theorem dX0_init_49 : decode cX0_init 49 = .ok (.bipush 8, 2) := by decide +kernel
theorem dX0_init_51 : decode cX0_init 51 = .ok (.iconst 5, 1) := by decide +kernel
theorem dX0_init_52 : decode cX0_init 52 = .ok (.multianewarray 9 2, 4) := by decide +kernel
theorem dX0_init_56 : decode cX0_init 56 = .ok (.putfield 29, 3) := by decide +kernel
theorem dX0_init_59 : decode cX0_init 59 = .ok (.aload_n 0, 1) := by decide +kernel
theorem dX0_init_60 : decode cX0_init 60 = .ok (.bipush 8, 2) := by decide +kernel
theorem dX0_init_62 : decode cX0_init 62 = .ok (.newarray .int, 2) := by decide +kernel
theorem dX0_init_64 : decode cX0_init 64 = .ok (.putfield 32, 3) := by decide +kernel
theorem dX0_init_67 : decode cX0_init 67 = .ok (.return_, 1) := by decide +kernel
def eX0_init (ids : Nat → ClassId) (h0 : Nat) : List va_E := .inr (0, [.ref (h0 + 1), .ref (h0 + 26), .ref (h0 + 27), .ref (h0 + 28), .ref (h0 + 29), .int 0, .ref (h0 + 30), .ref (h0 + 39), .int 0]) :: ((((((([] ++ ek_rw ids (h0 + 1) 24 9) ++ [.inl (ids 0, 24, .inl (fun _ => 0))]) ++ [.inl (ids 0, 24, .inl (fun _ => 0))]) ++ [.inl (ids 0, 24, .inl (fun _ => 0))]) ++ [.inl (ids 0, 24, .inl (fun _ => 0))]) ++ ek_rw ids (h0 + 30) 8 5) ++ [.inl (ids 0, 8, .inl (fun _ => 0))])
set_option maxRecDepth 100000 in
theorem kX0_init {ids : Nat → ClassId} {ad : Nat → Nat} {b0 d h0 : Nat} : Ck ids ad b0 (d + 1) 39 392 mX0_init [] h0 (.inr (0, [.null, .null, .null, .null, .null, .int 0, .null, .null, .int 0])) (eX0_init ids h0) := by
  refine Ck_of rfl rfl (Nat.le_of_ble_eq_true rfl) (ls := [some (.ref h0)]) rfl ?_
  refine ek_aload_n (x := h0) dX0_init_0 rfl ?_
  refine ek_objInit dX0_init_1 (ev_t1 52 rfl rfl) (ev_t1 27 rfl rfl) (ev_t1 28 rfl rfl) (by omega) ?_
  refine ek_aload_n (x := h0) dX0_init_4 rfl ?_
  refine ek_bipush (v := 24) dX0_init_5 (by decide) ?_
  refine ek_bipush (v := 9) dX0_init_7 (by decide) ?_
  refine ek_multi (N := 24) (K := 9) dX0_init_9 (ev_t1 53 rfl rfl) (nI_pos (n := 24) (by decide)) (nI_pos (n := 9) (by decide)) (nI_clamp (n := 24) (by decide)) (nI_clamp (n := 9) (by decide)) (by decide) (by decide) (Nat.le_of_ble_eq_true rfl) (Nat.le_of_ble_eq_true rfl) ?_
  refine Ek.nm (es2 := (.inr (0, [.null, .null, .null, .null, .null, .int 0, .null, .null, .int 0]) :: ([] ++ ek_rw ids (h0 + 1) 24 9) : List va_E)) (st2 := [.ref (h0 + 1), .ref h0]) (kc2 := 25) (ks2 := 240) rfl rfl rfl rfl ?_
  refine ek_putF (i := 0) dX0_init_13 kf_WithoutE_Dictionary_11 rfl (Nat.le_of_ble_eq_true rfl) rfl rfl ?_
  refine Ek.nm (es2 := (.inr (0, [.ref (h0 + 1), .null, .null, .null, .null, .int 0, .null, .null, .int 0]) :: ([] ++ ek_rw ids (h0 + 1) 24 9) : List va_E)) (st2 := []) (kc2 := 25) (ks2 := 240) rfl rfl rfl rfl ?_
  refine ek_aload_n (x := h0) dX0_init_16 rfl ?_
  refine ek_bipush (v := 24) dX0_init_17 (by decide) ?_
  refine ek_newa (t := 0) (N := 24) (a0 := (24, .inl (fun _ => 0))) dX0_init_19 (ev_t1 46 rfl rfl) rfl rfl (fun _ => rfl) (nI_pos (n := 24) (by decide)) (nI_clamp (n := 24) (by decide)) (by decide) (Nat.le_of_ble_eq_true rfl) (Nat.le_of_ble_eq_true rfl) ?_
  refine Ek.nm (es2 := (.inr (0, [.ref (h0 + 1), .null, .null, .null, .null, .int 0, .null, .null, .int 0]) :: (([] ++ ek_rw ids (h0 + 1) 24 9) ++ [.inl (ids 0, 24, .inl (fun _ => 0))]) : List va_E)) (st2 := [.ref (h0 + 26), .ref h0]) (kc2 := 26) (ks2 := 264) rfl rfl rfl rfl ?_
  refine ek_putF (i := 0) dX0_init_21 kf_WithoutE_Dictionary_16 rfl (Nat.le_of_ble_eq_true rfl) rfl rfl ?_
  refine Ek.nm (es2 := (.inr (0, [.ref (h0 + 1), .ref (h0 + 26), .null, .null, .null, .int 0, .null, .null, .int 0]) :: (([] ++ ek_rw ids (h0 + 1) 24 9) ++ [.inl (ids 0, 24, .inl (fun _ => 0))]) : List va_E)) (st2 := []) (kc2 := 26) (ks2 := 264) rfl rfl rfl rfl ?_
  refine ek_aload_n (x := h0) dX0_init_24 rfl ?_
  refine ek_bipush (v := 24) dX0_init_25 (by decide) ?_
  refine ek_newa (t := 0) (N := 24) (a0 := (24, .inl (fun _ => 0))) dX0_init_27 (ev_t1 46 rfl rfl) rfl rfl (fun _ => rfl) (nI_pos (n := 24) (by decide)) (nI_clamp (n := 24) (by decide)) (by decide) (Nat.le_of_ble_eq_true rfl) (Nat.le_of_ble_eq_true rfl) ?_
  refine Ek.nm (es2 := (.inr (0, [.ref (h0 + 1), .ref (h0 + 26), .null, .null, .null, .int 0, .null, .null, .int 0]) :: ((([] ++ ek_rw ids (h0 + 1) 24 9) ++ [.inl (ids 0, 24, .inl (fun _ => 0))]) ++ [.inl (ids 0, 24, .inl (fun _ => 0))]) : List va_E)) (st2 := [.ref (h0 + 27), .ref h0]) (kc2 := 27) (ks2 := 288) rfl rfl rfl rfl ?_
  refine ek_putF (i := 0) dX0_init_29 kf_WithoutE_Dictionary_20 rfl (Nat.le_of_ble_eq_true rfl) rfl rfl ?_
  refine Ek.nm (es2 := (.inr (0, [.ref (h0 + 1), .ref (h0 + 26), .ref (h0 + 27), .null, .null, .int 0, .null, .null, .int 0]) :: ((([] ++ ek_rw ids (h0 + 1) 24 9) ++ [.inl (ids 0, 24, .inl (fun _ => 0))]) ++ [.inl (ids 0, 24, .inl (fun _ => 0))]) : List va_E)) (st2 := []) (kc2 := 27) (ks2 := 288) rfl rfl rfl rfl ?_
  refine ek_aload_n (x := h0) dX0_init_32 rfl ?_
  refine ek_bipush (v := 24) dX0_init_33 (by decide) ?_
  refine ek_newa (t := 0) (N := 24) (a0 := (24, .inl (fun _ => 0))) dX0_init_35 (ev_t1 46 rfl rfl) rfl rfl (fun _ => rfl) (nI_pos (n := 24) (by decide)) (nI_clamp (n := 24) (by decide)) (by decide) (Nat.le_of_ble_eq_true rfl) (Nat.le_of_ble_eq_true rfl) ?_
  refine Ek.nm (es2 := (.inr (0, [.ref (h0 + 1), .ref (h0 + 26), .ref (h0 + 27), .null, .null, .int 0, .null, .null, .int 0]) :: (((([] ++ ek_rw ids (h0 + 1) 24 9) ++ [.inl (ids 0, 24, .inl (fun _ => 0))]) ++ [.inl (ids 0, 24, .inl (fun _ => 0))]) ++ [.inl (ids 0, 24, .inl (fun _ => 0))]) : List va_E)) (st2 := [.ref (h0 + 28), .ref h0]) (kc2 := 28) (ks2 := 312) rfl rfl rfl rfl ?_
  refine ek_putF (i := 0) dX0_init_37 kf_WithoutE_Dictionary_23 rfl (Nat.le_of_ble_eq_true rfl) rfl rfl ?_
  refine Ek.nm (es2 := (.inr (0, [.ref (h0 + 1), .ref (h0 + 26), .ref (h0 + 27), .ref (h0 + 28), .null, .int 0, .null, .null, .int 0]) :: (((([] ++ ek_rw ids (h0 + 1) 24 9) ++ [.inl (ids 0, 24, .inl (fun _ => 0))]) ++ [.inl (ids 0, 24, .inl (fun _ => 0))]) ++ [.inl (ids 0, 24, .inl (fun _ => 0))]) : List va_E)) (st2 := []) (kc2 := 28) (ks2 := 312) rfl rfl rfl rfl ?_
  refine ek_aload_n (x := h0) dX0_init_40 rfl ?_
  refine ek_bipush (v := 24) dX0_init_41 (by decide) ?_
  refine ek_newa (t := 0) (N := 24) (a0 := (24, .inl (fun _ => 0))) dX0_init_43 (ev_t1 46 rfl rfl) rfl rfl (fun _ => rfl) (nI_pos (n := 24) (by decide)) (nI_clamp (n := 24) (by decide)) (by decide) (Nat.le_of_ble_eq_true rfl) (Nat.le_of_ble_eq_true rfl) ?_
  refine Ek.nm (es2 := (.inr (0, [.ref (h0 + 1), .ref (h0 + 26), .ref (h0 + 27), .ref (h0 + 28), .null, .int 0, .null, .null, .int 0]) :: ((((([] ++ ek_rw ids (h0 + 1) 24 9) ++ [.inl (ids 0, 24, .inl (fun _ => 0))]) ++ [.inl (ids 0, 24, .inl (fun _ => 0))]) ++ [.inl (ids 0, 24, .inl (fun _ => 0))]) ++ [.inl (ids 0, 24, .inl (fun _ => 0))]) : List va_E)) (st2 := [.ref (h0 + 29), .ref h0]) (kc2 := 29) (ks2 := 336) rfl rfl rfl rfl ?_
  refine ek_putF (i := 0) dX0_init_45 kf_WithoutE_Dictionary_26 rfl (Nat.le_of_ble_eq_true rfl) rfl rfl ?_
  refine Ek.nm (es2 := (.inr (0, [.ref (h0 + 1), .ref (h0 + 26), .ref (h0 + 27), .ref (h0 + 28), .ref (h0 + 29), .int 0, .null, .null, .int 0]) :: ((((([] ++ ek_rw ids (h0 + 1) 24 9) ++ [.inl (ids 0, 24, .inl (fun _ => 0))]) ++ [.inl (ids 0, 24, .inl (fun _ => 0))]) ++ [.inl (ids 0, 24, .inl (fun _ => 0))]) ++ [.inl (ids 0, 24, .inl (fun _ => 0))]) : List va_E)) (st2 := []) (kc2 := 29) (ks2 := 336) rfl rfl rfl rfl ?_
  refine ek_aload_n (x := h0) dX0_init_48 rfl ?_
  refine ek_bipush (v := 8) dX0_init_49 (by decide) ?_
  refine ek_iconst (v := 5) dX0_init_51 (by decide) ?_
  refine ek_multi (N := 8) (K := 5) dX0_init_52 (ev_t1 53 rfl rfl) (nI_pos (n := 8) (by decide)) (nI_pos (n := 5) (by decide)) (nI_clamp (n := 8) (by decide)) (nI_clamp (n := 5) (by decide)) (by decide) (by decide) (Nat.le_of_ble_eq_true rfl) (Nat.le_of_ble_eq_true rfl) ?_
  refine Ek.nm (es2 := (.inr (0, [.ref (h0 + 1), .ref (h0 + 26), .ref (h0 + 27), .ref (h0 + 28), .ref (h0 + 29), .int 0, .null, .null, .int 0]) :: (((((([] ++ ek_rw ids (h0 + 1) 24 9) ++ [.inl (ids 0, 24, .inl (fun _ => 0))]) ++ [.inl (ids 0, 24, .inl (fun _ => 0))]) ++ [.inl (ids 0, 24, .inl (fun _ => 0))]) ++ [.inl (ids 0, 24, .inl (fun _ => 0))]) ++ ek_rw ids (h0 + 30) 8 5) : List va_E)) (st2 := [.ref (h0 + 30), .ref h0]) (kc2 := 38) (ks2 := 384) rfl rfl rfl rfl ?_
  refine ek_putF (i := 0) dX0_init_56 kf_WithoutE_Dictionary_29 rfl (Nat.le_of_ble_eq_true rfl) rfl rfl ?_
  refine Ek.nm (es2 := (.inr (0, [.ref (h0 + 1), .ref (h0 + 26), .ref (h0 + 27), .ref (h0 + 28), .ref (h0 + 29), .int 0, .ref (h0 + 30), .null, .int 0]) :: (((((([] ++ ek_rw ids (h0 + 1) 24 9) ++ [.inl (ids 0, 24, .inl (fun _ => 0))]) ++ [.inl (ids 0, 24, .inl (fun _ => 0))]) ++ [.inl (ids 0, 24, .inl (fun _ => 0))]) ++ [.inl (ids 0, 24, .inl (fun _ => 0))]) ++ ek_rw ids (h0 + 30) 8 5) : List va_E)) (st2 := []) (kc2 := 38) (ks2 := 384) rfl rfl rfl rfl ?_
  refine ek_aload_n (x := h0) dX0_init_59 rfl ?_
  refine ek_bipush (v := 8) dX0_init_60 (by decide) ?_
  refine ek_newa (t := 0) (N := 8) (a0 := (8, .inl (fun _ => 0))) dX0_init_62 (ev_t1 46 rfl rfl) rfl rfl (fun _ => rfl) (nI_pos (n := 8) (by decide)) (nI_clamp (n := 8) (by decide)) (by decide) (Nat.le_of_ble_eq_true rfl) (Nat.le_of_ble_eq_true rfl) ?_
  refine Ek.nm (es2 := (.inr (0, [.ref (h0 + 1), .ref (h0 + 26), .ref (h0 + 27), .ref (h0 + 28), .ref (h0 + 29), .int 0, .ref (h0 + 30), .null, .int 0]) :: ((((((([] ++ ek_rw ids (h0 + 1) 24 9) ++ [.inl (ids 0, 24, .inl (fun _ => 0))]) ++ [.inl (ids 0, 24, .inl (fun _ => 0))]) ++ [.inl (ids 0, 24, .inl (fun _ => 0))]) ++ [.inl (ids 0, 24, .inl (fun _ => 0))]) ++ ek_rw ids (h0 + 30) 8 5) ++ [.inl (ids 0, 8, .inl (fun _ => 0))]) : List va_E)) (st2 := [.ref (h0 + 39), .ref h0]) (kc2 := 39) (ks2 := 392) rfl rfl rfl rfl ?_
  refine ek_putF (i := 0) dX0_init_64 kf_WithoutE_Dictionary_32 rfl (Nat.le_of_ble_eq_true rfl) rfl rfl ?_
  refine Ek.nm (es2 := (.inr (0, [.ref (h0 + 1), .ref (h0 + 26), .ref (h0 + 27), .ref (h0 + 28), .ref (h0 + 29), .int 0, .ref (h0 + 30), .ref (h0 + 39), .int 0]) :: ((((((([] ++ ek_rw ids (h0 + 1) 24 9) ++ [.inl (ids 0, 24, .inl (fun _ => 0))]) ++ [.inl (ids 0, 24, .inl (fun _ => 0))]) ++ [.inl (ids 0, 24, .inl (fun _ => 0))]) ++ [.inl (ids 0, 24, .inl (fun _ => 0))]) ++ ek_rw ids (h0 + 30) 8 5) ++ [.inl (ids 0, 8, .inl (fun _ => 0))]) : List va_E)) (st2 := []) (kc2 := 39) (ks2 := 392) rfl rfl rfl rfl ?_
  exact ek_vret dX0_init_67 rfl (Nat.le_of_ble_eq_true rfl) (Nat.le_of_ble_eq_true rfl)
theorem dX8_init_0 : decode cX8_init 0 = .ok (.aload_n 0, 1) := by decide +kernel
theorem dX8_init_1 : decode cX8_init 1 = .ok (.invokespecial 3, 3) := by decide +kernel
theorem dX8_init_4 : decode cX8_init 4 = .ok (.aload_n 0, 1) := by decide +kernel
theorem dX8_init_5 : decode cX8_init 5 = .ok (.sipush 300, 3) := by decide +kernel
theorem dX8_init_8 : decode cX8_init 8 = .ok (.newarray .int, 2) := by decide +kernel
theorem dX8_init_10 : decode cX8_init 10 = .ok (.putfield 9, 3) := by decide +kernel
theorem dX8_init_13 : decode cX8_init 13 = .ok (.aload_n 0, 1) := by decide +kernel
theorem dX8_init_14 : decode cX8_init 14 = .ok (.bipush 24, 2) := by decide +kernel
theorem dX8_init_16 : decode cX8_init 16 = .ok (.newarray .int, 2) := by decide +kernel
theorem dX8_init_18 : decode cX8_init 18 = .ok (.putfield 15, 3) := by decide +kernel
theorem dX8_init_21 : decode cX8_init 21 = .ok (.aload_n 0, 1) := by decide +kernel
theorem dX8_init_22 : decode cX8_init 22 = .ok (.bipush 24, 2) := by decide +kernel
theorem dX8_init_24 : decode cX8_init 24 = .ok (.newarray .int, 2) := by decide +kernel
theorem dX8_init_26 : decode cX8_init 26 = .ok (.putfield 18, 3) := by decide +kernel
theorem dX8_init_29 : decode cX8_init 29 = .ok (.aload_n 0, 1) := by decide +kernel
theorem dX8_init_30 : decode cX8_init 30 = .ok (.iconst 3, 1) := by decide +kernel
theorem dX8_init_31 : decode cX8_init 31 = .ok (.newarray .int, 2) := by decide +kernel
theorem dX8_init_33 : decode cX8_init 33 = .ok (.putfield 21, 3) := by decide +kernel
theorem dX8_init_36 : decode cX8_init 36 = .ok (.return_, 1) := by decide +kernel
def eX8_init (ids : Nat → ClassId) (h0 : Nat) : List va_E := .inr (8, [.ref (h0 + 1), .int 0, .ref (h0 + 2), .ref (h0 + 3), .int 0, .ref (h0 + 4)]) :: (((([] ++ [.inl (ids 0, 300, .inl (fun _ => 0))]) ++ [.inl (ids 0, 24, .inl (fun _ => 0))]) ++ [.inl (ids 0, 24, .inl (fun _ => 0))]) ++ [.inl (ids 0, 3, .inl (fun _ => 0))])
set_option maxRecDepth 100000 in
theorem kX8_init {ids : Nat → ClassId} {ad : Nat → Nat} {b0 d h0 : Nat} : Ck ids ad b0 (d + 1) 4 351 mX8_init [] h0 (.inr (8, [.null, .int 0, .null, .null, .int 0, .null])) (eX8_init ids h0) := by
  refine Ck_of rfl rfl (Nat.le_of_ble_eq_true rfl) (ls := [some (.ref h0)]) rfl ?_
  refine ek_aload_n (x := h0) dX8_init_0 rfl ?_
  refine ek_objInit dX8_init_1 (ev_t2 13 rfl rfl) (ev_t1 27 rfl rfl) (ev_t1 28 rfl rfl) (by omega) ?_
  refine ek_aload_n (x := h0) dX8_init_4 rfl ?_
  refine ek_sipush (v := 300) dX8_init_5 (by decide) ?_
  refine ek_newa (t := 0) (N := 300) (a0 := (300, .inl (fun _ => 0))) dX8_init_8 (ev_t1 46 rfl rfl) rfl rfl (fun _ => rfl) (nI_pos (n := 300) (by decide)) (nI_clamp (n := 300) (by decide)) (by decide) (Nat.le_of_ble_eq_true rfl) (Nat.le_of_ble_eq_true rfl) ?_
  refine Ek.nm (es2 := (.inr (8, [.null, .int 0, .null, .null, .int 0, .null]) :: ([] ++ [.inl (ids 0, 300, .inl (fun _ => 0))]) : List va_E)) (st2 := [.ref (h0 + 1), .ref h0]) (kc2 := 1) (ks2 := 300) rfl rfl rfl rfl ?_
  refine ek_putF (i := 0) dX8_init_10 kf_WithoutE_Text_9 rfl (Nat.le_of_ble_eq_true rfl) rfl rfl ?_
  refine Ek.nm (es2 := (.inr (8, [.ref (h0 + 1), .int 0, .null, .null, .int 0, .null]) :: ([] ++ [.inl (ids 0, 300, .inl (fun _ => 0))]) : List va_E)) (st2 := []) (kc2 := 1) (ks2 := 300) rfl rfl rfl rfl ?_
  refine ek_aload_n (x := h0) dX8_init_13 rfl ?_
  refine ek_bipush (v := 24) dX8_init_14 (by decide) ?_
  refine ek_newa (t := 0) (N := 24) (a0 := (24, .inl (fun _ => 0))) dX8_init_16 (ev_t1 46 rfl rfl) rfl rfl (fun _ => rfl) (nI_pos (n := 24) (by decide)) (nI_clamp (n := 24) (by decide)) (by decide) (Nat.le_of_ble_eq_true rfl) (Nat.le_of_ble_eq_true rfl) ?_
  refine Ek.nm (es2 := (.inr (8, [.ref (h0 + 1), .int 0, .null, .null, .int 0, .null]) :: (([] ++ [.inl (ids 0, 300, .inl (fun _ => 0))]) ++ [.inl (ids 0, 24, .inl (fun _ => 0))]) : List va_E)) (st2 := [.ref (h0 + 2), .ref h0]) (kc2 := 2) (ks2 := 324) rfl rfl rfl rfl ?_
  refine ek_putF (i := 0) dX8_init_18 kf_WithoutE_Text_15 rfl (Nat.le_of_ble_eq_true rfl) rfl rfl ?_
  refine Ek.nm (es2 := (.inr (8, [.ref (h0 + 1), .int 0, .ref (h0 + 2), .null, .int 0, .null]) :: (([] ++ [.inl (ids 0, 300, .inl (fun _ => 0))]) ++ [.inl (ids 0, 24, .inl (fun _ => 0))]) : List va_E)) (st2 := []) (kc2 := 2) (ks2 := 324) rfl rfl rfl rfl ?_
  refine ek_aload_n (x := h0) dX8_init_21 rfl ?_
  refine ek_bipush (v := 24) dX8_init_22 (by decide) ?_
  refine ek_newa (t := 0) (N := 24) (a0 := (24, .inl (fun _ => 0))) dX8_init_24 (ev_t1 46 rfl rfl) rfl rfl (fun _ => rfl) (nI_pos (n := 24) (by decide)) (nI_clamp (n := 24) (by decide)) (by decide) (Nat.le_of_ble_eq_true rfl) (Nat.le_of_ble_eq_true rfl) ?_
  refine Ek.nm (es2 := (.inr (8, [.ref (h0 + 1), .int 0, .ref (h0 + 2), .null, .int 0, .null]) :: ((([] ++ [.inl (ids 0, 300, .inl (fun _ => 0))]) ++ [.inl (ids 0, 24, .inl (fun _ => 0))]) ++ [.inl (ids 0, 24, .inl (fun _ => 0))]) : List va_E)) (st2 := [.ref (h0 + 3), .ref h0]) (kc2 := 3) (ks2 := 348) rfl rfl rfl rfl ?_
  refine ek_putF (i := 0) dX8_init_26 kf_WithoutE_Text_18 rfl (Nat.le_of_ble_eq_true rfl) rfl rfl ?_
  refine Ek.nm (es2 := (.inr (8, [.ref (h0 + 1), .int 0, .ref (h0 + 2), .ref (h0 + 3), .int 0, .null]) :: ((([] ++ [.inl (ids 0, 300, .inl (fun _ => 0))]) ++ [.inl (ids 0, 24, .inl (fun _ => 0))]) ++ [.inl (ids 0, 24, .inl (fun _ => 0))]) : List va_E)) (st2 := []) (kc2 := 3) (ks2 := 348) rfl rfl rfl rfl ?_
  refine ek_aload_n (x := h0) dX8_init_29 rfl ?_
  refine ek_iconst (v := 3) dX8_init_30 (by decide) ?_
  refine ek_newa (t := 0) (N := 3) (a0 := (3, .inl (fun _ => 0))) dX8_init_31 (ev_t1 46 rfl rfl) rfl rfl (fun _ => rfl) (nI_pos (n := 3) (by decide)) (nI_clamp (n := 3) (by decide)) (by decide) (Nat.le_of_ble_eq_true rfl) (Nat.le_of_ble_eq_true rfl) ?_
  refine Ek.nm (es2 := (.inr (8, [.ref (h0 + 1), .int 0, .ref (h0 + 2), .ref (h0 + 3), .int 0, .null]) :: (((([] ++ [.inl (ids 0, 300, .inl (fun _ => 0))]) ++ [.inl (ids 0, 24, .inl (fun _ => 0))]) ++ [.inl (ids 0, 24, .inl (fun _ => 0))]) ++ [.inl (ids 0, 3, .inl (fun _ => 0))]) : List va_E)) (st2 := [.ref (h0 + 4), .ref h0]) (kc2 := 4) (ks2 := 351) rfl rfl rfl rfl ?_
  refine ek_putF (i := 0) dX8_init_33 kf_WithoutE_Text_21 rfl (Nat.le_of_ble_eq_true rfl) rfl rfl ?_
  refine Ek.nm (es2 := (.inr (8, [.ref (h0 + 1), .int 0, .ref (h0 + 2), .ref (h0 + 3), .int 0, .ref (h0 + 4)]) :: (((([] ++ [.inl (ids 0, 300, .inl (fun _ => 0))]) ++ [.inl (ids 0, 24, .inl (fun _ => 0))]) ++ [.inl (ids 0, 24, .inl (fun _ => 0))]) ++ [.inl (ids 0, 3, .inl (fun _ => 0))]) : List va_E)) (st2 := []) (kc2 := 4) (ks2 := 351) rfl rfl rfl rfl ?_
  exact ek_vret dX8_init_36 rfl (Nat.le_of_ble_eq_true rfl) (Nat.le_of_ble_eq_true rfl)
theorem dX4_init_0 : decode cX4_init 0 = .ok (.aload_n 0, 1) := by decide +kernel
theorem dX4_init_1 : decode cX4_init 1 = .ok (.invokespecial 3, 3) := by decide +kernel
theorem dX4_init_4 : decode cX4_init 4 = .ok (.aload_n 0, 1) := by decide +kernel
theorem dX4_init_5 : decode cX4_init 5 = .ok (.iconst (-1), 1) := by decide +kernel
theorem dX4_init_6 : decode cX4_init 6 = .ok (.putfield 9, 3) := by decide +kernel
theorem dX4_init_9 : decode cX4_init 9 = .ok (.aload_n 0, 1) := by decide +kernel
theorem dX4_init_10 : decode cX4_init 10 = .ok (.aload_n 1, 1) := by decide +kernel
theorem dX4_init_11 : decode cX4_init 11 = .ok (.putfield 15, 3) := by decide +kernel
theorem dX4_init_14 : decode cX4_init 14 = .ok (.return_, 1) := by decide +kernel
def eX4_init (ids : Nat → ClassId) (h0 : Nat) (a1 : Nat) : List va_E := .inr (4, [.ref a1, .null, .int 0, .int 0, .int (-1), .int 0, .int 0, .int 0, .int 0]) :: []
set_option maxRecDepth 100000 in
theorem kX4_init {ids : Nat → ClassId} {ad : Nat → Nat} {b0 d h0 : Nat} {a1 : Nat} : Ck ids ad b0 (d + 1) 0 0 mX4_init [.ref a1] h0 (.inr (4, [.null, .null, .int 0, .int 0, .int 0, .int 0, .int 0, .int 0, .int 0])) (eX4_init ids h0 a1) := by
  refine Ck_of rfl rfl (Nat.le_of_ble_eq_true rfl) (ls := [some (.ref h0), some (.ref a1)]) rfl ?_
  refine ek_aload_n (x := h0) dX4_init_0 rfl ?_
  refine ek_objInit dX4_init_1 (ev_t1 217 rfl rfl) (ev_t1 27 rfl rfl) (ev_t1 28 rfl rfl) (by omega) ?_
  refine ek_aload_n (x := h0) dX4_init_4 rfl ?_
  refine ek_iconst (v := -1) dX4_init_5 (by decide) ?_
  refine ek_put (i := 0) dX4_init_6 kf_WithoutE_Reader_9 rfl (Nat.le_of_ble_eq_true rfl) rfl rfl ?_
  refine Ek.nm (es2 := (.inr (4, [.null, .null, .int 0, .int 0, .int (-1), .int 0, .int 0, .int 0, .int 0]) :: [] : List va_E)) (st2 := []) (kc2 := 0) (ks2 := 0) rfl rfl rfl rfl ?_
  refine ek_aload_n (x := h0) dX4_init_9 rfl ?_
  refine ek_aload_n (x := a1) dX4_init_10 rfl ?_
  refine ek_putF (i := 0) dX4_init_11 kf_WithoutE_Reader_15 rfl (Nat.le_of_ble_eq_true rfl) rfl rfl ?_
  refine Ek.nm (es2 := (.inr (4, [.ref a1, .null, .int 0, .int 0, .int (-1), .int 0, .int 0, .int 0, .int 0]) :: [] : List va_E)) (st2 := []) (kc2 := 0) (ks2 := 0) rfl rfl rfl rfl ?_
  exact ek_vret dX4_init_14 rfl (Nat.le_of_ble_eq_true rfl) (Nat.le_of_ble_eq_true rfl)
theorem dX5_init_0 : decode cX5_init 0 = .ok (.aload_n 0, 1) := by decide +kernel
theorem dX5_init_1 : decode cX5_init 1 = .ok (.invokespecial 3, 3) := by decide +kernel
theorem dX5_init_4 : decode cX5_init 4 = .ok (.aload_n 0, 1) := by decide +kernel
theorem dX5_init_5 : decode cX5_init 5 = .ok (.aload_n 1, 1) := by decide +kernel
theorem dX5_init_6 : decode cX5_init 6 = .ok (.putfield 9, 3) := by decide +kernel
theorem dX5_init_9 : decode cX5_init 9 = .ok (.aload_n 0, 1) := by decide +kernel
theorem dX5_init_10 : decode cX5_init 10 = .ok (.aload_n 2, 1) := by decide +kernel
theorem dX5_init_11 : decode cX5_init 11 = .ok (.putfield 15, 3) := by decide +kernel
theorem dX5_init_14 : decode cX5_init 14 = .ok (.return_, 1) := by decide +kernel
def eX5_init (ids : Nat → ClassId) (h0 : Nat) (a1 : Nat) (a2 : Nat) : List va_E := .inr (5, [.ref a1, .ref a2]) :: []
set_option maxRecDepth 100000 in
theorem kX5_init {ids : Nat → ClassId} {ad : Nat → Nat} {b0 d h0 : Nat} {a1 : Nat} {a2 : Nat} : Ck ids ad b0 (d + 1) 0 0 mX5_init [.ref a1, .ref a2] h0 (.inr (5, [.null, .null])) (eX5_init ids h0 a1 a2) := by
  refine Ck_of rfl rfl (Nat.le_of_ble_eq_true rfl) (ls := [some (.ref h0), some (.ref a1), some (.ref a2)]) rfl ?_
  refine ek_aload_n (x := h0) dX5_init_0 rfl ?_
  refine ek_objInit dX5_init_1 (ev_t2 47 rfl rfl) (ev_t1 27 rfl rfl) (ev_t1 28 rfl rfl) (by omega) ?_
  refine ek_aload_n (x := h0) dX5_init_4 rfl ?_
  refine ek_aload_n (x := a1) dX5_init_5 rfl ?_
  refine ek_putF (i := 0) dX5_init_6 kf_WithoutE_Sound_9 rfl (Nat.le_of_ble_eq_true rfl) rfl rfl ?_
  refine Ek.nm (es2 := (.inr (5, [.ref a1, .null]) :: [] : List va_E)) (st2 := []) (kc2 := 0) (ks2 := 0) rfl rfl rfl rfl ?_
  refine ek_aload_n (x := h0) dX5_init_9 rfl ?_
  refine ek_aload_n (x := a2) dX5_init_10 rfl ?_
  refine ek_putF (i := 0) dX5_init_11 kf_WithoutE_Sound_15 rfl (Nat.le_of_ble_eq_true rfl) rfl rfl ?_
  refine Ek.nm (es2 := (.inr (5, [.ref a1, .ref a2]) :: [] : List va_E)) (st2 := []) (kc2 := 0) (ks2 := 0) rfl rfl rfl rfl ?_
  exact ek_vret dX5_init_14 rfl (Nat.le_of_ble_eq_true rfl) (Nat.le_of_ble_eq_true rfl)
theorem dX1_init_0 : decode cX1_init 0 = .ok (.aload_n 0, 1) := by decide +kernel
theorem dX1_init_1 : decode cX1_init 1 = .ok (.invokespecial 3, 3) := by decide +kernel
theorem dX1_init_4 : decode cX1_init 4 = .ok (.aload_n 0, 1) := by decide +kernel
theorem dX1_init_5 : decode cX1_init 5 = .ok (.bipush 12, 2) := by decide +kernel
theorem dX1_init_7 : decode cX1_init 7 = .ok (.newarray .int, 2) := by decide +kernel
theorem dX1_init_9 : decode cX1_init 9 = .ok (.putfield 9, 3) := by decide +kernel
theorem dX1_init_12 : decode cX1_init 12 = .ok (.aload_n 0, 1) := by decide +kernel
theorem dX1_init_13 : decode cX1_init 13 = .ok (.bipush 64, 2) := by decide +kernel
theorem dX1_init_15 : decode cX1_init 15 = .ok (.newarray .int, 2) := by decide +kernel
theorem dX1_init_17 : decode cX1_init 17 = .ok (.putfield 15, 3) := by decide +kernel
theorem dX1_init_20 : decode cX1_init 20 = .ok (.aload_n 0, 1) := by decide +kernel
theorem dX1_init_21 : decode cX1_init 21 = .ok (.aload_n 1, 1) := by decide +kernel
theorem dX1_init_22 : decode cX1_init 22 = .ok (.putfield 18, 3) := by decide +kernel
theorem dX1_init_25 : decode cX1_init 25 = .ok (.aload_n 0, 1) := by decide +kernel
theorem dX1_init_26 : decode cX1_init 26 = .ok (.aload_n 2, 1) := by decide +kernel
theorem dX1_init_27 : decode cX1_init 27 = .ok (.putfield 22, 3) := by decide +kernel
theorem dX1_init_30 : decode cX1_init 30 = .ok (.return_, 1) := by decide +kernel
def eX1_init (ids : Nat → ClassId) (h0 : Nat) (a1 : Nat) (a2 : Nat) : List va_E := .inr (1, [.ref a1, .ref a2, .ref (h0 + 1), .ref (h0 + 2), .int 0]) :: (([] ++ [.inl (ids 0, 12, .inl (fun _ => 0))]) ++ [.inl (ids 0, 64, .inl (fun _ => 0))])
set_option maxRecDepth 100000 in
theorem kX1_init {ids : Nat → ClassId} {ad : Nat → Nat} {b0 d h0 : Nat} {a1 : Nat} {a2 : Nat} : Ck ids ad b0 (d + 1) 2 76 mX1_init [.ref a1, .ref a2] h0 (.inr (1, [.null, .null, .null, .null, .int 0])) (eX1_init ids h0 a1 a2) := by
  refine Ck_of rfl rfl (Nat.le_of_ble_eq_true rfl) (ls := [some (.ref h0), some (.ref a1), some (.ref a2)]) rfl ?_
  refine ek_aload_n (x := h0) dX1_init_0 rfl ?_
  refine ek_objInit dX1_init_1 (ev_t2 60 rfl rfl) (ev_t1 27 rfl rfl) (ev_t1 28 rfl rfl) (by omega) ?_
  refine ek_aload_n (x := h0) dX1_init_4 rfl ?_
  refine ek_bipush (v := 12) dX1_init_5 (by decide) ?_
  refine ek_newa (t := 0) (N := 12) (a0 := (12, .inl (fun _ => 0))) dX1_init_7 (ev_t1 46 rfl rfl) rfl rfl (fun _ => rfl) (nI_pos (n := 12) (by decide)) (nI_clamp (n := 12) (by decide)) (by decide) (Nat.le_of_ble_eq_true rfl) (Nat.le_of_ble_eq_true rfl) ?_
  refine Ek.nm (es2 := (.inr (1, [.null, .null, .null, .null, .int 0]) :: ([] ++ [.inl (ids 0, 12, .inl (fun _ => 0))]) : List va_E)) (st2 := [.ref (h0 + 1), .ref h0]) (kc2 := 1) (ks2 := 12) rfl rfl rfl rfl ?_
  refine ek_putF (i := 0) dX1_init_9 kf_WithoutE_Laws_9 rfl (Nat.le_of_ble_eq_true rfl) rfl rfl ?_
  refine Ek.nm (es2 := (.inr (1, [.null, .null, .ref (h0 + 1), .null, .int 0]) :: ([] ++ [.inl (ids 0, 12, .inl (fun _ => 0))]) : List va_E)) (st2 := []) (kc2 := 1) (ks2 := 12) rfl rfl rfl rfl ?_
  refine ek_aload_n (x := h0) dX1_init_12 rfl ?_
  refine ek_bipush (v := 64) dX1_init_13 (by decide) ?_
  refine ek_newa (t := 0) (N := 64) (a0 := (64, .inl (fun _ => 0))) dX1_init_15 (ev_t1 46 rfl rfl) rfl rfl (fun _ => rfl) (nI_pos (n := 64) (by decide)) (nI_clamp (n := 64) (by decide)) (by decide) (Nat.le_of_ble_eq_true rfl) (Nat.le_of_ble_eq_true rfl) ?_
  refine Ek.nm (es2 := (.inr (1, [.null, .null, .ref (h0 + 1), .null, .int 0]) :: (([] ++ [.inl (ids 0, 12, .inl (fun _ => 0))]) ++ [.inl (ids 0, 64, .inl (fun _ => 0))]) : List va_E)) (st2 := [.ref (h0 + 2), .ref h0]) (kc2 := 2) (ks2 := 76) rfl rfl rfl rfl ?_
  refine ek_putF (i := 0) dX1_init_17 kf_WithoutE_Laws_15 rfl (Nat.le_of_ble_eq_true rfl) rfl rfl ?_
  refine Ek.nm (es2 := (.inr (1, [.null, .null, .ref (h0 + 1), .ref (h0 + 2), .int 0]) :: (([] ++ [.inl (ids 0, 12, .inl (fun _ => 0))]) ++ [.inl (ids 0, 64, .inl (fun _ => 0))]) : List va_E)) (st2 := []) (kc2 := 2) (ks2 := 76) rfl rfl rfl rfl ?_
  refine ek_aload_n (x := h0) dX1_init_20 rfl ?_
  refine ek_aload_n (x := a1) dX1_init_21 rfl ?_
  refine ek_putF (i := 0) dX1_init_22 kf_WithoutE_Laws_18 rfl (Nat.le_of_ble_eq_true rfl) rfl rfl ?_
  refine Ek.nm (es2 := (.inr (1, [.ref a1, .null, .ref (h0 + 1), .ref (h0 + 2), .int 0]) :: (([] ++ [.inl (ids 0, 12, .inl (fun _ => 0))]) ++ [.inl (ids 0, 64, .inl (fun _ => 0))]) : List va_E)) (st2 := []) (kc2 := 2) (ks2 := 76) rfl rfl rfl rfl ?_
  refine ek_aload_n (x := h0) dX1_init_25 rfl ?_
  refine ek_aload_n (x := a2) dX1_init_26 rfl ?_
  refine ek_putF (i := 0) dX1_init_27 kf_WithoutE_Laws_22 rfl (Nat.le_of_ble_eq_true rfl) rfl rfl ?_
  refine Ek.nm (es2 := (.inr (1, [.ref a1, .ref a2, .ref (h0 + 1), .ref (h0 + 2), .int 0]) :: (([] ++ [.inl (ids 0, 12, .inl (fun _ => 0))]) ++ [.inl (ids 0, 64, .inl (fun _ => 0))]) : List va_E)) (st2 := []) (kc2 := 2) (ks2 := 76) rfl rfl rfl rfl ?_
  exact ek_vret dX1_init_30 rfl (Nat.le_of_ble_eq_true rfl) (Nat.le_of_ble_eq_true rfl)
theorem dX2_init_0 : decode cX2_init 0 = .ok (.aload_n 0, 1) := by decide +kernel
theorem dX2_init_1 : decode cX2_init 1 = .ok (.invokespecial 3, 3) := by decide +kernel
theorem dX2_init_4 : decode cX2_init 4 = .ok (.return_, 1) := by decide +kernel
def eX2_init (ids : Nat → ClassId) (h0 : Nat) : List va_E := .inr (2, [.int 0, .int 0, .int 0]) :: []
set_option maxRecDepth 100000 in
theorem kX2_init {ids : Nat → ClassId} {ad : Nat → Nat} {b0 d h0 : Nat} : Ck ids ad b0 (d + 1) 0 0 mX2_init [] h0 (.inr (2, [.int 0, .int 0, .int 0])) (eX2_init ids h0) := by
  refine Ck_of rfl rfl (Nat.le_of_ble_eq_true rfl) (ls := [some (.ref h0)]) rfl ?_
  refine ek_aload_n (x := h0) dX2_init_0 rfl ?_
  refine ek_objInit dX2_init_1 (ev_t2 89 rfl rfl) (ev_t1 27 rfl rfl) (ev_t1 28 rfl rfl) (by omega) ?_
  exact ek_vret dX2_init_4 rfl (Nat.le_of_ble_eq_true rfl) (Nat.le_of_ble_eq_true rfl)
theorem dX6_init_0 : decode cX6_init 0 = .ok (.aload_n 0, 1) := by decide +kernel
theorem dX6_init_1 : decode cX6_init 1 = .ok (.invokespecial 3, 3) := by decide +kernel
theorem dX6_init_4 : decode cX6_init 4 = .ok (.aload_n 0, 1) := by decide +kernel
theorem dX6_init_5 : decode cX6_init 5 = .ok (.bipush 24, 2) := by decide +kernel
theorem dX6_init_7 : decode cX6_init 7 = .ok (.newarray .boolean, 2) := by decide +kernel
theorem dX6_init_9 : decode cX6_init 9 = .ok (.putfield 9, 3) := by decide +kernel
theorem dX6_init_12 : decode cX6_init 12 = .ok (.aload_n 0, 1) := by decide +kernel
theorem dX6_init_13 : decode cX6_init 13 = .ok (.bipush 24, 2) := by decide +kernel
theorem dX6_init_15 : decode cX6_init 15 = .ok (.newarray .int, 2) := by decide +kernel
theorem dX6_init_17 : decode cX6_init 17 = .ok (.putfield 15, 3) := by decide +kernel
theorem dX6_init_20 : decode cX6_init 20 = .ok (.aload_n 0, 1) := by decide +kernel
theorem dX6_init_21 : decode cX6_init 21 = .ok (.sipush 240, 3) := by decide +kernel
theorem dX6_init_24 : decode cX6_init 24 = .ok (.newarray .int, 2) := by decide +kernel
theorem dX6_init_26 : decode cX6_init 26 = .ok (.putfield 19, 3) := by decide +kernel
theorem dX6_init_29 : decode cX6_init 29 = .ok (.aload_n 0, 1) := by decide +kernel
theorem dX6_init_30 : decode cX6_init 30 = .ok (.sipush 240, 3) := by decide +kernel
theorem dX6_init_33 : decode cX6_init 33 = .ok (.newarray .int, 2) := by decide +kernel
theorem dX6_init_35 : decode cX6_init 35 = .ok (.putfield 22, 3) := by decide +kernel
theorem dX6_init_38 : decode cX6_init 38 = .ok (.aload_n 0, 1) := by decide +kernel
theorem dX6_init_39 : decode cX6_init 39 = .ok (.iconst (-1), 1) := by decide +kernel
theorem dX6_init_40 : decode cX6_init 40 = .ok (.putfield 25, 3) := by decide +kernel
theorem dX6_init_43 : decode cX6_init 43 = .ok (.aload_n 0, 1) := by decide +kernel
theorem dX6_init_44 : decode cX6_init 44 = .ok (.iconst 5, 1) := by decide +kernel
theorem dX6_init_45 : decode cX6_init 45 = .ok (.bipush 24, 2) := by decide +kernel
theorem dX6_init_47 : decode cX6_init 47 = .ok (.multianewarray 29 2, 4) := by decide +kernel
theorem dX6_init_51 : decode cX6_init 51 = .ok (.putfield 31, 3) := by decide +kernel
theorem dX6_init_54 : decode cX6_init 54 = .ok (.aload_n 0, 1) := by decide +kernel
theorem dX6_init_55 : decode cX6_init 55 = .ok (.new 34, 3) := by decide +kernel
theorem dX6_init_58 : decode cX6_init 58 = .ok (.dup, 1) := by decide +kernel
theorem dX6_init_59 : decode cX6_init 59 = .ok (.invokespecial 36, 3) := by decide +kernel
theorem dX6_init_62 : decode cX6_init 62 = .ok (.putfield 37, 3) := by decide +kernel
theorem dX6_init_65 : decode cX6_init 65 = .ok (.aload_n 0, 1) := by decide +kernel
theorem dX6_init_66 : decode cX6_init 66 = .ok (.new 34, 3) := by decide +kernel
theorem dX6_init_69 : decode cX6_init 69 = .ok (.dup, 1) := by decide +kernel
theorem dX6_init_70 : decode cX6_init 70 = .ok (.invokespecial 36, 3) := by decide +kernel
theorem dX6_init_73 : decode cX6_init 73 = .ok (.putfield 41, 3) := by decide +kernel
theorem dX6_init_76 : decode cX6_init 76 = .ok (.aload_n 0, 1) := by decide +kernel
theorem dX6_init_77 : decode cX6_init 77 = .ok (.iconst 5, 1) := by decide +kernel
theorem dX6_init_78 : decode cX6_init 78 = .ok (.newarray .int, 2) := by decide +kernel
theorem dX6_init_80 : decode cX6_init 80 = .ok (.putfield 44, 3) := by decide +kernel
theorem dX6_init_83 : decode cX6_init 83 = .ok (.aload_n 0, 1) := by decide +kernel
theorem dX6_init_84 : decode cX6_init 84 = .ok (.aload_n 1, 1) := by decide +kernel
theorem dX6_init_85 : decode cX6_init 85 = .ok (.putfield 47, 3) := by decide +kernel
theorem dX6_init_88 : decode cX6_init 88 = .ok (.aload_n 0, 1) := by decide +kernel
theorem dX6_init_89 : decode cX6_init 89 = .ok (.aload_n 2, 1) := by decide +kernel
theorem dX6_init_90 : decode cX6_init 90 = .ok (.putfield 51, 3) := by decide +kernel
theorem dX6_init_93 : decode cX6_init 93 = .ok (.aload_n 0, 1) := by decide +kernel
theorem dX6_init_94 : decode cX6_init 94 = .ok (.aload_n 3, 1) := by decide +kernel
theorem dX6_init_95 : decode cX6_init 95 = .ok (.putfield 55, 3) := by decide +kernel
theorem dX6_init_98 : decode cX6_init 98 = .ok (.return_, 1) := by decide +kernel
def eX6_init (ids : Nat → ClassId) (h0 : Nat) (a1 : Nat) (a2 : Nat) (a3 : Nat) : List va_E := .inr (6, [.ref a1, .ref a2, .ref a3, .int 0, .ref (h0 + 1), .ref (h0 + 2), .ref (h0 + 3), .ref (h0 + 4), .int (-1), .ref (h0 + 5), .ref (h0 + 11), .ref (h0 + 12), .ref (h0 + 13), .int 0, .int 0, .int 0, .int 0, .int 0]) :: (((((((([] ++ [.inl (ids 1, 24, .inl (fun _ => 0))]) ++ [.inl (ids 0, 24, .inl (fun _ => 0))]) ++ [.inl (ids 0, 240, .inl (fun _ => 0))]) ++ [.inl (ids 0, 240, .inl (fun _ => 0))]) ++ ek_rw ids (h0 + 5) 5 24) ++ eX2_init ids (h0 + 11)) ++ eX2_init ids (h0 + 12)) ++ [.inl (ids 0, 5, .inl (fun _ => 0))])
set_option maxRecDepth 100000 in
theorem kX6_init {ids : Nat → ClassId} {ad : Nat → Nat} {b0 d h0 : Nat} {a1 : Nat} {a2 : Nat} {a3 : Nat} : Ck ids ad b0 (d + 2) 13 664 mX6_init [.ref a1, .ref a2, .ref a3] h0 (.inr (6, [.null, .null, .null, .int 0, .null, .null, .null, .null, .int 0, .null, .null, .null, .null, .int 0, .int 0, .int 0, .int 0, .int 0])) (eX6_init ids h0 a1 a2 a3) := by
  refine Ck_of rfl rfl (Nat.le_of_ble_eq_true rfl) (ls := [some (.ref h0), some (.ref a1), some (.ref a2), some (.ref a3)]) rfl ?_
  refine ek_aload_n (x := h0) dX6_init_0 rfl ?_
  refine ek_objInit dX6_init_1 (ev_t2 82 rfl rfl) (ev_t1 27 rfl rfl) (ev_t1 28 rfl rfl) (by omega) ?_
  refine ek_aload_n (x := h0) dX6_init_4 rfl ?_
  refine ek_bipush (v := 24) dX6_init_5 (by decide) ?_
  refine ek_newa (t := 1) (N := 24) (a0 := (24, .inl (fun _ => 0))) dX6_init_7 (ev_t2 101 rfl rfl) rfl rfl (fun _ => rfl) (nI_pos (n := 24) (by decide)) (nI_clamp (n := 24) (by decide)) (by decide) (Nat.le_of_ble_eq_true rfl) (Nat.le_of_ble_eq_true rfl) ?_
  refine Ek.nm (es2 := (.inr (6, [.null, .null, .null, .int 0, .null, .null, .null, .null, .int 0, .null, .null, .null, .null, .int 0, .int 0, .int 0, .int 0, .int 0]) :: ([] ++ [.inl (ids 1, 24, .inl (fun _ => 0))]) : List va_E)) (st2 := [.ref (h0 + 1), .ref h0]) (kc2 := 1) (ks2 := 24) rfl rfl rfl rfl ?_
  refine ek_putF (i := 0) dX6_init_9 kf_WithoutE_Speech_9 rfl (Nat.le_of_ble_eq_true rfl) rfl rfl ?_
  refine Ek.nm (es2 := (.inr (6, [.null, .null, .null, .int 0, .ref (h0 + 1), .null, .null, .null, .int 0, .null, .null, .null, .null, .int 0, .int 0, .int 0, .int 0, .int 0]) :: ([] ++ [.inl (ids 1, 24, .inl (fun _ => 0))]) : List va_E)) (st2 := []) (kc2 := 1) (ks2 := 24) rfl rfl rfl rfl ?_
  refine ek_aload_n (x := h0) dX6_init_12 rfl ?_
  refine ek_bipush (v := 24) dX6_init_13 (by decide) ?_
  refine ek_newa (t := 0) (N := 24) (a0 := (24, .inl (fun _ => 0))) dX6_init_15 (ev_t1 46 rfl rfl) rfl rfl (fun _ => rfl) (nI_pos (n := 24) (by decide)) (nI_clamp (n := 24) (by decide)) (by decide) (Nat.le_of_ble_eq_true rfl) (Nat.le_of_ble_eq_true rfl) ?_
  refine Ek.nm (es2 := (.inr (6, [.null, .null, .null, .int 0, .ref (h0 + 1), .null, .null, .null, .int 0, .null, .null, .null, .null, .int 0, .int 0, .int 0, .int 0, .int 0]) :: (([] ++ [.inl (ids 1, 24, .inl (fun _ => 0))]) ++ [.inl (ids 0, 24, .inl (fun _ => 0))]) : List va_E)) (st2 := [.ref (h0 + 2), .ref h0]) (kc2 := 2) (ks2 := 48) rfl rfl rfl rfl ?_
  refine ek_putF (i := 0) dX6_init_17 kf_WithoutE_Speech_15 rfl (Nat.le_of_ble_eq_true rfl) rfl rfl ?_
  refine Ek.nm (es2 := (.inr (6, [.null, .null, .null, .int 0, .ref (h0 + 1), .ref (h0 + 2), .null, .null, .int 0, .null, .null, .null, .null, .int 0, .int 0, .int 0, .int 0, .int 0]) :: (([] ++ [.inl (ids 1, 24, .inl (fun _ => 0))]) ++ [.inl (ids 0, 24, .inl (fun _ => 0))]) : List va_E)) (st2 := []) (kc2 := 2) (ks2 := 48) rfl rfl rfl rfl ?_
  refine ek_aload_n (x := h0) dX6_init_20 rfl ?_
  refine ek_sipush (v := 240) dX6_init_21 (by decide) ?_
  refine ek_newa (t := 0) (N := 240) (a0 := (240, .inl (fun _ => 0))) dX6_init_24 (ev_t1 46 rfl rfl) rfl rfl (fun _ => rfl) (nI_pos (n := 240) (by decide)) (nI_clamp (n := 240) (by decide)) (by decide) (Nat.le_of_ble_eq_true rfl) (Nat.le_of_ble_eq_true rfl) ?_
  refine Ek.nm (es2 := (.inr (6, [.null, .null, .null, .int 0, .ref (h0 + 1), .ref (h0 + 2), .null, .null, .int 0, .null, .null, .null, .null, .int 0, .int 0, .int 0, .int 0, .int 0]) :: ((([] ++ [.inl (ids 1, 24, .inl (fun _ => 0))]) ++ [.inl (ids 0, 24, .inl (fun _ => 0))]) ++ [.inl (ids 0, 240, .inl (fun _ => 0))]) : List va_E)) (st2 := [.ref (h0 + 3), .ref h0]) (kc2 := 3) (ks2 := 288) rfl rfl rfl rfl ?_
  refine ek_putF (i := 0) dX6_init_26 kf_WithoutE_Speech_19 rfl (Nat.le_of_ble_eq_true rfl) rfl rfl ?_
  refine Ek.nm (es2 := (.inr (6, [.null, .null, .null, .int 0, .ref (h0 + 1), .ref (h0 + 2), .ref (h0 + 3), .null, .int 0, .null, .null, .null, .null, .int 0, .int 0, .int 0, .int 0, .int 0]) :: ((([] ++ [.inl (ids 1, 24, .inl (fun _ => 0))]) ++ [.inl (ids 0, 24, .inl (fun _ => 0))]) ++ [.inl (ids 0, 240, .inl (fun _ => 0))]) : List va_E)) (st2 := []) (kc2 := 3) (ks2 := 288) rfl rfl rfl rfl ?_
  refine ek_aload_n (x := h0) dX6_init_29 rfl ?_
  refine ek_sipush (v := 240) dX6_init_30 (by decide) ?_
  refine ek_newa (t := 0) (N := 240) (a0 := (240, .inl (fun _ => 0))) dX6_init_33 (ev_t1 46 rfl rfl) rfl rfl (fun _ => rfl) (nI_pos (n := 240) (by decide)) (nI_clamp (n := 240) (by decide)) (by decide) (Nat.le_of_ble_eq_true rfl) (Nat.le_of_ble_eq_true rfl) ?_
  refine Ek.nm (es2 := (.inr (6, [.null, .null, .null, .int 0, .ref (h0 + 1), .ref (h0 + 2), .ref (h0 + 3), .null, .int 0, .null, .null, .null, .null, .int 0, .int 0, .int 0, .int 0, .int 0]) :: (((([] ++ [.inl (ids 1, 24, .inl (fun _ => 0))]) ++ [.inl (ids 0, 24, .inl (fun _ => 0))]) ++ [.inl (ids 0, 240, .inl (fun _ => 0))]) ++ [.inl (ids 0, 240, .inl (fun _ => 0))]) : List va_E)) (st2 := [.ref (h0 + 4), .ref h0]) (kc2 := 4) (ks2 := 528) rfl rfl rfl rfl ?_
  refine ek_putF (i := 0) dX6_init_35 kf_WithoutE_Speech_22 rfl (Nat.le_of_ble_eq_true rfl) rfl rfl ?_
  refine Ek.nm (es2 := (.inr (6, [.null, .null, .null, .int 0, .ref (h0 + 1), .ref (h0 + 2), .ref (h0 + 3), .ref (h0 + 4), .int 0, .null, .null, .null, .null, .int 0, .int 0, .int 0, .int 0, .int 0]) :: (((([] ++ [.inl (ids 1, 24, .inl (fun _ => 0))]) ++ [.inl (ids 0, 24, .inl (fun _ => 0))]) ++ [.inl (ids 0, 240, .inl (fun _ => 0))]) ++ [.inl (ids 0, 240, .inl (fun _ => 0))]) : List va_E)) (st2 := []) (kc2 := 4) (ks2 := 528) rfl rfl rfl rfl ?_
  refine ek_aload_n (x := h0) dX6_init_38 rfl ?_
  refine ek_iconst (v := -1) dX6_init_39 (by decide) ?_
  refine ek_put (i := 0) dX6_init_40 kf_WithoutE_Speech_25 rfl (Nat.le_of_ble_eq_true rfl) rfl rfl ?_
  refine Ek.nm (es2 := (.inr (6, [.null, .null, .null, .int 0, .ref (h0 + 1), .ref (h0 + 2), .ref (h0 + 3), .ref (h0 + 4), .int (-1), .null, .null, .null, .null, .int 0, .int 0, .int 0, .int 0, .int 0]) :: (((([] ++ [.inl (ids 1, 24, .inl (fun _ => 0))]) ++ [.inl (ids 0, 24, .inl (fun _ => 0))]) ++ [.inl (ids 0, 240, .inl (fun _ => 0))]) ++ [.inl (ids 0, 240, .inl (fun _ => 0))]) : List va_E)) (st2 := []) (kc2 := 4) (ks2 := 528) rfl rfl rfl rfl ?_
  refine ek_aload_n (x := h0) dX6_init_43 rfl ?_
  refine ek_iconst (v := 5) dX6_init_44 (by decide) ?_
  refine ek_bipush (v := 24) dX6_init_45 (by decide) ?_
  refine ek_multi (N := 5) (K := 24) dX6_init_47 (ev_t2 83 rfl rfl) (nI_pos (n := 5) (by decide)) (nI_pos (n := 24) (by decide)) (nI_clamp (n := 5) (by decide)) (nI_clamp (n := 24) (by decide)) (by decide) (by decide) (Nat.le_of_ble_eq_true rfl) (Nat.le_of_ble_eq_true rfl) ?_
  refine Ek.nm (es2 := (.inr (6, [.null, .null, .null, .int 0, .ref (h0 + 1), .ref (h0 + 2), .ref (h0 + 3), .ref (h0 + 4), .int (-1), .null, .null, .null, .null, .int 0, .int 0, .int 0, .int 0, .int 0]) :: ((((([] ++ [.inl (ids 1, 24, .inl (fun _ => 0))]) ++ [.inl (ids 0, 24, .inl (fun _ => 0))]) ++ [.inl (ids 0, 240, .inl (fun _ => 0))]) ++ [.inl (ids 0, 240, .inl (fun _ => 0))]) ++ ek_rw ids (h0 + 5) 5 24) : List va_E)) (st2 := [.ref (h0 + 5), .ref h0]) (kc2 := 10) (ks2 := 653) rfl rfl rfl rfl ?_
  refine ek_putF (i := 0) dX6_init_51 kf_WithoutE_Speech_31 rfl (Nat.le_of_ble_eq_true rfl) rfl rfl ?_
  refine Ek.nm (es2 := (.inr (6, [.null, .null, .null, .int 0, .ref (h0 + 1), .ref (h0 + 2), .ref (h0 + 3), .ref (h0 + 4), .int (-1), .ref (h0 + 5), .null, .null, .null, .int 0, .int 0, .int 0, .int 0, .int 0]) :: ((((([] ++ [.inl (ids 1, 24, .inl (fun _ => 0))]) ++ [.inl (ids 0, 24, .inl (fun _ => 0))]) ++ [.inl (ids 0, 240, .inl (fun _ => 0))]) ++ [.inl (ids 0, 240, .inl (fun _ => 0))]) ++ ek_rw ids (h0 + 5) 5 24) : List va_E)) (st2 := []) (kc2 := 10) (ks2 := 653) rfl rfl rfl rfl ?_
  refine ek_aload_n (x := h0) dX6_init_54 rfl ?_
  refine ek_new dX6_init_55 kn_WithoutE_Speech_34 (Nat.le_of_ble_eq_true rfl) (Nat.le_of_ble_eq_true rfl) ?_
  refine Ek.nm (es2 := (.inr (6, [.null, .null, .null, .int 0, .ref (h0 + 1), .ref (h0 + 2), .ref (h0 + 3), .ref (h0 + 4), .int (-1), .ref (h0 + 5), .null, .null, .null, .int 0, .int 0, .int 0, .int 0, .int 0]) :: (((((([] ++ [.inl (ids 1, 24, .inl (fun _ => 0))]) ++ [.inl (ids 0, 24, .inl (fun _ => 0))]) ++ [.inl (ids 0, 240, .inl (fun _ => 0))]) ++ [.inl (ids 0, 240, .inl (fun _ => 0))]) ++ ek_rw ids (h0 + 5) 5 24) ++ [.inr (2, [.int 0, .int 0, .int 0])]) : List va_E)) (st2 := [.ref (h0 + 11), .ref h0]) (kc2 := 11) (ks2 := 656) rfl rfl rfl rfl ?_
  refine ek_dup dX6_init_58 rfl ?_
  refine ek_callN (ids := ids) (ad := ad) (b0 := b0) (y := mX6_init) (pc := 59) (ls := [some (.ref h0), some (.ref a1), some (.ref a2), some (.ref a3)]) (h0 := h0) (C := 13) (S := 664) (kc := 11) (ks := 656) (es := (.inr (6, [.null, .null, .null, .int 0, .ref (h0 + 1), .ref (h0 + 2), .ref (h0 + 3), .ref (h0 + 4), .int (-1), .ref (h0 + 5), .null, .null, .null, .int 0, .int 0, .int 0, .int 0, .int 0]) :: ((((([] ++ [.inl (ids 1, 24, .inl (fun _ => 0))]) ++ [.inl (ids 0, 24, .inl (fun _ => 0))]) ++ [.inl (ids 0, 240, .inl (fun _ => 0))]) ++ [.inl (ids 0, 240, .inl (fun _ => 0))]) ++ ek_rw ids (h0 + 5) 5 24) : List va_E)) (e0 := .inr (2, [.int 0, .int 0, .int 0])) (gs := eX2_init ids (h0 + 11)) (st := [.ref (h0 + 11), .ref h0]) [] dX6_init_59 kl_X2_init (List.mem_of_getElem? (i := 4) rfl) rfl (Nat.le_of_ble_eq_true rfl) (Nat.le_of_ble_eq_true rfl) (Nat.le_of_ble_eq_true rfl) rfl (kX2_init (d := d) (h0 := h0 + 11)) ?_
  refine Ek.nm (es2 := (.inr (6, [.null, .null, .null, .int 0, .ref (h0 + 1), .ref (h0 + 2), .ref (h0 + 3), .ref (h0 + 4), .int (-1), .ref (h0 + 5), .null, .null, .null, .int 0, .int 0, .int 0, .int 0, .int 0]) :: (((((([] ++ [.inl (ids 1, 24, .inl (fun _ => 0))]) ++ [.inl (ids 0, 24, .inl (fun _ => 0))]) ++ [.inl (ids 0, 240, .inl (fun _ => 0))]) ++ [.inl (ids 0, 240, .inl (fun _ => 0))]) ++ ek_rw ids (h0 + 5) 5 24) ++ eX2_init ids (h0 + 11)) : List va_E)) (st2 := [.ref (h0 + 11), .ref h0]) (kc2 := 11) (ks2 := 656) rfl rfl rfl rfl ?_
  refine ek_putF (i := 0) dX6_init_62 kf_WithoutE_Speech_37 rfl (Nat.le_of_ble_eq_true rfl) rfl rfl ?_
  refine Ek.nm (es2 := (.inr (6, [.null, .null, .null, .int 0, .ref (h0 + 1), .ref (h0 + 2), .ref (h0 + 3), .ref (h0 + 4), .int (-1), .ref (h0 + 5), .ref (h0 + 11), .null, .null, .int 0, .int 0, .int 0, .int 0, .int 0]) :: (((((([] ++ [.inl (ids 1, 24, .inl (fun _ => 0))]) ++ [.inl (ids 0, 24, .inl (fun _ => 0))]) ++ [.inl (ids 0, 240, .inl (fun _ => 0))]) ++ [.inl (ids 0, 240, .inl (fun _ => 0))]) ++ ek_rw ids (h0 + 5) 5 24) ++ eX2_init ids (h0 + 11)) : List va_E)) (st2 := []) (kc2 := 11) (ks2 := 656) rfl rfl rfl rfl ?_
  refine ek_aload_n (x := h0) dX6_init_65 rfl ?_
  refine ek_new dX6_init_66 kn_WithoutE_Speech_34 (Nat.le_of_ble_eq_true rfl) (Nat.le_of_ble_eq_true rfl) ?_
  refine Ek.nm (es2 := (.inr (6, [.null, .null, .null, .int 0, .ref (h0 + 1), .ref (h0 + 2), .ref (h0 + 3), .ref (h0 + 4), .int (-1), .ref (h0 + 5), .ref (h0 + 11), .null, .null, .int 0, .int 0, .int 0, .int 0, .int 0]) :: ((((((([] ++ [.inl (ids 1, 24, .inl (fun _ => 0))]) ++ [.inl (ids 0, 24, .inl (fun _ => 0))]) ++ [.inl (ids 0, 240, .inl (fun _ => 0))]) ++ [.inl (ids 0, 240, .inl (fun _ => 0))]) ++ ek_rw ids (h0 + 5) 5 24) ++ eX2_init ids (h0 + 11)) ++ [.inr (2, [.int 0, .int 0, .int 0])]) : List va_E)) (st2 := [.ref (h0 + 12), .ref h0]) (kc2 := 12) (ks2 := 659) rfl rfl rfl rfl ?_
  refine ek_dup dX6_init_69 rfl ?_
  refine ek_callN (ids := ids) (ad := ad) (b0 := b0) (y := mX6_init) (pc := 70) (ls := [some (.ref h0), some (.ref a1), some (.ref a2), some (.ref a3)]) (h0 := h0) (C := 13) (S := 664) (kc := 12) (ks := 659) (es := (.inr (6, [.null, .null, .null, .int 0, .ref (h0 + 1), .ref (h0 + 2), .ref (h0 + 3), .ref (h0 + 4), .int (-1), .ref (h0 + 5), .ref (h0 + 11), .null, .null, .int 0, .int 0, .int 0, .int 0, .int 0]) :: (((((([] ++ [.inl (ids 1, 24, .inl (fun _ => 0))]) ++ [.inl (ids 0, 24, .inl (fun _ => 0))]) ++ [.inl (ids 0, 240, .inl (fun _ => 0))]) ++ [.inl (ids 0, 240, .inl (fun _ => 0))]) ++ ek_rw ids (h0 + 5) 5 24) ++ eX2_init ids (h0 + 11)) : List va_E)) (e0 := .inr (2, [.int 0, .int 0, .int 0])) (gs := eX2_init ids (h0 + 12)) (st := [.ref (h0 + 12), .ref h0]) [] dX6_init_70 kl_X2_init (List.mem_of_getElem? (i := 4) rfl) rfl (Nat.le_of_ble_eq_true rfl) (Nat.le_of_ble_eq_true rfl) (Nat.le_of_ble_eq_true rfl) rfl (kX2_init (d := d) (h0 := h0 + 12)) ?_
  refine Ek.nm (es2 := (.inr (6, [.null, .null, .null, .int 0, .ref (h0 + 1), .ref (h0 + 2), .ref (h0 + 3), .ref (h0 + 4), .int (-1), .ref (h0 + 5), .ref (h0 + 11), .null, .null, .int 0, .int 0, .int 0, .int 0, .int 0]) :: ((((((([] ++ [.inl (ids 1, 24, .inl (fun _ => 0))]) ++ [.inl (ids 0, 24, .inl (fun _ => 0))]) ++ [.inl (ids 0, 240, .inl (fun _ => 0))]) ++ [.inl (ids 0, 240, .inl (fun _ => 0))]) ++ ek_rw ids (h0 + 5) 5 24) ++ eX2_init ids (h0 + 11)) ++ eX2_init ids (h0 + 12)) : List va_E)) (st2 := [.ref (h0 + 12), .ref h0]) (kc2 := 12) (ks2 := 659) rfl rfl rfl rfl ?_
  refine ek_putF (i := 0) dX6_init_73 kf_WithoutE_Speech_41 rfl (Nat.le_of_ble_eq_true rfl) rfl rfl ?_
  refine Ek.nm (es2 := (.inr (6, [.null, .null, .null, .int 0, .ref (h0 + 1), .ref (h0 + 2), .ref (h0 + 3), .ref (h0 + 4), .int (-1), .ref (h0 + 5), .ref (h0 + 11), .ref (h0 + 12), .null, .int 0, .int 0, .int 0, .int 0, .int 0]) :: ((((((([] ++ [.inl (ids 1, 24, .inl (fun _ => 0))]) ++ [.inl (ids 0, 24, .inl (fun _ => 0))]) ++ [.inl (ids 0, 240, .inl (fun _ => 0))]) ++ [.inl (ids 0, 240, .inl (fun _ => 0))]) ++ ek_rw ids (h0 + 5) 5 24) ++ eX2_init ids (h0 + 11)) ++ eX2_init ids (h0 + 12)) : List va_E)) (st2 := []) (kc2 := 12) (ks2 := 659) rfl rfl rfl rfl ?_
  refine ek_aload_n (x := h0) dX6_init_76 rfl ?_
  refine ek_iconst (v := 5) dX6_init_77 (by decide) ?_
  refine ek_newa (t := 0) (N := 5) (a0 := (5, .inl (fun _ => 0))) dX6_init_78 (ev_t1 46 rfl rfl) rfl rfl (fun _ => rfl) (nI_pos (n := 5) (by decide)) (nI_clamp (n := 5) (by decide)) (by decide) (Nat.le_of_ble_eq_true rfl) (Nat.le_of_ble_eq_true rfl) ?_
  refine Ek.nm (es2 := (.inr (6, [.null, .null, .null, .int 0, .ref (h0 + 1), .ref (h0 + 2), .ref (h0 + 3), .ref (h0 + 4), .int (-1), .ref (h0 + 5), .ref (h0 + 11), .ref (h0 + 12), .null, .int 0, .int 0, .int 0, .int 0, .int 0]) :: (((((((([] ++ [.inl (ids 1, 24, .inl (fun _ => 0))]) ++ [.inl (ids 0, 24, .inl (fun _ => 0))]) ++ [.inl (ids 0, 240, .inl (fun _ => 0))]) ++ [.inl (ids 0, 240, .inl (fun _ => 0))]) ++ ek_rw ids (h0 + 5) 5 24) ++ eX2_init ids (h0 + 11)) ++ eX2_init ids (h0 + 12)) ++ [.inl (ids 0, 5, .inl (fun _ => 0))]) : List va_E)) (st2 := [.ref (h0 + 13), .ref h0]) (kc2 := 13) (ks2 := 664) rfl rfl rfl rfl ?_
  refine ek_putF (i := 0) dX6_init_80 kf_WithoutE_Speech_44 rfl (Nat.le_of_ble_eq_true rfl) rfl rfl ?_
  refine Ek.nm (es2 := (.inr (6, [.null, .null, .null, .int 0, .ref (h0 + 1), .ref (h0 + 2), .ref (h0 + 3), .ref (h0 + 4), .int (-1), .ref (h0 + 5), .ref (h0 + 11), .ref (h0 + 12), .ref (h0 + 13), .int 0, .int 0, .int 0, .int 0, .int 0]) :: (((((((([] ++ [.inl (ids 1, 24, .inl (fun _ => 0))]) ++ [.inl (ids 0, 24, .inl (fun _ => 0))]) ++ [.inl (ids 0, 240, .inl (fun _ => 0))]) ++ [.inl (ids 0, 240, .inl (fun _ => 0))]) ++ ek_rw ids (h0 + 5) 5 24) ++ eX2_init ids (h0 + 11)) ++ eX2_init ids (h0 + 12)) ++ [.inl (ids 0, 5, .inl (fun _ => 0))]) : List va_E)) (st2 := []) (kc2 := 13) (ks2 := 664) rfl rfl rfl rfl ?_
  refine ek_aload_n (x := h0) dX6_init_83 rfl ?_
  refine ek_aload_n (x := a1) dX6_init_84 rfl ?_
  refine ek_putF (i := 0) dX6_init_85 kf_WithoutE_Speech_47 rfl (Nat.le_of_ble_eq_true rfl) rfl rfl ?_
  refine Ek.nm (es2 := (.inr (6, [.ref a1, .null, .null, .int 0, .ref (h0 + 1), .ref (h0 + 2), .ref (h0 + 3), .ref (h0 + 4), .int (-1), .ref (h0 + 5), .ref (h0 + 11), .ref (h0 + 12), .ref (h0 + 13), .int 0, .int 0, .int 0, .int 0, .int 0]) :: (((((((([] ++ [.inl (ids 1, 24, .inl (fun _ => 0))]) ++ [.inl (ids 0, 24, .inl (fun _ => 0))]) ++ [.inl (ids 0, 240, .inl (fun _ => 0))]) ++ [.inl (ids 0, 240, .inl (fun _ => 0))]) ++ ek_rw ids (h0 + 5) 5 24) ++ eX2_init ids (h0 + 11)) ++ eX2_init ids (h0 + 12)) ++ [.inl (ids 0, 5, .inl (fun _ => 0))]) : List va_E)) (st2 := []) (kc2 := 13) (ks2 := 664) rfl rfl rfl rfl ?_
  refine ek_aload_n (x := h0) dX6_init_88 rfl ?_
  refine ek_aload_n (x := a2) dX6_init_89 rfl ?_
  refine ek_putF (i := 0) dX6_init_90 kf_WithoutE_Speech_51 rfl (Nat.le_of_ble_eq_true rfl) rfl rfl ?_
  refine Ek.nm (es2 := (.inr (6, [.ref a1, .ref a2, .null, .int 0, .ref (h0 + 1), .ref (h0 + 2), .ref (h0 + 3), .ref (h0 + 4), .int (-1), .ref (h0 + 5), .ref (h0 + 11), .ref (h0 + 12), .ref (h0 + 13), .int 0, .int 0, .int 0, .int 0, .int 0]) :: (((((((([] ++ [.inl (ids 1, 24, .inl (fun _ => 0))]) ++ [.inl (ids 0, 24, .inl (fun _ => 0))]) ++ [.inl (ids 0, 240, .inl (fun _ => 0))]) ++ [.inl (ids 0, 240, .inl (fun _ => 0))]) ++ ek_rw ids (h0 + 5) 5 24) ++ eX2_init ids (h0 + 11)) ++ eX2_init ids (h0 + 12)) ++ [.inl (ids 0, 5, .inl (fun _ => 0))]) : List va_E)) (st2 := []) (kc2 := 13) (ks2 := 664) rfl rfl rfl rfl ?_
  refine ek_aload_n (x := h0) dX6_init_93 rfl ?_
  refine ek_aload_n (x := a3) dX6_init_94 rfl ?_
  refine ek_putF (i := 0) dX6_init_95 kf_WithoutE_Speech_55 rfl (Nat.le_of_ble_eq_true rfl) rfl rfl ?_
  refine Ek.nm (es2 := (.inr (6, [.ref a1, .ref a2, .ref a3, .int 0, .ref (h0 + 1), .ref (h0 + 2), .ref (h0 + 3), .ref (h0 + 4), .int (-1), .ref (h0 + 5), .ref (h0 + 11), .ref (h0 + 12), .ref (h0 + 13), .int 0, .int 0, .int 0, .int 0, .int 0]) :: (((((((([] ++ [.inl (ids 1, 24, .inl (fun _ => 0))]) ++ [.inl (ids 0, 24, .inl (fun _ => 0))]) ++ [.inl (ids 0, 240, .inl (fun _ => 0))]) ++ [.inl (ids 0, 240, .inl (fun _ => 0))]) ++ ek_rw ids (h0 + 5) 5 24) ++ eX2_init ids (h0 + 11)) ++ eX2_init ids (h0 + 12)) ++ [.inl (ids 0, 5, .inl (fun _ => 0))]) : List va_E)) (st2 := []) (kc2 := 13) (ks2 := 664) rfl rfl rfl rfl ?_
  exact ek_vret dX6_init_98 rfl (Nat.le_of_ble_eq_true rfl) (Nat.le_of_ble_eq_true rfl)
