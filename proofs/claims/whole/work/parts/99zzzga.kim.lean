/-! MAKING OBJECTS: the model -/
theorem dX11_init_0 : decode cX11_init 0 = .ok (.aload_n 0, 1) := by decide +kernel
theorem dX11_init_1 : decode cX11_init 1 = .ok (.invokespecial 1, 3) := by decide +kernel
theorem dX11_init_4 : decode cX11_init 4 = .ok (.aload_n 0, 1) := by decide +kernel
theorem dX11_init_5 : decode cX11_init 5 = .ok (.sipush 3315, 3) := by decide +kernel
theorem dX11_init_8 : decode cX11_init 8 = .ok (.newarray .int, 2) := by decide +kernel
theorem dX11_init_10 : decode cX11_init 10 = .ok (.putfield 7, 3) := by decide +kernel
theorem dX11_init_13 : decode cX11_init 13 = .ok (.aload_n 0, 1) := by decide +kernel
theorem dX11_init_14 : decode cX11_init 14 = .ok (.sipush 3315, 3) := by decide +kernel
theorem dX11_init_17 : decode cX11_init 17 = .ok (.newarray .int, 2) := by decide +kernel
theorem dX11_init_19 : decode cX11_init 19 = .ok (.putfield 13, 3) := by decide +kernel
theorem dX11_init_22 : decode cX11_init 22 = .ok (.aload_n 0, 1) := by decide +kernel
theorem dX11_init_23 : decode cX11_init 23 = .ok (.iconst 3, 1) := by decide +kernel
theorem dX11_init_24 : decode cX11_init 24 = .ok (.newarray .int, 2) := by decide +kernel
theorem dX11_init_26 : decode cX11_init 26 = .ok (.putfield 16, 3) := by decide +kernel
theorem dX11_init_29 : decode cX11_init 29 = .ok (.aload_n 0, 1) := by decide +kernel
theorem dX11_init_30 : decode cX11_init 30 = .ok (.sipush 3780, 3) := by decide +kernel
theorem dX11_init_33 : decode cX11_init 33 = .ok (.newarray .int, 2) := by decide +kernel
theorem dX11_init_35 : decode cX11_init 35 = .ok (.putfield 19, 3) := by decide +kernel
theorem dX11_init_38 : decode cX11_init 38 = .ok (.aload_n 0, 1) := by decide +kernel
theorem dX11_init_39 : decode cX11_init 39 = .ok (.sipush 300, 3) := by decide +kernel
theorem dX11_init_42 : decode cX11_init 42 = .ok (.newarray .int, 2) := by decide +kernel
theorem dX11_init_44 : decode cX11_init 44 = .ok (.putfield 22, 3) := by decide +kernel
theorem dX11_init_47 : decode cX11_init 47 = .ok (.aload_n 0, 1) := by decide +kernel
theorem dX11_init_48 : decode cX11_init 48 = .ok (.iconst (-1), 1) := by decide +kernel
theorem dX11_init_49 : decode cX11_init 49 = .ok (.putfield 25, 3) := by decide +kernel
theorem dX11_init_52 : decode cX11_init 52 = .ok (.aload_n 0, 1) := by decide +kernel
theorem dX11_init_53 : decode cX11_init 53 = .ok (.iconst (-1), 1) := by decide +kernel
theorem dX11_init_54 : decode cX11_init 54 = .ok (.putfield 29, 3) := by decide +kernel
theorem dX11_init_57 : decode cX11_init 57 = .ok (.aload_n 0, 1) := by decide +kernel
theorem dX11_init_58 : decode cX11_init 58 = .ok (.sipush 160, 3) := by decide +kernel
theorem dX11_init_61 : decode cX11_init 61 = .ok (.newarray .int, 2) := by decide +kernel
theorem dX11_init_63 : decode cX11_init 63 = .ok (.putfield 32, 3) := by decide +kernel
theorem dX11_init_66 : decode cX11_init 66 = .ok (.aload_n 0, 1) := by decide +kernel
theorem dX11_init_67 : decode cX11_init 67 = .ok (.bipush 12, 2) := by decide +kernel
theorem dX11_init_69 : decode cX11_init 69 = .ok (.newarray .int, 2) := by decide +kernel
theorem dX11_init_71 : decode cX11_init 71 = .ok (.putfield 35, 3) := by decide +kernel
theorem dX11_init_74 : decode cX11_init 74 = .ok (.aload_n 0, 1) := by decide +kernel
theorem dX11_init_75 : decode cX11_init 75 = .ok (.sipush 330, 3) := by decide +kernel
theorem dX11_init_78 : decode cX11_init 78 = .ok (.newarray .long, 2) := by decide +kernel
theorem dX11_init_80 : decode cX11_init 80 = .ok (.putfield 38, 3) := by decide +kernel
theorem dX11_init_83 : decode cX11_init 83 = .ok (.aload_n 0, 1) := by decide +kernel
theorem dX11_init_84 : decode cX11_init 84 = .ok (.sipush 330, 3) := by decide +kernel
theorem dX11_init_87 : decode cX11_init 87 = .ok (.newarray .boolean, 2) := by decide +kernel
theorem dX11_init_89 : decode cX11_init 89 = .ok (.putfield 42, 3) := by decide +kernel
theorem dX11_init_92 : decode cX11_init 92 = .ok (.aload_n 0, 1) := by decide +kernel
theorem dX11_init_93 : decode cX11_init 93 = .ok (.iconst 5, 1) := by decide +kernel
theorem dX11_init_94 : decode cX11_init 94 = .ok (.newarray .int, 2) := by decide +kernel
theorem dX11_init_96 : decode cX11_init 96 = .ok (.putfield 46, 3) := by decide +kernel
theorem dX11_init_99 : decode cX11_init 99 = .ok (.aload_n 0, 1) := by decide +kernel
theorem dX11_init_100 : decode cX11_init 100 = .ok (.bipush 24, 2) := by decide +kernel
theorem dX11_init_102 : decode cX11_init 102 = .ok (.newarray .int, 2) := by decide +kernel
theorem dX11_init_104 : decode cX11_init 104 = .ok (.putfield 49, 3) := by decide +kernel
theorem dX11_init_107 : decode cX11_init 107 = .ok (.aload_n 0, 1) := by decide +kernel
theorem dX11_init_108 : decode cX11_init 108 = .ok (.bipush 120, 2) := by decide +kernel
theorem dX11_init_110 : decode cX11_init 110 = .ok (.newarray .int, 2) := by decide +kernel
theorem dX11_init_112 : decode cX11_init 112 = .ok (.putfield 52, 3) := by decide +kernel
theorem dX11_init_115 : decode cX11_init 115 = .ok (.aload_n 0, 1) := by decide +kernel
theorem dX11_init_116 : decode cX11_init 116 = .ok (.iconst 5, 1) := by decide +kernel
theorem dX11_init_117 : decode cX11_init 117 = .ok (.newarray .int, 2) := by decide +kernel
theorem dX11_init_119 : decode cX11_init 119 = .ok (.putfield 55, 3) := by decide +kernel
theorem dX11_init_122 : decode cX11_init 122 = .ok (.aload_n 0, 1) := by decide +kernel
theorem dX11_init_123 : decode cX11_init 123 = .ok (.bipush 24, 2) := by decide +kernel
theorem dX11_init_125 : decode cX11_init 125 = .ok (.newarray .int, 2) := by decide +kernel
theorem dX11_init_127 : decode cX11_init 127 = .ok (.putfield 58, 3) := by decide +kernel
theorem dX11_init_130 : decode cX11_init 130 = .ok (.aload_n 0, 1) := by decide +kernel
theorem dX11_init_131 : decode cX11_init 131 = .ok (.bipush 24, 2) := by decide +kernel
theorem dX11_init_133 : decode cX11_init 133 = .ok (.newarray .int, 2) := by decide +kernel
theorem dX11_init_135 : decode cX11_init 135 = .ok (.putfield 61, 3) := by decide +kernel
theorem dX11_init_138 : decode cX11_init 138 = .ok (.aload_n 0, 1) := by decide +kernel
theorem dX11_init_139 : decode cX11_init 139 = .ok (.bipush 26, 2) := by decide +kernel
theorem dX11_init_141 : decode cX11_init 141 = .ok (.newarray .int, 2) := by decide +kernel
theorem dX11_init_143 : decode cX11_init 143 = .ok (.putfield 64, 3) := by decide +kernel
theorem dX11_init_146 : decode cX11_init 146 = .ok (.aload_n 0, 1) := by decide +kernel
theorem dX11_init_147 : decode cX11_init 147 = .ok (.bipush 8, 2) := by decide +kernel
theorem dX11_init_149 : decode cX11_init 149 = .ok (.newarray .int, 2) := by decide +kernel
theorem dX11_init_151 : decode cX11_init 151 = .ok (.putfield 67, 3) := by decide +kernel
theorem dX11_init_154 : decode cX11_init 154 = .ok (.aload_n 0, 1) := by decide +kernel
theorem dX11_init_155 : decode cX11_init 155 = .ok (.bipush 8, 2) := by decide +kernel
theorem dX11_init_157 : decode cX11_init 157 = .ok (.newarray .int, 2) := by decide +kernel
theorem dX11_init_159 : decode cX11_init 159 = .ok (.putfield 70, 3) := by decide +kernel
theorem dX11_init_162 : decode cX11_init 162 = .ok (.aload_n 0, 1) := by decide +kernel
theorem dX11_init_163 : decode cX11_init 163 = .ok (.bipush 8, 2) := by decide +kernel
theorem dX11_init_165 : decode cX11_init 165 = .ok (.newarray .int, 2) := by decide +kernel
theorem dX11_init_167 : decode cX11_init 167 = .ok (.putfield 73, 3) := by decide +kernel
theorem dX11_init_170 : decode cX11_init 170 = .ok (.aload_n 0, 1) := by decide +kernel
theorem dX11_init_171 : decode cX11_init 171 = .ok (.getfield 7, 3) := by decide +kernel
theorem dX11_init_174 : decode cX11_init 174 = .ok (.bipush 11, 2) := by decide +kernel
theorem dX11_init_176 : decode cX11_init 176 = .ok (.sipush 173, 3) := by decide +kernel
theorem dX11_init_179 : decode cX11_init 179 = .ok (.iastore, 1) := by decide +kernel
theorem dX11_init_180 : decode cX11_init 180 = .ok (.aload_n 0, 1) := by decide +kernel
theorem dX11_init_181 : decode cX11_init 181 = .ok (.getfield 7, 3) := by decide +kernel
theorem dX11_init_184 : decode cX11_init 184 = .ok (.iconst 3, 1) := by decide +kernel
theorem dX11_init_185 : decode cX11_init 185 = .ok (.iconst (-1), 1) := by decide +kernel
theorem dX11_init_186 : decode cX11_init 186 = .ok (.iastore, 1) := by decide +kernel
theorem dX11_init_187 : decode cX11_init 187 = .ok (.iconst 0, 1) := by decide +kernel
theorem dX11_init_188 : decode cX11_init 188 = .ok (.istore_n 1, 1) := by decide +kernel
theorem dX11_init_189 : decode cX11_init 189 = .ok (.iload_n 1, 1) := by decide +kernel
theorem dX11_init_190 : decode cX11_init 190 = .ok (.bipush 26, 2) := by decide +kernel
theorem dX11_init_192 : decode cX11_init 192 = .ok (.if_icmp .ge 22, 3) := by decide +kernel
theorem dX11_init_195 : decode cX11_init 195 = .ok (.aload_n 0, 1) := by decide +kernel
theorem dX11_init_196 : decode cX11_init 196 = .ok (.getfield 7, 3) := by decide +kernel
theorem dX11_init_199 : decode cX11_init 199 = .ok (.sipush 399, 3) := by decide +kernel
theorem dX11_init_202 : decode cX11_init 202 = .ok (.iconst 2, 1) := by decide +kernel
theorem dX11_init_203 : decode cX11_init 203 = .ok (.iload_n 1, 1) := by decide +kernel
theorem dX11_init_204 : decode cX11_init 204 = .ok (.imul, 1) := by decide +kernel
theorem dX11_init_205 : decode cX11_init 205 = .ok (.iadd, 1) := by decide +kernel
theorem dX11_init_206 : decode cX11_init 206 = .ok (.iconst (-1), 1) := by decide +kernel
theorem dX11_init_207 : decode cX11_init 207 = .ok (.iastore, 1) := by decide +kernel
theorem dX11_init_208 : decode cX11_init 208 = .ok (.iinc 1 1, 3) := by decide +kernel
theorem dX11_init_211 : decode cX11_init 211 = .ok (.goto (-22), 3) := by decide +kernel
theorem dX11_init_214 : decode cX11_init 214 = .ok (.aload_n 0, 1) := by decide +kernel
theorem dX11_init_215 : decode cX11_init 215 = .ok (.getfield 7, 3) := by decide +kernel
theorem dX11_init_218 : decode cX11_init 218 = .ok (.aload_n 0, 1) := by decide +kernel
theorem dX11_init_219 : decode cX11_init 219 = .ok (.getfield 13, 3) := by decide +kernel
theorem dX11_init_222 : decode cX11_init 222 = .ok (.invokestatic 76, 3) := by decide +kernel
theorem dX11_init_225 : decode cX11_init 225 = .ok (.return_, 1) := by decide +kernel
def eM (ids : Nat → ClassId) (h0 : Nat) (f g : Nat → Int32) : List va_E := [.inr (11, [.ref (h0 + 1), .ref (h0 + 2), .ref (h0 + 3), .ref (h0 + 4), .ref (h0 + 5), .int 0, .int (-1), .int (-1), .int 0, .int 0, .int 0, .int 0, .long 0, .int 0, .int 0, .int 0, .ref (h0 + 6), .int 0, .int 0, .int 0, .int 0, .ref (h0 + 7), .ref (h0 + 8), .ref (h0 + 9), .ref (h0 + 10), .ref (h0 + 11), .ref (h0 + 12), .ref (h0 + 13), .ref (h0 + 14), .ref (h0 + 15), .ref (h0 + 16), .ref (h0 + 17), .int 0, .ref (h0 + 18), .ref (h0 + 19)]), .inl (ids 0, 3315, .inl f), .inl (ids 0, 3315, .inl g), .inl (ids 0, 3, .inl (fun _ => 0)), .inl (ids 0, 3780, .inl (fun _ => 0)), .inl (ids 0, 300, .inl (fun _ => 0)), .inl (ids 0, 160, .inl (fun _ => 0)), .inl (ids 0, 12, .inl (fun _ => 0)), .inl (ids 2, 330, .inr (.inl (fun _ => 0))), .inl (ids 1, 330, .inl (fun _ => 0)), .inl (ids 0, 5, .inl (fun _ => 0)), .inl (ids 0, 24, .inl (fun _ => 0)), .inl (ids 0, 120, .inl (fun _ => 0)), .inl (ids 0, 5, .inl (fun _ => 0)), .inl (ids 0, 24, .inl (fun _ => 0)), .inl (ids 0, 24, .inl (fun _ => 0)), .inl (ids 0, 26, .inl (fun _ => 0)), .inl (ids 0, 8, .inl (fun _ => 0)), .inl (ids 0, 8, .inl (fun _ => 0)), .inl (ids 0, 8, .inl (fun _ => 0))]
def dfM : va_E := .inr (11, [.null, .null, .null, .null, .null, .int 0, .int 0, .int 0, .int 0, .int 0, .int 0, .int 0, .long 0, .int 0, .int 0, .int 0, .null, .int 0, .int 0, .int 0, .int 0, .null, .null, .null, .null, .null, .null, .null, .null, .null, .null, .null, .int 0, .null, .null])
/-- the model's memory as it is made -/
def mN (f g : Nat → Int32) : ev_Mem := (fun a => match a with
  | 0 => (fun b => match b with
    | 6 => -1
    | 7 => -1
    | _ => 0)
  | 1 => f
  | 2 => g
  | _ => fun _ => 0, fun _ _ => 0)
def zf0A : Nat → Int32 := upd (upd (fun _ => 0) 11 173) 3 (-1)
def zfA (i : Nat) : Nat → Int32 := fun j => if 399 ≤ j ∧ j < 399 + 2 * i ∧ (j - 399) % 2 = 0 then -1 else zf0A j
theorem zfA_0 : zfA 0 = zf0A := funext fun j => by unfold zfA; rw [if_neg (by omega)]
theorem zfA_s {i : Nat} : upd (zfA i) (399 + 2 * i) (-1) = zfA (i + 1) := funext fun j => by
  by_cases e : j = 399 + 2 * i
  · rw [e, pk_us]
    unfold zfA
    rw [if_pos (by omega)]
  · rw [pk_un e]
    unfold zfA
    by_cases z : 399 ≤ j ∧ j < 399 + 2 * i ∧ (j - 399) % 2 = 0
    · rw [if_pos z, if_pos (by omega)]
    · rw [if_neg z, if_neg (by omega)]
def fvL (ad : Nat → Nat) (M : ev_Mem) (k : Nat) : Nat → List (Nat × Nat) → List Value
  | _, [] => []
  | j, q :: r => ev_fv ad M k j q :: fvL ad M k (j + 1) r
theorem fvL_ix {ad : Nat → Nat} {M : ev_Mem} {k : Nat} : ∀ (l : List (Nat × Nat)) (j : Nat), l.mapIdx (fun i q => ev_fv ad M k (i + j) q) = fvL ad M k j l
  | [], _ => rfl
  | q :: r, j => by
    have e : (fun (i : Nat) (q : Nat × Nat) => ev_fv ad M k (i + 1 + j) q) = fun (i : Nat) (q : Nat × Nat) => ev_fv ad M k (i + (j + 1)) q := funext fun i => by rw [Nat.add_right_comm i 1 j, Nat.add_assoc]
    rw [List.mapIdx_cons, e, fvL_ix r (j + 1), Nat.zero_add]
    rfl
theorem ent_o {ad : Nat → Nat} {ids : Nat → ClassId} {M : ev_Mem} {k ci : Nat} {fks : List (Nat × Nat)} {vs : List Value} (h : vs = fvL ad M k 0 fks) : (.inr (ci, vs) : va_E) = ev_ent ad ids M k (.inr (ci, fks)) := by
  subst h
  show _ = (Sum.inr (ci, fks.mapIdx (fun i q => ev_fv ad M k i q)) : va_E)
  rw [← fvL_ix fks 0]
  rfl
theorem ent_i {ad : Nat → Nat} {ids : Nat → ClassId} {M : ev_Mem} {k t n : Nat} {kid : Nat → Nat} {f : Nat → Int32} (h : f = M.1 k) : (.inl (ids t, n, .inl f) : va_E) = ev_ent ad ids M k (.inl (t, n, 0, kid)) := by
  subst h
  rfl
theorem ent_l {ad : Nat → Nat} {ids : Nat → ClassId} {M : ev_Mem} {k t n : Nat} {kid : Nat → Nat} {f : Nat → Int64} (h : f = M.2 k) : (.inl (ids t, n, .inr (.inl f)) : va_E) = ev_ent ad ids M k (.inl (t, n, 1, kid)) := by
  subst h
  rfl
section
variable {ids : Nat → ClassId} {ad : Nat → Nat} {b0 d h0 : Nat} {fs : List va_E}
theorem mi_ent (f g : Nat → Int32) : ∀ (k : Nat) (c : ev_C), LM[k]? = some c → (eM ids h0 f g)[k]? = some (ev_ent (ek_ad h0 (fun k => k) ad) ids (mN f g) k c) := fun k c h => match k, c, h with
  | 0, _, h => by rw [lm_0] at h; cases h; exact congrArg some (ent_o rfl)
  | 1, _, h => by rw [lm_1] at h; cases h; exact congrArg some (ent_i rfl)
  | 2, _, h => by rw [lm_2] at h; cases h; exact congrArg some (ent_i rfl)
  | 3, _, h => by rw [lm_3] at h; cases h; exact congrArg some (ent_i rfl)
  | 4, _, h => by rw [lm_4] at h; cases h; exact congrArg some (ent_i rfl)
  | 5, _, h => by rw [lm_5] at h; cases h; exact congrArg some (ent_i rfl)
  | 6, _, h => by rw [lm_6] at h; cases h; exact congrArg some (ent_i rfl)
  | 7, _, h => by rw [lm_7] at h; cases h; exact congrArg some (ent_i rfl)
  | 8, _, h => by rw [lm_8] at h; cases h; exact congrArg some (ent_l rfl)
  | 9, _, h => by rw [lm_9] at h; cases h; exact congrArg some (ent_i rfl)
  | 10, _, h => by rw [lm_10] at h; cases h; exact congrArg some (ent_i rfl)
  | 11, _, h => by rw [lm_11] at h; cases h; exact congrArg some (ent_i rfl)
  | 12, _, h => by rw [lm_12] at h; cases h; exact congrArg some (ent_i rfl)
  | 13, _, h => by rw [lm_13] at h; cases h; exact congrArg some (ent_i rfl)
  | 14, _, h => by rw [lm_14] at h; cases h; exact congrArg some (ent_i rfl)
  | 15, _, h => by rw [lm_15] at h; cases h; exact congrArg some (ent_i rfl)
  | 16, _, h => by rw [lm_16] at h; cases h; exact congrArg some (ent_i rfl)
  | 17, _, h => by rw [lm_17] at h; cases h; exact congrArg some (ent_i rfl)
  | 18, _, h => by rw [lm_18] at h; cases h; exact congrArg some (ent_i rfl)
  | 19, _, h => by rw [lm_19] at h; cases h; exact congrArg some (ent_i rfl)
  | k + 20, _, h => by
    have : LM[k + 20]? = none := List.getElem?_eq_none (Nat.le_add_left 20 k)
    rw [this] at h
    cases h
theorem mi_lp (hk : Ek ids ad b0 (d + 1) 19 11797 mX11_init 214 [some (.ref h0), some (.int 26)] [] h0 (eM ids h0 (zfA 26) (fun _ => 0)) 19 11797 fs) : ∀ n i, i + n = 26 → Ek ids ad b0 (d + 1) 19 11797 mX11_init 189 [some (.ref h0), some (.int (nI i))] [] h0 (eM ids h0 (zfA i) (fun _ => 0)) 19 11797 fs
  | 0, i, hi => by
    obtain rfl : i = 26 := by omega
    refine ek_iload_n dX11_init_189 rfl ?_
    refine ek_bipush (v := 26) dX11_init_190 (by decide) ?_
    exact ek_icmp_ge (tgt := 214) dX11_init_192 (by decide) (fun _ => hk) (fun q => absurd (by decide) q)
  | n + 1, i, hi => by
    refine ek_iload_n dX11_init_189 rfl ?_
    refine ek_bipush (v := 26) dX11_init_190 (by decide) ?_
    refine ek_icmp_ge (tgt := 214) dX11_init_192 (by decide) (fun q => absurd q (nI_ge (b := 26) (by omega) (by omega))) (fun _ => ?_)
    refine ek_aload_n (x := h0) dX11_init_195 rfl ?_
    refine ek_get (i := 0) (v := .ref (h0 + 1)) dX11_init_196 fl_WithoutEModel_7 rfl rfl ?_
    refine ek_sipush (v := 399) dX11_init_199 (by decide) ?_
    refine ek_iconst (v := 2) dX11_init_202 (by decide) ?_
    refine ek_iload_n dX11_init_203 rfl ?_
    refine ek_imul dX11_init_204 ?_
    refine ek_iadd dX11_init_205 ?_
    refine ek_iconst (v := -1) dX11_init_206 (by decide) ?_
    have e : (399 : Int32) + 2 * nI i = nI (399 + 2 * i) := by rw [show (399 : Int32) = nI 399 from rfl, show (2 : Int32) = nI 2 from rfl, pk_mul, nI_add]
    rw [e]
    refine ek_iast (i := 1) (n := 3315) (f := zfA i) dX11_init_207 rfl (vp_in_nI (by omega) (by omega)) ?_
    rw [nI_clamp (by omega), zfA_s]
    refine Ek.nm (es2 := eM ids h0 (zfA (i + 1)) (fun _ => 0)) (st2 := []) (kc2 := 19) (ks2 := 11797) rfl rfl rfl rfl ?_
    refine ek_iinc (v := nI (i + 1)) (ls2 := [some (.ref h0), some (.int (nI (i + 1)))]) dX11_init_208 rfl (nI_1 i) rfl ?_
    exact ek_goto (tgt := 189) dX11_init_211 (by decide) (mi_lp hk n (i + 1) (by omega))
def zgA : Nat → Int32 := fun i => if i < 3315 then zfA 26 i else 0
set_option maxHeartbeats 40000000 in
set_option maxRecDepth 100000 in
theorem mi_end : Ek ids ad b0 (d + 1) 19 11797 mX11_init 214 [some (.ref h0), some (.int 26)] [] h0 (eM ids h0 (zfA 26) (fun _ => 0)) 19 11797 (eM ids h0 (zfA 26) zgA) := by
  refine ek_aload_n (x := h0) dX11_init_214 rfl ?_
  refine ek_get (i := 0) (v := .ref (h0 + 1)) dX11_init_215 fl_WithoutEModel_7 rfl rfl ?_
  refine ek_aload_n (x := h0) dX11_init_218 rfl ?_
  refine ek_get (i := 0) (v := .ref (h0 + 2)) dX11_init_219 fl_WithoutEModel_13 rfl rfl ?_
  refine Ek.nm (es2 := eM ids h0 (zfA 26) (fun _ => 0)) (st2 := (([.ref 1, .ref 2] : List Value).map (ev_cv (ek_ad h0 (fun k => k) ad))).reverse ++ []) (kc2 := 19) (ks2 := 11797) rfl rfl rfl rfl ?_
  refine ek_clS (L := LM) (ix := fun k => k) (M := mN (zfA 26) (fun _ => 0)) (M2 := rowM (mN (zfA 26) (fun _ => 0)) 2 (fun i => if i < 3315 then (mN (zfA 26) (fun _ => 0)).1 1 i else (mN (zfA 26) (fun _ => 0)).1 2 i)) (es2 := eM ids h0 (zfA 26) zgA) (st := []) [.ref 1, .ref 2] dX11_init_222 ml_WithoutEModel_76 rfl (Nat.le_of_ble_eq_true rfl) (Nat.le_of_ble_eq_true rfl) (Nat.le_of_ble_eq_true rfl) (Nat.le_of_ble_eq_true rfl) (mi_ent (zfA 26) (fun _ => 0)) (fun a b _ _ e => e) (kX11_copyi (d := d) (N := mN (zfA 26) (fun _ => 0))) rfl (fun i e he => ?_) ?_
  · have hl : i < 20 := (List.getElem?_eq_some_iff.mp he).1
    have hc := mi_ent (ids := ids) (ad := ad) (h0 := h0) (zfA 26) zgA i (LM[i]'hl) (List.getElem?_eq_getElem hl)
    rw [he] at hc
    refine Or.inl ⟨i, LM[i]'hl, List.getElem?_eq_getElem hl, rfl, ?_⟩
    rw [Option.some.inj hc]
    have em : rowM (mN (zfA 26) (fun _ => 0)) 2 (fun i => if i < 3315 then (mN (zfA 26) (fun _ => 0)).1 1 i else (mN (zfA 26) (fun _ => 0)).1 2 i) = mN (zfA 26) zgA := by
      refine Prod.ext (funext fun a => funext fun b => ?_) rfl
      show (if a = 2 then _ else _) = _
      by_cases z : a = 2
      · rw [if_pos z, z]
        rfl
      · rw [if_neg z]
        match a, z with
        | 0, _ => rfl
        | 1, _ => rfl
        | 2, z => exact absurd rfl z
        | a + 3, _ => rfl
    rw [em]
  · exact ek_vret dX11_init_225 rfl (Nat.le_of_ble_eq_true rfl) (Nat.le_of_ble_eq_true rfl)
end
