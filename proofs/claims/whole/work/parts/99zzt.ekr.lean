/-! MAKING OBJECTS: the rows -/
section
variable {ids : Nat → ClassId} {ad : Nat → Nat} {b0 d C S : Nat} {y : ev_Y} {pc : Nat} {ls : List (Option Value)} {st : List Value} {h0 : Nat} {es : List va_E} {kc ks : Nat} {fs : List va_E}
theorem ek_aload_n {n : Fin 4} {x : Nat} (hd : decode y.2.1 pc = .ok (.aload_n n, 1)) (hi : ls[(n : Nat)]? = some (some (.ref x))) (k : Ek ids ad b0 d C S y (pc + 1) ls (.ref x :: st) h0 es kc ks fs) : Ek ids ad b0 d C S y pc ls st h0 es kc ks fs := fun p l e R s m args below meth c H locs D lsA X hl hk => lv_aload_n X.1 X.2.1 hd rfl (hl.2.2.2 _ _ hi) (k p l e R s m args below meth c H locs D lsA X hl hk)
theorem ek_iload_n {n : Fin 4} {x : Int32} (hd : decode y.2.1 pc = .ok (.iload_n n, 1)) (hi : ls[(n : Nat)]? = some (some (.int x))) (k : Ek ids ad b0 d C S y (pc + 1) ls (.int x :: st) h0 es kc ks fs) : Ek ids ad b0 d C S y pc ls st h0 es kc ks fs := fun p l e R s m args below meth c H locs D lsA X hl hk => lv_iload_n X.1 X.2.1 hd rfl (hl.2.2.2 _ _ hi) (k p l e R s m args below meth c H locs D lsA X hl hk)
theorem ek_iconst {n : Int} {v : Int32} (hd : decode y.2.1 pc = .ok (.iconst n, 1)) (hv : Int32.ofInt n = v) (k : Ek ids ad b0 d C S y (pc + 1) ls (.int v :: st) h0 es kc ks fs) : Ek ids ad b0 d C S y pc ls st h0 es kc ks fs := fun p l e R s m args below meth c H locs D lsA X hl hk => lv_iconst X.1 X.2.1 hd hv (k p l e R s m args below meth c H locs D lsA X hl hk)
theorem ek_bipush {n : Int} {v : Int32} (hd : decode y.2.1 pc = .ok (.bipush n, 2)) (hv : (Int8.ofInt n).toInt32 = v) (k : Ek ids ad b0 d C S y (pc + 2) ls (.int v :: st) h0 es kc ks fs) : Ek ids ad b0 d C S y pc ls st h0 es kc ks fs := fun p l e R s m args below meth c H locs D lsA X hl hk => lv_bipush X.1 X.2.1 hd hv (k p l e R s m args below meth c H locs D lsA X hl hk)
theorem ek_sipush {n : Int} {v : Int32} (hd : decode y.2.1 pc = .ok (.sipush n, 3)) (hv : (Int16.ofInt n).toInt32 = v) (k : Ek ids ad b0 d C S y (pc + 3) ls (.int v :: st) h0 es kc ks fs) : Ek ids ad b0 d C S y pc ls st h0 es kc ks fs := fun p l e R s m args below meth c H locs D lsA X hl hk => lv_sipush X.1 X.2.1 hd hv (k p l e R s m args below meth c H locs D lsA X hl hk)
theorem ek_dup {v : Value} (hd : decode y.2.1 pc = .ok (.dup, 1)) (hv : v.category = 1) (k : Ek ids ad b0 d C S y (pc + 1) ls (v :: v :: st) h0 es kc ks fs) : Ek ids ad b0 d C S y pc ls (v :: st) h0 es kc ks fs := fun p l e R s m args below meth c H locs D lsA X hl hk => lv_dup X.1 X.2.1 hd hv (k p l e R s m args below meth c H locs D lsA X hl hk)
theorem ek_goto {off : Int} {tgt : Nat} (hd : decode y.2.1 pc = .ok (.goto off, 3)) (ht : (pc : Int) + off = (tgt : Int)) (k : Ek ids ad b0 d C S y tgt ls st h0 es kc ks fs) : Ek ids ad b0 d C S y pc ls st h0 es kc ks fs := fun p l e R s m args below meth c H locs D lsA X hl hk => lv_goto X.1 X.2.1 hd ht (k p l e R s m args below meth c H locs D lsA X hl hk)
theorem ek_icmp_ge {off : Int} {tgt : Nat} {x z : Int32} (hd : decode y.2.1 pc = .ok (.if_icmp .ge off, 3)) (ht : (pc : Int) + off = (tgt : Int)) (kt : z ≤ x → Ek ids ad b0 d C S y tgt ls st h0 es kc ks fs) (kf : ¬ z ≤ x → Ek ids ad b0 d C S y (pc + 3) ls st h0 es kc ks fs) : Ek ids ad b0 d C S y pc ls (.int z :: .int x :: st) h0 es kc ks fs := fun p l e R s m args below meth c H locs D lsA X hl hk => lv_icmp_ge X.1 X.2.1 hd ht (fun h => kt h p l e R s m args below meth c H locs D lsA X hl hk) (fun h => kf h p l e R s m args below meth c H locs D lsA X hl hk)
theorem ek_iadd {x z : Int32} (hd : decode y.2.1 pc = .ok (.iadd, 1)) (k : Ek ids ad b0 d C S y (pc + 1) ls (.int (x + z) :: st) h0 es kc ks fs) : Ek ids ad b0 d C S y pc ls (.int z :: .int x :: st) h0 es kc ks fs := fun p l e R s m args below meth c H locs D lsA X hl hk => lv_iadd X.1 X.2.1 hd (k p l e R s m args below meth c H locs D lsA X hl hk)
theorem ek_imul {x z : Int32} (hd : decode y.2.1 pc = .ok (.imul, 1)) (k : Ek ids ad b0 d C S y (pc + 1) ls (.int (x * z) :: st) h0 es kc ks fs) : Ek ids ad b0 d C S y pc ls (.int z :: .int x :: st) h0 es kc ks fs := fun p l e R s m args below meth c H locs D lsA X hl hk => lv_imul X.1 X.2.1 hd (k p l e R s m args below meth c H locs D lsA X hl hk)
theorem ek_istore_n {n : Fin 4} {x : Int32} {ls2 : List (Option Value)} (hd : decode y.2.1 pc = .ok (.istore_n n, 1)) (hn : (n : Nat) < ls.length) (h2 : ev_s1 ls n (.int x) = ls2) (k : Ek ids ad b0 d C S y (pc + 1) ls2 st h0 es kc ks fs) : Ek ids ad b0 d C S y pc ls (.int x :: st) h0 es kc ks fs := fun p l e R s m args below meth c H locs D lsA X hl hk => lv_istore_n X.1 X.2.1 hd rfl (ev_has hl) (by rw [← hl.2.2.1]; exact hn) rfl (fun ls2 hl2 => k p l e R s m args below meth c H locs D ls2 X (h2 ▸ ev_st1 (v := .int x) hl hl2) hk)
theorem ek_iinc {i : Nat} {n : Int} {x v : Int32} {ls2 : List (Option Value)} (hd : decode y.2.1 pc = .ok (.iinc i n, 3)) (hi : ls[i]? = some (some (.int x))) (hv : x + Int32.ofInt n = v) (h2 : ev_s1 ls i (.int v) = ls2) (k : Ek ids ad b0 d C S y (pc + 3) ls2 st h0 es kc ks fs) : Ek ids ad b0 d C S y pc ls st h0 es kc ks fs := by
  intro p l e R s m args below meth c H locs D lsA X hl hk
  obtain ⟨j, hj⟩ := List.getElem?_of_mem (ev_as_mem (ad := fun q => q) hi)
  exact lv_iinc (x := x) (v := v) (k := j) X.1 X.2.1 hd (ev_has hl) hj hv (by rw [← hl.2.2.1]; exact (List.getElem?_eq_some_iff.mp hi).1) rfl (fun ls2 hl2 => k p l e R s m args below meth c H locs D ls2 X (h2 ▸ ev_st1 (v := .int v) hl hl2) hk)
theorem ek_objInit {a idx : Nat} (hd : decode y.2.1 pc = .ok (.invokespecial idx, 3)) (w1 : Cond.methodLink y.1.cls idx Lib.objectInit ∈ ev_T) (w2 : Cond.instanceMethod Lib.objectInit ∈ ev_T) (w3 : Cond.code Lib.objectInit ⟨#[0xb1]⟩ 1 none ∈ ev_T) (hd1 : 1 ≤ d) (k : Ek ids ad b0 d C S y (pc + 3) ls [] h0 es kc ks fs) : Ek ids ad b0 d C S y pc ls [.ref a] h0 es kc ks fs := by
  intro p l e R s m args below meth c H locs D lsA X hl hk
  have kk := k p l e R s m args below meth c H locs D lsA X hl hk
  obtain ⟨hx, hb, hr, hml, hown, hts, hlk, hnm, ⟨r1, r2, r3, r4⟩, -⟩ := X
  have h8 : 2 * (F0 m pc lsA [.ref a]).monitorRoom ≤ 8 := ev_room (st := []) (ad := fun q => q) (m := m) (pc := pc) (lsA := lsA) (st0 := [.ref a]) (by decide)
  exact W.objInit hx hb hown (hts _ w1) (hts _ w2) (hts _ w3) rfl (hl.1.trans hml.symm) rfl hd (by omega) (by show 2 * (F0 m pc lsA [.ref a]).monitorRoom + 0 + 12 ≤ _; omega) kk
theorem ek_newa {atype : ArrayType} {ty : FieldType} {t N : Nat} {n : Int32} {a0 : vp_A} (hd : decode y.2.1 pc = .ok (.newarray atype, 2)) (hw : Cond.arrayClass ty ∈ ev_T) (hty : newarray.typeOf atype = ty) (ht : (ev_tys ids)[t]? = some (ids t, ty)) (ha : ∀ cA : ClassId, vp_cell cA a0 = arrV cA N (fun _ => defaultValue ty)) (hn : ¬ n < 0) (hN : n.toNatClampNeg = N) (hby : N * componentBytes ty ≤ 536870912) (hC : kc + 1 ≤ C) (hS' : ks + N ≤ S) (k : Ek ids ad b0 d C S y (pc + 2) ls (.ref (h0 + es.length) :: st) h0 (es ++ [.inl (ids t, a0)]) (kc + 1) (ks + N) fs) : Ek ids ad b0 d C S y pc ls (.int n :: st) h0 es kc ks fs := by
  intro p l e R s m args below meth c H locs D lsA X hl hk
  obtain ⟨hx, hb, hr, hml, hown, hts, hlk, hnm, ⟨r1, r2, r3, r4⟩, hB, ⟨b1, b2⟩, hPW, hS⟩ := X
  have hz0 := hPW.2
  refine va_newa hx hb (by rw [hty]; exact hts _ hw) hty hB.1 hPW.1 wE_D (ek_self hS) (fun q hq => by show h0 ≤ q; omega) ha hn hN hby (by omega) (by omega) hd (fun q cA H1 hK1 hP1 hD1 hS1 => ?_)
  have ec : cA = ids t := ra_eq (hK1.2 5 (cA, ty) rfl).2 (hB.1.2 t _ ht).2
  refine w_sz (fun hz => ?_)
  obtain ⟨rfl, hPW1⟩ := ek_push hPW hP1 hD1 (by omega)
  rw [ec] at hPW1
  exact k p l e R s m args below meth c H1 locs D lsA ⟨hx, hb, hr, hml, hown, hts, hlk, hnm, ⟨r1, r2, r3, r4⟩, hB, ⟨b1, b2⟩, hPW1, ek_tr hS hS1⟩ hl (by rw [List.length_append, List.length_singleton]; omega)
theorem ek_anew {own : String} {idx N : Nat} {n : Int32} (hd : decode y.2.1 pc = .ok (.anewarray idx, 3)) (ho : y.1.cls = own) (hw : Cond.classLink own idx "WithoutE$Text" ∈ ev_T) (hn : ¬ n < 0) (hN : n.toNatClampNeg = N) (hby : N * 4 ≤ 536870912) (hC : kc + 1 ≤ C) (hS' : ks + N ≤ S) (k : Ek ids ad b0 d C S y (pc + 3) ls (.ref (h0 + es.length) :: st) h0 (es ++ [.inl (ids 4, N, .inr (.inr (.inr (.inr (fun _ => none)))))]) (kc + 1) (ks + N) fs) : Ek ids ad b0 d C S y pc ls (.int n :: st) h0 es kc ks fs := by
  intro p l e R s m args below meth c H locs D lsA X hl hk
  obtain ⟨hx, hb, hr, hml, hown, hts, hlk, hnm, ⟨r1, r2, r3, r4⟩, hB, ⟨b1, b2⟩, hPW, hS⟩ := X
  have hz0 := hPW.2
  refine va_newq hx hb (ho ▸ hown) (hts _ hw) hB.2.2.2.2 hB.1 hPW.1 wE_D (ek_self hS) (fun q hq => by show h0 ≤ q; omega) hn hN hby (by omega) (by omega) hd (fun q cA H1 hK1 hP1 hD1 hS1 => ?_)
  have ec : cA = ids 4 := ra_eq (hK1.2 5 (cA, .object "WithoutE$Text") rfl).2 (hB.1.2 4 _ rfl).2
  refine w_sz (fun hz => ?_)
  obtain ⟨rfl, hPW1⟩ := ek_push hPW hP1 hD1 (by omega)
  rw [ec] at hPW1
  exact k p l e R s m args below meth c H1 locs D lsA ⟨hx, hb, hr, hml, hown, hts, hlk, hnm, ⟨r1, r2, r3, r4⟩, hB, ⟨b1, b2⟩, hPW1, ek_tr hS hS1⟩ hl (by rw [List.length_append, List.length_singleton]; omega)
def ek_NW (own : String) (idx ci : Nat) (f0 : List Value) : Prop := ∃ (C : String) (T : u_T) (N : Nat) (ty : Nat → FieldType), ev_cl[ci]? = some (C, T, N) ∧ (∀ w ∈ u_ws C T N, w ∈ ev_T) ∧ (∀ k, k < N → parseFieldDescriptor (T k).2.2.1 = some (ty k)) ∧ Cond.classLink own idx C ∈ ev_T ∧ Cond.instantiable C N ∈ ev_T ∧ Cond.initialized C ∈ ev_T ∧ (∀ j, j < N → defaultValue (ty j) = vp_V f0 j) ∧ f0.length = N
theorem ek_new {idx ci : Nat} {f0 : List Value} (hd : decode y.2.1 pc = .ok (.new idx, 3)) (hw : ek_NW y.1.cls idx ci f0) (hC : kc + 1 ≤ C) (hS' : ks + f0.length ≤ S) (k : Ek ids ad b0 d C S y (pc + 3) ls (.ref (h0 + es.length) :: st) h0 (es ++ [.inr (ci, f0)]) (kc + 1) (ks + f0.length) fs) : Ek ids ad b0 d C S y pc ls st h0 es kc ks fs := by
  intro p l e R s m args below meth c H locs D lsA X hl hk
  obtain ⟨hx, hb, hr, hml, hown, hts, hlk, hnm, ⟨r1, r2, r3, r4⟩, hB, ⟨b1, b2⟩, hPW, hS⟩ := X
  obtain ⟨cC, T, N, ty, w1, w2, w3, w4, w5, w6, w7, rfl⟩ := hw
  have hz0 := hPW.2
  refine va_new hx hb hts w2 ty w3 hown (hts _ w4) (hts _ w5) (hts _ w6) hB.1 hPW.1 wE_D (ek_self hS) (fun q hq => by show h0 ≤ q; omega) w1 w7 (by omega) (by omega) hd (fun q H1 hP1 hD1 hS1 => ?_)
  refine w_sz (fun hz => ?_)
  obtain ⟨rfl, hPW1⟩ := ek_push hPW hP1 hD1 (by omega)
  exact k p l e R s m args below meth c H1 locs D lsA ⟨hx, hb, hr, hml, hown, hts, hlk, hnm, ⟨r1, r2, r3, r4⟩, hB, ⟨b1, b2⟩, hPW1, ek_tr hS hS1⟩ hl (by rw [List.length_append, List.length_singleton]; omega)
theorem ek_put {idx ci i j : Nat} {ty : FieldType} {f0 : List Value} {v : Value} (hd : decode y.2.1 pc = .ok (.putfield idx, 3)) (hf : ev_FP y.1.cls idx ci j ty) (he : es[i]? = some (.inr (ci, f0))) (hj : j < f0.length) (hn : narrow ty v = v) (hfit : fits ty v = true) (k : Ek ids ad b0 d C S y (pc + 3) ls st h0 (es.set i (.inr (ci, f0.set j v))) kc ks fs) : Ek ids ad b0 d C S y pc ls (v :: .ref (h0 + i) :: st) h0 es kc ks fs := by
  intro p l e R s m args below meth c H locs D lsA X hl hk
  obtain ⟨hx, hb, hr, hml, hown, hts, hlk, hnm, rr, hB, ⟨b1, b2⟩, hPW, hS⟩ := X
  obtain ⟨cC, T, N, ty0, w1, w2, w3, w4, w5, w6, w7, w8⟩ := hf
  have hz0 := hPW.2
  refine va_put hx hb hts w3 ty0 w5 w6 hown hB.1 hPW.1 wE_D (ek_self hS) i (wE_at he) w1 j w2 (hts _ w4) (fun _ h => h) w7 w8 hn hfit hj hd (fun H1 locs1 hP1 hD1 hS1 => ?_)
  refine w_sz (fun hz => ?_)
  exact k p l e R s m args below meth c H1 locs1 D lsA ⟨hx, hb, hr, hml, hown, hts, hlk, hnm, rr, hB, ⟨b1, b2⟩, ek_set hPW hP1 hS1.1 (by omega), ek_tr hS hS1⟩ hl (by rw [List.length_set]; exact hk)
def ek_FF (own : String) (idx ci k : Nat) (ty : FieldType) : Prop := ∃ (C : String) (T : u_T) (N : Nat) (ty0 : Nat → FieldType), ev_cl[ci]? = some (C, T, N) ∧ k < N ∧ (∀ w ∈ u_ws C T N, w ∈ ev_T) ∧ Cond.fieldLink own idx (T k).1 (T k).2.1 (T k).2.2.1 ∈ ev_T ∧ (∀ k, k < N → parseFieldDescriptor (T k).2.2.1 = some (ty0 k)) ∧ (∀ a, a < N → ∀ b, b < N → a ≠ b → (T a).2.1 ≠ (T b).2.1) ∧ (T k).2.2.2 = true ∧ (T k).1 = own ∧ parseFieldDescriptor (T k).2.2.1 = some ty
theorem ek_putF {idx ci i j : Nat} {ty : FieldType} {f0 : List Value} {v : Value} (hd : decode y.2.1 pc = .ok (.putfield idx, 3)) (hf : ek_FF y.1.cls idx ci j ty) (he : es[i]? = some (.inr (ci, f0))) (hj : j < f0.length) (hn : narrow ty v = v) (hfit : fits ty v = true) (k : Ek ids ad b0 d C S y (pc + 3) ls st h0 (es.set i (.inr (ci, f0.set j v))) kc ks fs) : Ek ids ad b0 d C S y pc ls (v :: .ref (h0 + i) :: st) h0 es kc ks fs := by
  intro p l e R s m args below meth c H locs D lsA X hl hk
  obtain ⟨hx, hb, hr, hml, hown, hts, hlk, hnm, rr, hB, ⟨b1, b2⟩, hPW, hS⟩ := X
  obtain ⟨cC, T, N, ty0, w1, w2, w3, w4, w5, w6, w7, w8, w9⟩ := hf
  have hz0 := hPW.2
  refine va_putF hx hb hts w3 ty0 w5 w6 hown hB.1 hPW.1 wE_D (ek_self hS) i (wE_at he) w1 j w2 (hts _ w4) (fun _ h => h) w7 hnm w8 w9 hn hfit hj hd (fun H1 locs1 hP1 hD1 hS1 => ?_)
  refine w_sz (fun hz => ?_)
  exact k p l e R s m args below meth c H1 locs1 D lsA ⟨hx, hb, hr, hml, hown, hts, hlk, hnm, rr, hB, ⟨b1, b2⟩, ek_set hPW hP1 hS1.1 (by omega), ek_tr hS hS1⟩ hl (by rw [List.length_set]; exact hk)
theorem ek_get {idx ci i j : Nat} {f0 : List Value} {v : Value} (hd : decode y.2.1 pc = .ok (.getfield idx, 3)) (hf : ev_FL y.1.cls idx ci j) (he : es[i]? = some (.inr (ci, f0))) (hv : f0[j]? = some v) (k : Ek ids ad b0 d C S y (pc + 3) ls (v :: st) h0 es kc ks fs) : Ek ids ad b0 d C S y pc ls (.ref (h0 + i) :: st) h0 es kc ks fs := by
  intro p l e R s m args below meth c H locs D lsA X hl hk
  have kk := k p l e R s m args below meth c H locs D lsA X hl hk
  obtain ⟨hx, hb, hr, hml, hown, hts, hlk, hnm, rr, hB, ⟨b1, b2⟩, hPW, hS⟩ := X
  obtain ⟨cC, T, N, w1, w2, w3, w4⟩ := hf
  exact va_get hx hb hts w3 hown hB.1 hPW.1 i (wE_at he) w1 j w2 (hts _ w4) (fun _ h => h) hv hd kk
theorem ek_iast {i n : Nat} {f : Nat → Int32} {j x : Int32} (hd : decode y.2.1 pc = .ok (.iastore, 1)) (he : es[i]? = some (.inl (ids 0, n, .inl f))) (hj : vp_in j n) (k : Ek ids ad b0 d C S y (pc + 1) ls st h0 (es.set i (.inl (ids 0, n, .inl (upd f j.toNatClampNeg x)))) kc ks fs) : Ek ids ad b0 d C S y pc ls (.int x :: .int j :: .ref (h0 + i) :: st) h0 es kc ks fs := by
  intro p l e R s m args below meth c H locs D lsA X hl hk
  obtain ⟨hx, hb, hr, hml, hown, hts, hlk, hnm, rr, hB, ⟨b1, b2⟩, hPW, hS⟩ := X
  have hz0 := hPW.2
  refine va_iast hx hb hB.1 hPW.1 wE_D (ek_self hS) i 0 (wE_at he) rfl hj hd (fun H1 locs1 hP1 hD1 hS1 => ?_)
  refine w_sz (fun hz => ?_)
  exact k p l e R s m args below meth c H1 locs1 D lsA ⟨hx, hb, hr, hml, hown, hts, hlk, hnm, rr, hB, ⟨b1, b2⟩, ek_set hPW hP1 hS1.1 (by omega), ek_tr hS hS1⟩ hl (by rw [List.length_set]; exact hk)
theorem ek_aast {i n iv ci : Nat} {f : Nat → Option Nat} {j : Int32} {f0 : List Value} {T : u_T} {N : Nat} (hd : decode y.2.1 pc = .ok (.aastore, 1)) (he : es[i]? = some (.inl (ids 4, n, .inr (.inr (.inr (.inr f)))))) (hv : es[iv]? = some (.inr (ci, f0))) (hc : ev_cl[ci]? = some ("WithoutE$Text", T, N)) (hj : vp_in j n) (k : Ek ids ad b0 d C S y (pc + 1) ls st h0 (es.set i (.inl (ids 4, n, .inr (.inr (.inr (.inr (va_up f j.toNatClampNeg (some (h0 + iv))))))))) kc ks fs) : Ek ids ad b0 d C S y pc ls (.ref (h0 + iv) :: .int j :: .ref (h0 + i) :: st) h0 es kc ks fs := by
  intro p l e R s m args below meth c H locs D lsA X hl hk
  obtain ⟨hx, hb, hr, hml, hown, hts, hlk, hnm, rr, hB, ⟨b1, b2⟩, hPW, hS⟩ := X
  have hz0 := hPW.2
  refine va_astq hx hb hB.1 hPW.1 wE_D (ek_self hS) i 4 iv ci (wE_at he) rfl (wE_at hv) hc hj hd (fun H1 locs1 hP1 hD1 hS1 => ?_)
  refine w_sz (fun hz => ?_)
  exact k p l e R s m args below meth c H1 locs1 D lsA ⟨hx, hb, hr, hml, hown, hts, hlk, hnm, rr, hB, ⟨b1, b2⟩, ek_set hPW hP1 hS1.1 (by omega), ek_tr hS hS1⟩ hl (by rw [List.length_set]; exact hk)
theorem ek_vret (hd : decode y.2.1 pc = .ok (.return_, 1)) (hr0 : y.2.2.2 = none) (hC : kc ≤ C) (hS' : ks ≤ S) : Ek ids ad b0 d C S y pc ls [] h0 es kc ks es := by
  intro p l e R s m args below meth c H locs D lsA X hl hk
  obtain ⟨hx, hb, hr, hml, hown, hts, hlk, hnm, rr, hB, ⟨b1, b2⟩, hPW, hS⟩ := X
  refine W.widen hC hS' ?_
  exact W.vret hx hb (hr.trans hr0) (fun t ht hW => ⟨⟨(), rfl, trivial, by show PW D h0 es t.heap; rw [ht]; exact hPW⟩, hS.F ht⟩) hS.2.2 hd (hlocks := hlk)
end
