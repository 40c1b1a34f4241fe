theorem ev_X.mem {L : List ev_C} {d : Nat} {y : ev_Y} {M M' : ev_Mem} {p : Program} {R : Room} {s : State} {m : MethodId} {args : Array Value} {meth : Method} {c : Code} {H H' : Heap} {locs locs' : List Loc} {D : va_G} {ad : Nat → Nat} {ids : Nat → ClassId} (X : ev_X L d y M p R s m args meth c H locs D ad ids) (hP : va_P D ev_cl (ev_ws L ad ids M') H') (hS : va_S (ev_A L ad) s.heap H' locs') : ev_X L d y M' p R s m args meth c H' locs' D ad ids := by
  obtain ⟨h1, h2, h3, h4, h5, h6, h7, h8, h9, -, h11, -, h13⟩ := X
  exact ⟨h1, h2, h3, h4, h5, h6, h7, h8, h9, hP, h11, hS, h13⟩
/-- a field's link: by its class's number and its place there -/
def ev_FL (own : String) (idx ci k : Nat) : Prop := ∃ (C : String) (T : u_T) (N : Nat), ev_cl[ci]? = some (C, T, N) ∧ k < N ∧ (∀ w ∈ u_ws C T N, w ∈ ev_T) ∧ Cond.fieldLink own idx (T k).1 (T k).2.1 (T k).2.2.1 ∈ ev_T
def ev_FP (own : String) (idx ci k : Nat) (ty : FieldType) : Prop := ∃ (C : String) (T : u_T) (N : Nat) (ty0 : Nat → FieldType), ev_cl[ci]? = some (C, T, N) ∧ k < N ∧ (∀ w ∈ u_ws C T N, w ∈ ev_T) ∧ Cond.fieldLink own idx (T k).1 (T k).2.1 (T k).2.2.1 ∈ ev_T ∧ (∀ k, k < N → parseFieldDescriptor (T k).2.2.1 = some (ty0 k)) ∧ (∀ a, a < N → ∀ b, b < N → a ≠ b → (T a).2.1 ≠ (T b).2.1) ∧ (T k).2.2.2 = false ∧ parseFieldDescriptor (T k).2.2.1 = some ty

theorem ev_get {L : List ev_C} {d : Nat} {y : ev_Y} {pc : Nat} {ls : List (Option Value)} {st : List Value} {M : ev_Mem} {Q : Option Value → ev_Mem → Prop} {idx ci j k : Nat} {fks : List (Nat × Nat)} {q : Nat × Nat} {w : Value} (hd : decode y.2.1 pc = .ok (.getfield idx, 3)) (hf : ev_FL y.1.cls idx ci j) (hL : L[k]? = some (.inr (ci, fks))) (hj : fks[j]? = some q) (hw : ∀ ad, ev_cv ad w = ev_fv ad M k j q) (kk : Ev L d y (pc + 3) ls (w :: st) M Q) : Ev L d y (pc) ls (.ref k :: st) M Q := by
  intro p l e R s m args below meth c H locs D ad ids lsA X hl
  obtain ⟨C, T, N, h1, h2, h3, h4⟩ := hf
  have k2 := kk p l e R s m args below meth c H locs D ad ids lsA X hl
  obtain ⟨hx, hb, hr, hml, hown, hts, hlk, hrm, hK, hP, hJ, hS, hSt⟩ := X
  refine va_get (v := ev_cv ad w) (a := ad k) (C := C) (T := T) (N := N) hx hb hts h3 hown hK hP k (fs := fks.mapIdx (fun j q => ev_fv ad M k j q)) (ev_at hL) h1 j h2 (hts _ h4) (fun _ h => h) ?_ hd k2
  rw [List.getElem?_mapIdx, hj, hw ad]
  rfl
theorem ev_getI {L : List ev_C} {d : Nat} {y : ev_Y} {pc : Nat} {ls : List (Option Value)} {st : List Value} {M : ev_Mem} {Q : Option Value → ev_Mem → Prop} {idx ci j k r : Nat} {fks : List (Nat × Nat)} (hd : decode y.2.1 pc = .ok (.getfield idx, 3)) (hf : ev_FL y.1.cls idx ci j) (hL : L[k]? = some (.inr (ci, fks))) (hj : fks[j]? = some (0, r)) (kk : Ev L d y (pc + 3) ls (.int (M.1 k j) :: st) M Q) : Ev L d y (pc) ls (.ref k :: st) M Q := ev_get hd hf hL hj (fun _ => rfl) kk
theorem ev_getJ {L : List ev_C} {d : Nat} {y : ev_Y} {pc : Nat} {ls : List (Option Value)} {st : List Value} {M : ev_Mem} {Q : Option Value → ev_Mem → Prop} {idx ci j k r : Nat} {fks : List (Nat × Nat)} (hd : decode y.2.1 pc = .ok (.getfield idx, 3)) (hf : ev_FL y.1.cls idx ci j) (hL : L[k]? = some (.inr (ci, fks))) (hj : fks[j]? = some (1, r)) (kk : Ev L d y (pc + 3) ls (.long (M.2 k j) :: st) M Q) : Ev L d y (pc) ls (.ref k :: st) M Q := ev_get hd hf hL hj (fun _ => rfl) kk
theorem ev_getA {L : List ev_C} {d : Nat} {y : ev_Y} {pc : Nat} {ls : List (Option Value)} {st : List Value} {M : ev_Mem} {Q : Option Value → ev_Mem → Prop} {idx ci j k r : Nat} {fks : List (Nat × Nat)} (hd : decode y.2.1 pc = .ok (.getfield idx, 3)) (hf : ev_FL y.1.cls idx ci j) (hL : L[k]? = some (.inr (ci, fks))) (hj : fks[j]? = some (2, r)) (kk : Ev L d y (pc + 3) ls (.ref r :: st) M Q) : Ev L d y (pc) ls (.ref k :: st) M Q := ev_get hd hf hL hj (fun _ => rfl) kk
theorem ev_getD {L : List ev_C} {d : Nat} {y : ev_Y} {pc : Nat} {ls : List (Option Value)} {st : List Value} {M : ev_Mem} {Q : Option Value → ev_Mem → Prop} {idx ci j k r : Nat} {fks : List (Nat × Nat)} (hd : decode y.2.1 pc = .ok (.getfield idx, 3)) (hf : ev_FL y.1.cls idx ci j) (hL : L[k]? = some (.inr (ci, fks))) (hj : fks[j]? = some (3, r)) (h0 : ¬ M.1 k j = 0) (kk : Ev L d y (pc + 3) ls (.ref (M.1 k j).toNatClampNeg :: st) M Q) : Ev L d y (pc) ls (.ref k :: st) M Q := ev_get hd hf hL hj (fun _ => by show _ = ev_fv _ _ _ _ _; simp only [ev_fv, if_neg h0]; rfl) kk
theorem ev_put_e {ad : Nat → Nat} {ids : Nat → ClassId} {ci j k : Nat} {M M2 : ev_Mem} {fks : List (Nat × Nat)} {q : Nat × Nat} {w : Value} (hj : fks[j]? = some q) (hv : ev_fv ad M2 k j q = w) (ho2 : ∀ (i : Nat) (q : Nat × Nat), i ≠ j → ev_fv ad M2 k i q = ev_fv ad M k i q) : (Sum.inr (ci, (fks.mapIdx (fun j q => ev_fv ad M k j q)).set j w) : va_E) = ev_ent ad ids M2 k (.inr (ci, fks)) := by
  have h : (fks.mapIdx (fun j q => ev_fv ad M k j q)).set j w = fks.mapIdx (fun j q => ev_fv ad M2 k j q) := by
    apply List.ext_getElem?
    intro i
    have hjl := (List.getElem?_eq_some_iff.mp hj).1
    by_cases ei : i = j
    · subst ei
      rw [List.getElem?_set_self (by rw [List.length_mapIdx]; exact hjl), List.getElem?_mapIdx, hj, Option.map_some, hv]
    · rw [List.getElem?_set_ne (Ne.symm ei), List.getElem?_mapIdx, List.getElem?_mapIdx]
      exact congrArg (fun f => Option.map f fks[i]?) (funext fun q2 => (ho2 i q2 ei).symm)
  unfold ev_ent
  exact congrArg (fun z => (Sum.inr (ci, z) : va_E)) h
theorem ev_put {L : List ev_C} {d : Nat} {y : ev_Y} {pc : Nat} {ls : List (Option Value)} {st : List Value} {M : ev_Mem} {Q : Option Value → ev_Mem → Prop} {idx ci j k : Nat} {fks : List (Nat × Nat)} {q : Nat × Nat} {v : Value} {ty : FieldType} {M2 : ev_Mem} (hd : decode y.2.1 pc = .ok (.putfield idx, 3)) (hf : ev_FP y.1.cls idx ci j ty) (hL : L[k]? = some (.inr (ci, fks))) (hj : fks[j]? = some q) (hn : ∀ ad, narrow ty (ev_cv ad v) = ev_cv ad v) (hfit : ∀ ad, fits ty (ev_cv ad v) = true) (hv : ∀ ad, ev_fv ad M2 k j q = ev_cv ad v) (ho : ∀ (i : Nat) (x : ev_C) (ad : Nat → Nat) (ids : Nat → ClassId), i ≠ k → ev_ent ad ids M2 i x = ev_ent ad ids M i x) (ho2 : ∀ (i : Nat) (q : Nat × Nat) (ad : Nat → Nat), i ≠ j → ev_fv ad M2 k i q = ev_fv ad M k i q) (kk : Ev L d y (pc + 3) ls (st) M2 Q) : Ev L d y (pc) ls (v :: .ref k :: st) M Q := by
  intro p l e R s m args below meth c H locs D ad ids lsA X hl
  obtain ⟨C, T, N, ty0, h1, h2, h3, h4, h5, h6, h7, h8⟩ := hf
  have X0 := X
  obtain ⟨hx, hb, hr, hml, hown, hts, hlk, hrm, hK, hP, hJ, hS, hSt⟩ := X
  have hjl := (List.getElem?_eq_some_iff.mp hj).1
  refine va_put (v := ev_cv ad v) (a := ad k) (ty := ty) (C := C) (T := T) (N := N) hx hb hts h3 ty0 h5 h6 hown hK hP (ev_D hJ) hS k (fs := fks.mapIdx (fun j q => ev_fv ad M k j q)) (ev_at hL) h1 j h2 (hts _ h4) (fun _ h => h) h7 h8 (hn ad) (hfit ad) (by rw [List.length_mapIdx]; exact hjl) hd (fun H1 locs1 hP1 _ hS1 => ?_)
  have e9 := ev_put_e (ci := ci) (ids := ids) (M := M) (M2 := M2) (k := k) (w := ev_cv ad v) hj (hv ad) (fun i q hi => ho2 i q ad hi)
  rw [e9, ev_set hL (fun i x hi _ => ho i x ad ids hi)] at hP1
  exact kk p l e R s m args below meth c H1 locs1 D ad ids lsA (X0.mem hP1 hS1) hl
theorem ev_wr_fv {ad : Nat → Nat} {M : ev_Mem} {k j i : Nat} {v : Int32} {q : Nat × Nat} (h : i ≠ j) : ev_fv ad (ev_wr M k j v) k i q = ev_fv ad M k i q := by
  have e : (ev_wr M k j v).1 k i = M.1 k i := by simp [ev_wr, h]
  unfold ev_fv
  rw [e]
  rfl
theorem ev_wl_fv {ad : Nat → Nat} {M : ev_Mem} {k j i : Nat} {v : Int64} {q : Nat × Nat} (h : i ≠ j) : ev_fv ad (ev_wl M k j v) k i q = ev_fv ad M k i q := by
  have e : (ev_wl M k j v).2 k i = M.2 k i := by simp [ev_wl, h]
  unfold ev_fv
  rw [e]
  rfl
theorem ev_wr_s (M : ev_Mem) (k j : Nat) (v : Int32) : (ev_wr M k j v).1 k j = v := by simp [ev_wr]
theorem ev_wl_s (M : ev_Mem) (k j : Nat) (v : Int64) : (ev_wl M k j v).2 k j = v := by simp [ev_wl]
theorem ev_putI {L : List ev_C} {d : Nat} {y : ev_Y} {pc : Nat} {ls : List (Option Value)} {st : List Value} {M : ev_Mem} {Q : Option Value → ev_Mem → Prop} {idx ci j k r : Nat} {fks : List (Nat × Nat)} {v : Int32} {ty : FieldType} (hd : decode y.2.1 pc = .ok (.putfield idx, 3)) (hf : ev_FP y.1.cls idx ci j ty) (hL : L[k]? = some (.inr (ci, fks))) (hj : fks[j]? = some (0, r)) (hn : narrow ty (.int v) = .int v) (hfit : fits ty (.int v) = true) (kk : Ev L d y (pc + 3) ls (st) (ev_wr M k j v) Q) : Ev L d y (pc) ls (.int v :: .ref k :: st) M Q := ev_put hd hf hL hj (fun _ => hn) (fun _ => hfit) (fun _ => by show Value.int _ = Value.int _; rw [ev_wr_s]) (fun i x ad ids hi => ev_ent_wr hi x) (fun i q ad hi => ev_wr_fv hi) kk
theorem ev_putJ {L : List ev_C} {d : Nat} {y : ev_Y} {pc : Nat} {ls : List (Option Value)} {st : List Value} {M : ev_Mem} {Q : Option Value → ev_Mem → Prop} {idx ci j k r : Nat} {fks : List (Nat × Nat)} {v : Int64} (hd : decode y.2.1 pc = .ok (.putfield idx, 3)) (hf : ev_FP y.1.cls idx ci j .long) (hL : L[k]? = some (.inr (ci, fks))) (hj : fks[j]? = some (1, r)) (kk : Ev L d y (pc + 3) ls (st) (ev_wl M k j v) Q) : Ev L d y (pc) ls (.long v :: .ref k :: st) M Q := ev_put hd hf hL hj (fun _ => rfl) (fun _ => rfl) (fun _ => by show Value.long _ = Value.long _; rw [ev_wl_s]) (fun i x ad ids hi => ev_ent_wl hi x) (fun i q ad hi => ev_wl_fv hi) kk
theorem ev_putD {L : List ev_C} {d : Nat} {y : ev_Y} {pc : Nat} {ls : List (Option Value)} {st : List Value} {M : ev_Mem} {Q : Option Value → ev_Mem → Prop} {idx ci j k r t : Nat} {fks : List (Nat × Nat)} {C : String} (hd : decode y.2.1 pc = .ok (.putfield idx, 3)) (hf : ev_FP y.1.cls idx ci j (.object C)) (hL : L[k]? = some (.inr (ci, fks))) (hj : fks[j]? = some (3, r)) (h0 : 0 < t) (ht : t < 2 ^ 31) (kk : Ev L d y (pc + 3) ls (st) (ev_wr M k j (nI t)) Q) : Ev L d y (pc) ls (.ref t :: .ref k :: st) M Q := ev_put hd hf hL hj (fun _ => rfl) (fun _ => rfl) (fun ad => by show (if (ev_wr M k j (nI t)).1 k j = 0 then Value.null else .ref (ad ((ev_wr M k j (nI t)).1 k j).toNatClampNeg)) = _; rw [ev_wr_s, if_neg (nI_ne0 h0 ht), nI_clamp ht]; rfl) (fun i x ad ids hi => ev_ent_wr hi x) (fun i q ad hi => ev_wr_fv hi) kk
theorem ev_iald {L : List ev_C} {d : Nat} {y : ev_Y} {pc : Nat} {ls : List (Option Value)} {st : List Value} {M : ev_Mem} {Q : Option Value → ev_Mem → Prop} {k n : Nat} {kid : Nat → Nat} {i : Int32} (hd : decode y.2.1 pc = .ok (.iaload, 1)) (hL : L[k]? = some (.inl (0, n, 0, kid))) (hi : vp_in i n) (kk : Ev L d y (pc + 1) ls (.int (M.1 k i.toNatClampNeg) :: st) M Q) : Ev L d y (pc) ls (.int i :: .ref k :: st) M Q := fun p l e R s m args below meth c H locs D ad ids lsA X hl => va_iald X.1 X.2.1 X.2.2.2.2.2.2.2.2.1 X.2.2.2.2.2.2.2.2.2.1 k 0 (f := M.1 k) (ev_at hL) rfl hi hd (kk p l e R s m args below meth c H locs D ad ids lsA X hl)
theorem ev_zald {L : List ev_C} {d : Nat} {y : ev_Y} {pc : Nat} {ls : List (Option Value)} {st : List Value} {M : ev_Mem} {Q : Option Value → ev_Mem → Prop} {k n : Nat} {kid : Nat → Nat} {i : Int32} (hd : decode y.2.1 pc = .ok (.baload, 1)) (hL : L[k]? = some (.inl (1, n, 0, kid))) (hi : vp_in i n) (kk : Ev L d y (pc + 1) ls (.int (M.1 k i.toNatClampNeg) :: st) M Q) : Ev L d y (pc) ls (.int i :: .ref k :: st) M Q := fun p l e R s m args below meth c H locs D ad ids lsA X hl => va_zald X.1 X.2.1 X.2.2.2.2.2.2.2.2.1 X.2.2.2.2.2.2.2.2.2.1 k 1 (f := M.1 k) (ev_at hL) rfl hi hd (kk p l e R s m args below meth c H locs D ad ids lsA X hl)
theorem ev_lald {L : List ev_C} {d : Nat} {y : ev_Y} {pc : Nat} {ls : List (Option Value)} {st : List Value} {M : ev_Mem} {Q : Option Value → ev_Mem → Prop} {k n : Nat} {kid : Nat → Nat} {i : Int32} (hd : decode y.2.1 pc = .ok (.laload, 1)) (hL : L[k]? = some (.inl (2, n, 1, kid))) (hi : vp_in i n) (kk : Ev L d y (pc + 1) ls (.long (M.2 k i.toNatClampNeg) :: st) M Q) : Ev L d y (pc) ls (.int i :: .ref k :: st) M Q := fun p l e R s m args below meth c H locs D ad ids lsA X hl => va_lald X.1 X.2.1 X.2.2.2.2.2.2.2.2.1 X.2.2.2.2.2.2.2.2.2.1 k 2 (f := M.2 k) (ev_at hL) rfl hi hd (kk p l e R s m args below meth c H locs D ad ids lsA X hl)
theorem ev_up (M : ev_Mem) (k j : Nat) (v : Int32) : upd (M.1 k) j v = (ev_wr M k j v).1 k := funext fun b => by simp [upd, ev_wr]
theorem ev_upL (M : ev_Mem) (k j : Nat) (v : Int64) : vp_updL (M.2 k) j v = (ev_wl M k j v).2 k := funext fun b => by simp [vp_updL, ev_wl]
theorem ev_iast {L : List ev_C} {d : Nat} {y : ev_Y} {pc : Nat} {ls : List (Option Value)} {st : List Value} {M : ev_Mem} {Q : Option Value → ev_Mem → Prop} {k n : Nat} {kid : Nat → Nat} {i v : Int32} (hd : decode y.2.1 pc = .ok (.iastore, 1)) (hL : L[k]? = some (.inl (0, n, 0, kid))) (hi : vp_in i n) (kk : Ev L d y (pc + 1) ls (st) (ev_wr M k i.toNatClampNeg v) Q) : Ev L d y (pc) ls (.int v :: .int i :: .ref k :: st) M Q := by
  intro p l e R s m args below meth c H locs D ad ids lsA X hl
  refine va_iast X.1 X.2.1 X.2.2.2.2.2.2.2.2.1 X.2.2.2.2.2.2.2.2.2.1 (ev_D X.2.2.2.2.2.2.2.2.2.2.1) X.2.2.2.2.2.2.2.2.2.2.2.1 k 0 (f := M.1 k) (ev_at hL) rfl hi hd (fun H1 locs1 hP1 _ hS1 => ?_)
  rw [ev_up] at hP1
  have hP2 := ev_set (ad := ad) (ids := ids) (M := M) (M' := ev_wr M k i.toNatClampNeg v) hL (fun i x hi _ => ev_ent_wr hi x)
  exact kk p l e R s m args below meth c H1 locs1 D ad ids lsA (X.mem (hP2 ▸ hP1) hS1) hl
theorem ev_zast {L : List ev_C} {d : Nat} {y : ev_Y} {pc : Nat} {ls : List (Option Value)} {st : List Value} {M : ev_Mem} {Q : Option Value → ev_Mem → Prop} {k n : Nat} {kid : Nat → Nat} {i v : Int32} (hd : decode y.2.1 pc = .ok (.bastore, 1)) (hL : L[k]? = some (.inl (1, n, 0, kid))) (hi : vp_in i n) (hv : vp_nar .boolean v = v) (kk : Ev L d y (pc + 1) ls (st) (ev_wr M k i.toNatClampNeg v) Q) : Ev L d y (pc) ls (.int v :: .int i :: .ref k :: st) M Q := by
  intro p l e R s m args below meth c H locs D ad ids lsA X hl
  refine va_zast X.1 X.2.1 X.2.2.2.2.2.2.2.2.1 X.2.2.2.2.2.2.2.2.2.1 (ev_D X.2.2.2.2.2.2.2.2.2.2.1) X.2.2.2.2.2.2.2.2.2.2.2.1 k 1 (f := M.1 k) (ev_at hL) rfl hi hd (fun H1 locs1 hP1 _ hS1 => ?_)
  rw [hv, ev_up] at hP1
  have hP2 := ev_set (ad := ad) (ids := ids) (M := M) (M' := ev_wr M k i.toNatClampNeg v) hL (fun i x hi _ => ev_ent_wr hi x)
  exact kk p l e R s m args below meth c H1 locs1 D ad ids lsA (X.mem (hP2 ▸ hP1) hS1) hl
theorem ev_last {L : List ev_C} {d : Nat} {y : ev_Y} {pc : Nat} {ls : List (Option Value)} {st : List Value} {M : ev_Mem} {Q : Option Value → ev_Mem → Prop} {k n : Nat} {kid : Nat → Nat} {i : Int32} {v : Int64} (hd : decode y.2.1 pc = .ok (.lastore, 1)) (hL : L[k]? = some (.inl (2, n, 1, kid))) (hi : vp_in i n) (kk : Ev L d y (pc + 1) ls (st) (ev_wl M k i.toNatClampNeg v) Q) : Ev L d y (pc) ls (.long v :: .int i :: .ref k :: st) M Q := by
  intro p l e R s m args below meth c H locs D ad ids lsA X hl
  refine va_last X.1 X.2.1 X.2.2.2.2.2.2.2.2.1 X.2.2.2.2.2.2.2.2.2.1 (ev_D X.2.2.2.2.2.2.2.2.2.2.1) X.2.2.2.2.2.2.2.2.2.2.2.1 k 2 (f := M.2 k) (ev_at hL) rfl hi hd (fun H1 locs1 hP1 _ hS1 => ?_)
  rw [ev_upL] at hP1
  have hP2 := ev_set (ad := ad) (ids := ids) (M := M) (M' := ev_wl M k i.toNatClampNeg v) hL (fun i x hi _ => ev_ent_wl hi x)
  exact kk p l e R s m args below meth c H1 locs1 D ad ids lsA (X.mem (hP2 ▸ hP1) hS1) hl
theorem ev_aald {L : List ev_C} {d : Nat} {y : ev_Y} {pc : Nat} {ls : List (Option Value)} {st : List Value} {M : ev_Mem} {Q : Option Value → ev_Mem → Prop} {k n t : Nat} {ty : FieldType} {kid : Nat → Nat} {i : Int32} (hd : decode y.2.1 pc = .ok (.aaload, 1)) (hL : L[k]? = some (.inl (t, n, 2, kid))) (ht : ∀ ids, (ev_tys ids)[t]? = some (ids t, ty)) (hty : ty.isReference = true) (hi : vp_in i n) (kk : Ev L d y (pc + 1) ls (.ref (kid i.toNatClampNeg) :: st) M Q) : Ev L d y (pc) ls (.int i :: .ref k :: st) M Q := by
  intro p l e R s m args below meth c H locs D ad ids lsA X hl
  have hlt : i.toNatClampNeg < n := Nat.not_le.mp fun q => hi (Or.inr q)
  have ha := ev_at (ad := ad) (ids := ids) (M := M) hL
  exact W.aald (v := va_rf (some (ad (kid i.toNatClampNeg)))) (ty := ty) X.1 X.2.1 (X.2.2.2.2.2.2.2.2.2.1 k _ ha) ((X.2.2.2.2.2.2.2.2.1.2 t _ (ht ids)).1 n (fun j => va_rf (some (ad (kid j))))) hty (fun q => by cases q) (by show ¬ (i < 0 ∨ (arrV _ _ _).slots.size ≤ _); rw [arrV_size]; exact hi) (by show (arrV _ _ _).slots[_]? = _; rw [arrV_read _ _ hlt]) rfl rfl hd (kk p l e R s m args below meth c H locs D ad ids lsA X hl)
theorem ev_alen {L : List ev_C} {d : Nat} {y : ev_Y} {pc : Nat} {ls : List (Option Value)} {st : List Value} {M : ev_Mem} {Q : Option Value → ev_Mem → Prop} {k n t q : Nat} {ty : FieldType} {kid : Nat → Nat} {v : Int32} (hd : decode y.2.1 pc = .ok (.arraylength, 1)) (hL : L[k]? = some (.inl (t, n, 0, kid))) (ht : ∀ ids, (ev_tys ids)[t]? = some (ids t, ty)) (hv : Int32.ofNat n = v) (kk : Ev L d y (pc + 1) ls (.int v :: st) M Q) : Ev L d y (pc) ls (.ref k :: st) M Q := fun p l e R s m args below meth c H locs D ad ids lsA X hl => va_alen X.1 X.2.1 X.2.2.2.2.2.2.2.2.1 X.2.2.2.2.2.2.2.2.2.1 k t (x := (n, .inl (M.1 k))) (ev_at hL) (ht ids) hv hd (kk p l e R s m args below meth c H locs D ad ids lsA X hl)
def ev_cp (M : ev_Mem) (k0 k1 sp dp n : Nat) : ev_Mem := (fun a b => if a = k1 then va_cpy (M.1 k0) (M.1 k1) sp dp n b else M.1 a b, M.2)
theorem ev_copy {L : List ev_C} {d : Nat} {y : ev_Y} {pc : Nat} {ls : List (Option Value)} {st : List Value} {M : ev_Mem} {Q : Option Value → ev_Mem → Prop} {idx k0 k1 n0 n1 : Nat} {kid0 kid1 : Nat → Nat} {sp dp n : Int32} (hd : decode y.2.1 pc = .ok (.invokestatic idx, 3)) (hw : Cond.methodLink y.1.cls idx arraycopyName ∈ ev_T ∧ Cond.native arraycopyName ∈ ev_T ∧ Cond.static arraycopyName ∈ ev_T ∧ Cond.initialized "java/lang/System" ∈ ev_T) (h0 : L[k0]? = some (.inl (0, n0, 0, kid0))) (h1 : L[k1]? = some (.inl (0, n1, 0, kid1))) (hd1 : 1 ≤ d) (hst : st = []) (s1 : ¬ sp < 0) (s2 : ¬ dp < 0) (s3 : ¬ n < 0) (s4 : sp.toNatClampNeg + n.toNatClampNeg ≤ n0) (s5 : dp.toNatClampNeg + n.toNatClampNeg ≤ n1) (kk : Ev L d y (pc + 3) ls (st) (ev_cp M k0 k1 sp.toNatClampNeg dp.toNatClampNeg n.toNatClampNeg) Q) : Ev L d y (pc) ls (.int n :: .int dp :: .ref k1 :: .int sp :: .ref k0 :: st) M Q := by
  intro p l e R s m args below meth c H locs D ad ids lsA X hl
  subst hst
  have X0 := X
  obtain ⟨hx, hb, hr, hml, hown, hts, hlk, ⟨hr1, hr2⟩, hK, hP, hJ, hS, hSt⟩ := X
  have h64 : nativeFrameWords "java/lang/System" "arraycopy" 5 + 11 ≤ 64 := by decide +kernel
  refine va_copyi (a := ad k1) (a0 := ad k0) hx hb (hml.trans hl.1.symm) hown (hts _ hw.1) (hts _ hw.2.1) (hts _ hw.2.2.1) (hts _ hw.2.2.2) hK hP (ev_D hJ) hS k0 k1 0 0 (f := M.1 k0) (g := M.1 k1) (ty := .int) (ev_at h0) (ev_at h1) rfl rfl rfl s1 s2 s3 s4 s5 (fun _ _ => rfl) (by omega) (by simp only [List.map_nil, List.sum_nil]; omega) hd (fun H1 locs1 hP1 _ hS1 => ?_)
  have ho : ∀ (i : Nat) (x : ev_C), i ≠ k1 → L[i]? = some x → ev_ent ad ids (ev_cp M k0 k1 sp.toNatClampNeg dp.toNatClampNeg n.toNatClampNeg) i x = ev_ent ad ids M i x := by
    intro i x hi _
    have e1 : (ev_cp M k0 k1 sp.toNatClampNeg dp.toNatClampNeg n.toNatClampNeg).1 i = M.1 i := funext fun b => by simp [ev_cp, hi]
    have e2 : (ev_cp M k0 k1 sp.toNatClampNeg dp.toNatClampNeg n.toNatClampNeg).2 = M.2 := rfl
    have f : ∀ (j2 : Nat) (q : Nat × Nat), ev_fv ad (ev_cp M k0 k1 sp.toNatClampNeg dp.toNatClampNeg n.toNatClampNeg) i j2 q = ev_fv ad M i j2 q := fun j2 q => by unfold ev_fv; rw [e1, e2]
    unfold ev_ent
    split <;> simp only [e1, e2, f]
  have e3 : va_cpy (M.1 k0) (M.1 k1) sp.toNatClampNeg dp.toNatClampNeg n.toNatClampNeg = (ev_cp M k0 k1 sp.toNatClampNeg dp.toNatClampNeg n.toNatClampNeg).1 k1 := funext fun b => by simp [ev_cp]
  rw [e3] at hP1
  have hP2 := ev_set (ad := ad) (ids := ids) (M := M) (M' := ev_cp M k0 k1 sp.toNatClampNeg dp.toNatClampNeg n.toNatClampNeg) h1 ho
  exact kk p l e R s m args below meth c H1 locs1 D ad ids lsA (X0.mem (hP2 ▸ hP1) hS1) hl
theorem ev_good (y : ev_Y) (hc : Cond.code y.1 y.2.1 y.2.2.1 y.2.2.2 ∈ ev_T) : GoodIn ev_T (Cond.code y.1 y.2.1 y.2.2.1 y.2.2.2 :: ev_T) := by
  have g : ∀ w ∈ ev_T, w ∈ ev_T ∧ ((w.onTables && w.keeps) = true ∨ ∃ ty, w = .arrayClass ty) := fun w hw => ⟨hw, good_of_word (List.mem_filter.mp hw).2⟩
  intro w hw
  rcases List.mem_cons.mp hw with rfl | h
  · exact g _ hc
  · exact g _ h
theorem ev_blind {L : List ev_C} {D : va_G} {ad : Nat → Nat} {ids : Nat → ClassId} {as : List Value} {M : ev_Mem} : FrameBlind (ev_Pc L D ad ids as M) := by
  intro a U g mk q
  obtain ⟨q0, qP, qK, qJ, qS⟩ := q
  exact ⟨q0, qP, va_K.moved (u := U) (U := U.calling g mk a) (Vm.Alike.refl U.vm) qK, qJ, ev_Sbl g mk a qS⟩
/-- behind a call -/
theorem ev_back {L : List ev_C} {d : Nat} {y : ev_Y} {pc : Nat} {ls : List (Option Value)} {st st0 : List Value} {M : ev_Mem} {Q Q2 : Option Value → ev_Mem → Prop} {p : Program} {l : Launch} {e : Env} {R : Room} {s : State} {m : MethodId} {args : Array Value} {below : List Frame} {meth : Method} {c : Code} {H : Heap} {locs : List Loc} {D : va_G} {ad : Nat → Nat} {ids : Nat → ClassId} {lsA : Array Slot} {a : Array Value} (X : ev_X L d y M p R s m args meth c H locs D ad ids) (hl : ev_l lsA y.2.2.1 ad ls)
    (hr : va_Run p l e R s m args below meth c H locs 0 0 0 0 (F0 m pc lsA (st0.map (ev_cv ad))) (st.map (ev_cv ad)) (ev_Q L D ad ids Q2 a) (ev_A L ad))
    (kk : ∀ (r : Option Value) (M' : ev_Mem), Q2 r M' → Ev L d y (pc + 3) ls (r.toList ++ st) M' Q) : W p l e R s m args below meth c H locs 0 0 (MQ below (ev_Q L D ad ids Q) args s 0 0 (ev_A L ad)) (F0 m pc lsA (st0.map (ev_cv ad))) := by
  intro T hT X1
  obtain ⟨v, st₀, t, T', L1, h0, X', hL, e1, e2, ⟨⟨r, M', hv, hq, hP⟩, hz, hk⟩, stp⟩ := hr T hT X1
  cases hv
  rw [h0] at hz hk
  have hS := X.2.2.2.2.2.2.2.2.2.2.2.1
  have hS1 : va_S (ev_A L ad) s.heap T'.heap (locs ++ L1) := ⟨Nat.le_trans hS.1 (by rw [e1]; exact hz), fun q h1 h2 => by rw [e1, hk q (Nat.lt_of_lt_of_le h1 hS.1) h2]; exact hS.2.1 q h1 h2, fun q hq' => by
    rcases List.mem_append.mp hq' with h | h
    · exact hS.2.2 q h
    · exact hL q h⟩
  obtain ⟨t2, a1, b1⟩ := kk r M' hq p l e R s m args below meth c T'.heap (locs ++ L1) D ad ids lsA (X.mem (by rw [e1]; exact hP) hS1) hl T' rfl X'
  refine ⟨t2, stp t2 ?_, b1⟩
  have e9 : (r.map (ev_cv ad)).toList ++ st.map (ev_cv ad) = (r.toList ++ st).map (ev_cv ad) := by cases r <;> rfl
  rw [e9]
  exact a1
def ev_LB (y : ev_Y) (n : Nat) : Prop := Cond.initialized y.1.cls ∈ ev_T ∧ Cond.code y.1 y.2.1 y.2.2.1 y.2.2.2 ∈ ev_T ∧ (y.1.cls ≠ "java/lang/invoke/MethodHandle" ∧ y.1.cls ≠ "java/lang/invoke/VarHandle" ∧ (parseMethodDescriptor y.1.desc).map (fun d => d.parameters.length) = some n) ∧ y.2.2.1 ≤ 45
def ev_LS (own : String) (idx : Nat) (y : ev_Y) (n : Nat) : Prop := ev_LB y n ∧ Cond.methodLink own idx y.1 ∈ ev_T ∧ Cond.static y.1 ∈ ev_T
def ev_LV (own : String) (idx : Nat) (y : ev_Y) (n : Nat) : Prop := ev_LB y n ∧ Cond.methodLink own idx y.1 ∈ ev_T ∧ Cond.instanceMethod y.1 ∈ ev_T ∧ Cond.selects y.1.cls y.1 y.1 ∈ ev_T
def ev_LN (own : String) (idx : Nat) (y : ev_Y) (n : Nat) (host : String) : Prop := ev_LB y n ∧ Cond.methodLinkNest own idx y.1 host ∈ ev_N ∧ Cond.static y.1 ∈ ev_T
theorem ev_room {st : List Value} {ad : Nat → Nat} {m : MethodId} {pc : Nat} {lsA : Array Slot} {st0 : List Value} (h : (st.map fun v => v.category).sum ≤ 8) : 2 * (F0 m pc lsA st0).monitorRoom + ((st.map (ev_cv ad)).map fun v => v.category).sum ≤ 8 := by
  rw [ev_cats]
  exact lv_room h

theorem ev_callS {L : List ev_C} {d : Nat} {y : ev_Y} {pc : Nat} {ls : List (Option Value)} {st : List Value} {M : ev_Mem} {Q : Option Value → ev_Mem → Prop} {Q2 : Option Value → ev_Mem → Prop} {idx n : Nat} {z : ev_Y} (as : List Value) (hd : decode y.2.1 pc = .ok (.invokestatic idx, 3)) (hw : ev_LS y.1.cls idx z n) (hn : as.length = n) (hst : (st.map fun v => v.category).sum ≤ 8) (hc : Cl L d z as M Q2) (kk : ∀ (r : Option Value) (M' : ev_Mem), Q2 r M' → Ev L (d + 1) y (pc + 3) ls (r.toList ++ st) M' Q) : Ev L (d + 1) y (pc) ls (as.reverse ++ st) M Q := by
  intro p l e R s m args below meth c H locs D ad ids lsA X hl
  have X0 := X
  obtain ⟨hx, hb, hr, hml, hown, hts, hlk, ⟨hr1, hr2⟩, hK, hP, hJ, hS, hSt⟩ := X
  obtain ⟨⟨w1, w2, w3, w4⟩, w5, w6⟩ := hw
  have cb := callB_of (R := R) (rm := ev_rm d) (own := y.1.cls) (index := idx) (mc := 0) (ms := 0) n hts (ev_good z w2) rfl rfl rfl (hts _ w1) (hts _ w5) w3 ⟨by show d + 1 ≤ _; omega, by show _ + 64 * d ≤ _; omega⟩
  refine ev_back X0 hl (va_runS (As := as.map (ev_cv ad)) (rest := st.map (ev_cv ad)) ⟨hx, hb, hml, hown, hts⟩ (hc l D ad ids) ⟨cb, hts _ w6⟩ ⟨ev_blind, fun U hU hW => ⟨rfl, by rw [hU]; exact hP, va_K.moved hW.alike hK, hJ, ev_Sgo hW hU hS hSt⟩⟩ rfl (by rw [List.length_map]; exact hn) hl.1 (by show List.map _ _ = _; rw [List.map_append, List.map_reverse]) (ev_room hst) hd ⟨Nat.zero_le _, Nat.zero_le _⟩) kk
theorem ev_callN {L : List ev_C} {d : Nat} {y : ev_Y} {pc : Nat} {ls : List (Option Value)} {st : List Value} {M : ev_Mem} {Q : Option Value → ev_Mem → Prop} {Q2 : Option Value → ev_Mem → Prop} {idx n : Nat} {z : ev_Y} {host : String} (as : List Value) (hd : decode y.2.1 pc = .ok (.invokestatic idx, 3)) (hw : ev_LN y.1.cls idx z n host) (hn : as.length = n) (hst : (st.map fun v => v.category).sum ≤ 8) (hc : Cl L d z as M Q2) (kk : ∀ (r : Option Value) (M' : ev_Mem), Q2 r M' → Ev L (d + 1) y (pc + 3) ls (r.toList ++ st) M' Q) : Ev L (d + 1) y (pc) ls (as.reverse ++ st) M Q := by
  intro p l e R s m args below meth c H locs D ad ids lsA X hl
  have X0 := X
  obtain ⟨hx, hb, hr, hml, hown, hts, hlk, ⟨hr1, hr2⟩, hK, hP, hJ, hS, hSt⟩ := X
  obtain ⟨⟨w1, w2, w3, w4⟩, w5, w6⟩ := hw
  have cb := va_cnB (R := R) (rm := ev_rm d) (own := y.1.cls) (host := host) (index := idx) (mc := 0) (ms := 0) n hts (ev_good z w2) rfl rfl rfl (hSt.1 _ w5) (hts _ w1) w3 ⟨by show d + 1 ≤ _; omega, by show _ + 64 * d ≤ _; omega⟩
  refine ev_back X0 hl (va_runSN (As := as.map (ev_cv ad)) (rest := st.map (ev_cv ad)) ⟨hx, hb, hml, hown, hts⟩ (hc l D ad ids) ⟨cb, hts _ w6, trivial⟩ ⟨ev_blind, fun U hU hW => ⟨rfl, by rw [hU]; exact hP, va_K.moved hW.alike hK, hJ, ev_Sgo hW hU hS hSt⟩⟩ rfl (by rw [List.length_map]; exact hn) hl.1 (by show List.map _ _ = _; rw [List.map_append, List.map_reverse]) (ev_room hst) hd ⟨Nat.zero_le _, Nat.zero_le _⟩) kk
theorem ev_callV {L : List ev_C} {d : Nat} {y : ev_Y} {pc : Nat} {ls : List (Option Value)} {st : List Value} {M : ev_Mem} {Q : Option Value → ev_Mem → Prop} {Q2 : Option Value → ev_Mem → Prop} {idx n k ci N : Nat} {T : u_T} {fks : List (Nat × Nat)} {z : ev_Y} (as : List Value) (hd : decode y.2.1 pc = .ok (.invokevirtual idx, 3)) (hw : ev_LV y.1.cls idx z n) (hL : L[k]? = some (.inr (ci, fks))) (hC : ev_cl[ci]? = some (z.1.cls, T, N)) (hn : as.length = n) (hst : (st.map fun v => v.category).sum ≤ 8) (hc : Cl L d z (.ref k :: as) M Q2) (kk : ∀ (r : Option Value) (M' : ev_Mem), Q2 r M' → Ev L (d + 1) y (pc + 3) ls (r.toList ++ st) M' Q) : Ev L (d + 1) y (pc) ls (as.reverse ++ .ref k :: st) M Q := by
  intro p l e R s m args below meth c H locs D ad ids lsA X hl
  have X0 := X
  obtain ⟨hx, hb, hr, hml, hown, hts, hlk, ⟨hr1, hr2⟩, hK, hP, hJ, hS, hSt⟩ := X
  obtain ⟨⟨w1, w2, w3, w4⟩, w5, w6, w7⟩ := hw
  have cb := callB_of (R := R) (rm := ev_rm d) (own := y.1.cls) (index := idx) (mc := 0) (ms := 0) n hts (ev_good z w2) rfl rfl rfl (hts _ w1) (hts _ w5) w3 ⟨by show d + 1 ≤ _; omega, by show _ + 64 * d ≤ _; omega⟩
  refine ev_back X0 hl (va_runV (As := as.map (ev_cv ad)) (rest := st.map (ev_cv ad)) (b := ad k) (C := z.1.cls) ⟨hx, hb, hml, hown, hts⟩ (hc l D ad ids) ⟨cb, hts _ w6, hts _ w7⟩ ⟨ev_blind, va_recv hK hP hC (ev_at hL), fun U hU hW => ⟨rfl, by rw [hU]; exact hP, va_K.moved hW.alike hK, hJ, ev_Sgo hW hU hS hSt⟩⟩ rfl (by rw [List.length_map]; exact hn) hl.1 (by show List.map _ _ = _; rw [List.map_append, List.map_reverse]; rfl) (ev_room hst) hd ⟨Nat.zero_le _, Nat.zero_le _⟩) kk
theorem ev_gs_lon {L : List ev_C} {d : Nat} {y : ev_Y} {pc : Nat} {ls : List (Option Value)} {st : List Value} {M : ev_Mem} {Q : Option Value → ev_Mem → Prop} (hd : decode y.2.1 pc = .ok (.getstatic 184, 3)) (hy : y.1.cls = "WithoutE$Reader") (kk : Ev L d y (pc + 3) ls (.ref 1000 :: st) M Q) : Ev L d y (pc) ls (st) M Q := fun p l e R s m args below meth c H locs D ad ids lsA X hl => va_getsN (own := "WithoutE$Reader") (host := "WithoutE") X.1 X.2.1 X.2.2.2.2.2.2.2.2.2.2.2.2.2.1.1 X.2.2.2.2.2.2.2.2.2.2.2.1 (hy ▸ X.2.2.2.2.1) (va_Nw.use rfl (X.2.2.2.2.2.2.2.2.2.2.2.2.1 (Cond.fieldLinkNest "WithoutE$Reader" 184 "WithoutE" "LAW_OF_NAME" "[I" "WithoutE") (by simp [ev_N]))) (fun _ h => h) hd (kk p l e R s m args below meth c H locs D ad ids lsA X hl)
theorem ev_ga_lon {L : List ev_C} {d : Nat} {y : ev_Y} {pc : Nat} {ls : List (Option Value)} {st : List Value} {M : ev_Mem} {Q : Option Value → ev_Mem → Prop} {i : Int32} (hd : decode y.2.1 pc = .ok (.iaload, 1)) (hi : vp_in i 12) (kk : Ev L d y (pc + 1) ls (.int (ev_lon i.toNatClampNeg) :: st) M Q) : Ev L d y (pc) ls (.int i :: .ref 1000 :: st) M Q := fun p l e R s m args below meth c H locs D ad ids lsA X hl => va_ti X.1 X.2.1 X.2.2.2.2.2.2.2.2.2.2.2.2.2.1.2 X.2.2.2.2.2.2.2.2.2.2.2.1 hi rfl hd (kk p l e R s m args below meth c H locs D ad ids lsA X hl)
theorem ev_gl_lon {L : List ev_C} {d : Nat} {y : ev_Y} {pc : Nat} {ls : List (Option Value)} {st : List Value} {M : ev_Mem} {Q : Option Value → ev_Mem → Prop} (hd : decode y.2.1 pc = .ok (.arraylength, 1)) (kk : Ev L d y (pc + 1) ls (.int 12 :: st) M Q) : Ev L d y (pc) ls (.ref 1000 :: st) M Q := fun p l e R s m args below meth c H locs D ad ids lsA X hl => va_tlen X.1 X.2.1 X.2.2.2.2.2.2.2.2.2.2.2.2.2.1.2 X.2.2.2.2.2.2.2.2.2.2.2.1 (v := 12) (by decide) hd (kk p l e R s m args below meth c H locs D ad ids lsA X hl)
theorem ev_gs_eok {L : List ev_C} {d : Nat} {y : ev_Y} {pc : Nat} {ls : List (Option Value)} {st : List Value} {M : ev_Mem} {Q : Option Value → ev_Mem → Prop} (hd : decode y.2.1 pc = .ok (.getstatic 36, 3)) (hy : y.1.cls = "WithoutE$Sound") (kk : Ev L d y (pc + 3) ls (.ref 1001 :: st) M Q) : Ev L d y (pc) ls (st) M Q := fun p l e R s m args below meth c H locs D ad ids lsA X hl => va_getsN (own := "WithoutE$Sound") (host := "WithoutE") X.1 X.2.1 X.2.2.2.2.2.2.2.2.2.2.2.2.2.2.1.1 X.2.2.2.2.2.2.2.2.2.2.2.1 (hy ▸ X.2.2.2.2.1) (va_Nw.use rfl (X.2.2.2.2.2.2.2.2.2.2.2.2.1 (Cond.fieldLinkNest "WithoutE$Sound" 36 "WithoutE" "EXTRA_OF_KIND" "[I" "WithoutE") (by simp [ev_N]))) (fun _ h => h) hd (kk p l e R s m args below meth c H locs D ad ids lsA X hl)
theorem ev_ga_eok {L : List ev_C} {d : Nat} {y : ev_Y} {pc : Nat} {ls : List (Option Value)} {st : List Value} {M : ev_Mem} {Q : Option Value → ev_Mem → Prop} {i : Int32} (hd : decode y.2.1 pc = .ok (.iaload, 1)) (hi : vp_in i 4) (kk : Ev L d y (pc + 1) ls (.int (ev_eok i.toNatClampNeg) :: st) M Q) : Ev L d y (pc) ls (.int i :: .ref 1001 :: st) M Q := fun p l e R s m args below meth c H locs D ad ids lsA X hl => va_ti X.1 X.2.1 X.2.2.2.2.2.2.2.2.2.2.2.2.2.2.1.2 X.2.2.2.2.2.2.2.2.2.2.2.1 hi rfl hd (kk p l e R s m args below meth c H locs D ad ids lsA X hl)
theorem ev_gl_eok {L : List ev_C} {d : Nat} {y : ev_Y} {pc : Nat} {ls : List (Option Value)} {st : List Value} {M : ev_Mem} {Q : Option Value → ev_Mem → Prop} (hd : decode y.2.1 pc = .ok (.arraylength, 1)) (kk : Ev L d y (pc + 1) ls (.int 4 :: st) M Q) : Ev L d y (pc) ls (.ref 1001 :: st) M Q := fun p l e R s m args below meth c H locs D ad ids lsA X hl => va_tlen X.1 X.2.1 X.2.2.2.2.2.2.2.2.2.2.2.2.2.2.1.2 X.2.2.2.2.2.2.2.2.2.2.2.1 (v := 4) (by decide) hd (kk p l e R s m args below meth c H locs D ad ids lsA X hl)
theorem ev_ldcS {L : List ev_C} {d : Nat} {y : ev_Y} {pc : Nat} {ls : List (Option Value)} {st : List Value} {M : ev_Mem} {Q : Option Value → ev_Mem → Prop} {n i : Nat} {tx : String} (hd : decode y.2.1 pc = .ok (.ldc n, 2)) (hy : y.1.cls = "WithoutE$Reader") (hi : ev_sx[i]? = some (n, tx)) (kk : Ev L d y (pc + 2) ls (.ref (1010 + i) :: st) M Q) : Ev L d y (pc) ls (st) M Q := fun p l e R s m args below meth c H locs D ad ids lsA X hl => va_ldcS (tx := tx) X.1 X.2.1 (hy ▸ X.2.2.2.2.1) (X.2.2.2.2.2.2.2.2.2.2.2.2.2.2.2.1 i _ hi) hd (kk p l e R s m args below meth c H locs D ad ids lsA X hl)
theorem Ev.mono {L : List ev_C} {d : Nat} {y : ev_Y} {pc : Nat} {ls : List (Option Value)} {st : List Value} {M : ev_Mem} {Q Q2 : Option Value → ev_Mem → Prop} (h : Ev L d y pc ls st M Q) (hq : ∀ r M', Q r M' → Q2 r M') : Ev L d y pc ls st M Q2 := by
  intro p l e R s m args below meth c H locs D ad ids lsA X hl T hT X1
  obtain ⟨t, a, o, b1, b2, ⟨⟨r, M', c1, c2, c3⟩, c4⟩, b4⟩ := h p l e R s m args below meth c H locs D ad ids lsA X hl T hT X1
  exact ⟨t, a, o, b1, b2, ⟨⟨r, M', c1, hq r M' c2, c3⟩, c4⟩, b4⟩
theorem Ev.up {L : List ev_C} {d d2 : Nat} {y : ev_Y} {pc : Nat} {ls : List (Option Value)} {st : List Value} {M : ev_Mem} {Q : Option Value → ev_Mem → Prop} (h : Ev L d y pc ls st M Q) (hd : d ≤ d2) : Ev L d2 y pc ls st M Q := by
  intro p l e R s m args below meth c H locs D ad ids lsA X hl
  obtain ⟨hx, hb, hr, hml, hown, hts, hlk, ⟨hr1, hr2⟩, hK, hP, hJ, hS, hSt⟩ := X
  exact h p l e R s m args below meth c H locs D ad ids lsA ⟨hx, hb, hr, hml, hown, hts, hlk, ⟨by omega, by omega⟩, hK, hP, hJ, hS, hSt⟩ hl
