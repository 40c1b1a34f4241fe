/-! THE ABSTRACT MACHINE: 'Ev L d y pc ls st M Q': the method y, at pc, with locals ls, stack st and memory M, comes to its end, with Q of its answer and the memory there. Memory is whole numbers by cell and place (M.1), longs (M.2); references are numbers of cells of the layout L, which never changes. -/
abbrev ev_Mem : Type := (Nat → Nat → Int32) × (Nat → Nat → Int64)
abbrev ev_Y : Type := MethodName × ByteArray × Nat × Option FieldType
abbrev ev_C : Type := (Nat × Nat × Nat × (Nat → Nat)) ⊕ (Nat × List (Nat × Nat))
def ev_wr (M : ev_Mem) (k j : Nat) (v : Int32) : ev_Mem := (fun a b => if a = k ∧ b = j then v else M.1 a b, M.2)
def ev_wl (M : ev_Mem) (k j : Nat) (v : Int64) : ev_Mem := (M.1, fun a b => if a = k ∧ b = j then v else M.2 a b)
def ev_cv (ad : Nat → Nat) : Value → Value
  | .ref k => .ref (ad k)
  | v => v
theorem ev_cat (ad : Nat → Nat) (v : Value) : (ev_cv ad v).category = v.category := by cases v <;> rfl
theorem ev_cats (ad : Nat → Nat) (st : List Value) : ((st.map (ev_cv ad)).map fun v => v.category) = st.map fun v => v.category := by
  rw [List.map_map]
  exact List.map_congr_left (fun v _ => ev_cat ad v)
def ev_fv (ad : Nat → Nat) (M : ev_Mem) (k j : Nat) (q : Nat × Nat) : Value := match q.1 with
  | 0 => .int (M.1 k j)
  | 1 => .long (M.2 k j)
  | 2 => .ref (ad q.2)
  | _ => if M.1 k j = 0 then .null else .ref (ad (M.1 k j).toNatClampNeg)
def ev_ent (ad : Nat → Nat) (ids : Nat → ClassId) (M : ev_Mem) (k : Nat) (c : ev_C) : va_E := match c with
  | .inl (t, n, 0, _) => .inl (ids t, n, .inl (M.1 k))
  | .inl (t, n, 1, _) => .inl (ids t, n, .inr (.inl (M.2 k)))
  | .inl (t, n, _ + 2, kid) => .inl (ids t, n, .inr (.inr (.inr (.inr (fun j => some (ad (kid j)))))))
  | .inr (ci, fks) => .inr (ci, fks.mapIdx (fun j q => ev_fv ad M k j q))
def ev_ws (L : List ev_C) (ad : Nat → Nat) (ids : Nat → ClassId) (M : ev_Mem) : va_W := L.mapIdx (fun k c => (ad k, ev_ent ad ids M k c))
theorem ev_at {L : List ev_C} {ad : Nat → Nat} {ids : Nat → ClassId} {M : ev_Mem} {k : Nat} {c : ev_C} (h : L[k]? = some c) : (ev_ws L ad ids M)[k]? = some (ad k, ev_ent ad ids M k c) := by
  unfold ev_ws
  rw [List.getElem?_mapIdx, h]
  rfl
theorem ev_len {L : List ev_C} {ad : Nat → Nat} {ids : Nat → ClassId} {M : ev_Mem} : (ev_ws L ad ids M).length = L.length := by
  unfold ev_ws
  rw [List.length_mapIdx]
def ev_A (L : List ev_C) (ad : Nat → Nat) : Nat → Prop := fun q => ∃ k, k < L.length ∧ q = ad k
def ev_J (L : List ev_C) (ad : Nat → Nat) : Prop := ∀ i j : Nat, i < L.length → j < L.length → ad i = ad j → i = j
theorem ev_D {L : List ev_C} {ad : Nat → Nat} {ids : Nat → ClassId} {M : ev_Mem} (h : ev_J L ad) : va_D (ev_A L ad) (ev_ws L ad ids M) := by
  have key : ∀ (k : Nat) (q : Nat × va_E), (ev_ws L ad ids M)[k]? = some q → k < L.length ∧ q.1 = ad k := by
    intro k q hk
    have hl : k < L.length := by rw [← ev_len (ad := ad) (ids := ids) (M := M)]; exact (List.getElem?_eq_some_iff.mp hk).1
    refine ⟨hl, ?_⟩
    rw [ev_at (List.getElem?_eq_getElem hl)] at hk
    cases hk
    rfl
  refine ⟨fun i j x y hi hj hxy => ?_, fun k q hk => ⟨k, (key k q hk).1, (key k q hk).2⟩⟩
  obtain ⟨h1, h2⟩ := key i x hi
  obtain ⟨h3, h4⟩ := key j y hj
  exact h i j h1 h3 (by rw [← h2, ← h4]; exact hxy)
theorem ev_set {L : List ev_C} {ad : Nat → Nat} {ids : Nat → ClassId} {M M' : ev_Mem} {k : Nat} {c : ev_C} (h : L[k]? = some c) (ho : ∀ (i : Nat) (x : ev_C), i ≠ k → L[i]? = some x → ev_ent ad ids M' i x = ev_ent ad ids M i x) : (ev_ws L ad ids M).set k (ad k, ev_ent ad ids M' k c) = ev_ws L ad ids M' := by
  apply List.ext_getElem?
  intro i
  have hkl : k < (ev_ws L ad ids M).length := by rw [ev_len]; exact (List.getElem?_eq_some_iff.mp h).1
  by_cases e : i = k
  · subst e
    rw [List.getElem?_set_self hkl, ev_at h]
  · rw [List.getElem?_set_ne (Ne.symm e)]
    cases hx : L[i]? with
    | none =>
      have hn : L.length ≤ i := List.getElem?_eq_none_iff.mp hx
      rw [List.getElem?_eq_none (by rw [ev_len]; exact hn), List.getElem?_eq_none (by rw [ev_len]; exact hn)]
    | some x => rw [ev_at hx, ev_at hx, ho i x e hx]
theorem ev_ent_wr {ad : Nat → Nat} {ids : Nat → ClassId} {M : ev_Mem} {k i j : Nat} {v : Int32} (h : i ≠ k) (x : ev_C) : ev_ent ad ids (ev_wr M k j v) i x = ev_ent ad ids M i x := by
  have e : (ev_wr M k j v).1 i = M.1 i := funext fun b => by simp [ev_wr, h]
  have e2 : (ev_wr M k j v).2 = M.2 := rfl
  have f : ∀ (j2 : Nat) (q : Nat × Nat), ev_fv ad (ev_wr M k j v) i j2 q = ev_fv ad M i j2 q := fun j2 q => by unfold ev_fv; rw [e, e2]
  unfold ev_ent
  split <;> simp only [e, e2, f]
theorem ev_ent_wl {ad : Nat → Nat} {ids : Nat → ClassId} {M : ev_Mem} {k i j : Nat} {v : Int64} (h : i ≠ k) (x : ev_C) : ev_ent ad ids (ev_wl M k j v) i x = ev_ent ad ids M i x := by
  have e : (ev_wl M k j v).2 i = M.2 i := funext fun b => by simp [ev_wl, h]
  have e2 : (ev_wl M k j v).1 = M.1 := rfl
  have f : ∀ (j2 : Nat) (q : Nat × Nat), ev_fv ad (ev_wl M k j v) i j2 q = ev_fv ad M i j2 q := fun j2 q => by unfold ev_fv; rw [e, e2]
  unfold ev_ent
  split <;> simp only [e, e2, f]
/-- all words that hold at every call -/
def ev_T : List Cond := lw_tbl.filter goodWord
theorem ev_Tin {w : Cond} (h : w ∈ lw_tbl) (hg : goodWord w = true) : w ∈ ev_T := List.mem_filter.mpr ⟨h, hg⟩
def ev_cl : List vw_C := [(RX0, TX0, 9), (RX1, TX1, 5), (RX2, TX2, 3), (RX3, TX3, 12), (RX4, TX4, 9), (RX5, TX5, 2), (RX6, TX6, 18), (RX7, TX7, 2), (RX8, TX8, 6), (RX9, TX9, 10), (RX10, TX10, 18), (RX11, TX11, 35)]
def ev_tys (ids : Nat → ClassId) : List (ClassId × FieldType) := [(ids 0, .int), (ids 1, .boolean), (ids 2, .long), (ids 3, .array .int), (ids 4, .object "WithoutE$Text")]
/-- nest mates -/
def ev_N : List Cond := [.methodLinkNest "WithoutE$Reader" 157 ⟨"WithoutE", "isSmall", "(I)Z"⟩ "WithoutE", .methodLinkNest "WithoutE$Sound" 29 ⟨"WithoutE", "has", "(II)Z"⟩ "WithoutE", .methodLinkNest "WithoutE$Sound" 57 ⟨"WithoutE", "isLetter", "(I)Z"⟩ "WithoutE", .methodLinkNest "WithoutE$Tape" 19 ⟨"WithoutE", "isSmall", "(I)Z"⟩ "WithoutE", .fieldLinkNest "WithoutE$Reader" 184 "WithoutE" "LAW_OF_NAME" "[I" "WithoutE", .fieldLinkNest "WithoutE$Sound" 36 "WithoutE" "EXTRA_OF_KIND" "[I" "WithoutE"]
def ev_lon (j : Nat) : Int32 := match j with
  | 0 => -1
  | 1 => -1
  | 2 => 0
  | 3 => 0
  | 4 => 0
  | 5 => 0
  | 6 => 0
  | 7 => 1
  | 8 => 1
  | _ => 2
def ev_eok (j : Nat) : Int32 := match j with
  | 0 => 0
  | 1 => 1
  | 2 => 2
  | _ => 4
/-- the texts of String constants, with their places in the pool -/
def ev_sx : List (Nat × String) := [(86, "stiff wears notices word say make lose turn write week"), (172, "uses"), (174, "if"), (206, "not"), (204, "and"), (199, "or"), (190, "then"), (192, "else"), (194, "end"), (182, "day lost kind told long holes extra letter use line total seconds"), (118, "kind"), (127, "sense"), (129, "stiff"), (137, "of"), (139, "look")]
def ev_byt : List (List Int32) := ev_sx.map (fun q => q.2.toList.map (fun ch => Int32.ofNat ch.toNat))
def ev_lens : List Nat := ev_byt.map List.length
/-- a static that is null or a reference: nobody asks which -/
def ev_F (t : Nat) (A : Nat → Prop) (U : State) (H : Heap) : Prop := va_Z "jdk/internal/util/Preconditions" "SIOOBE_FORMATTER" "Ljava/util/function/BiFunction;" .null A U H ∨ va_Z "jdk/internal/util/Preconditions" "SIOOBE_FORMATTER" "Ljava/util/function/BiFunction;" (.ref t) A U H
theorem ev_F.moved {t : Nat} {A : Nat → Prop} {u U : State} {H : Heap} (hvm : u.vm.Alike U.vm) (h : ev_F t A u H) : ev_F t A U H := h.elim (fun q => Or.inl (va_Z.moved hvm q)) (fun q => Or.inr (va_Z.moved hvm q))
theorem ev_F.kept {t : Nat} {A : Nat → Prop} {U : State} {H H1 : Heap} (h : ev_F t A U H) (hq : ∀ a : Nat, a < H.size → ¬ A a → H1[a]? = H[a]?) : ev_F t A U H1 := h.elim (fun q => Or.inl (q.kept hq)) (fun q => Or.inr (q.kept hq))
theorem ev_F.narrow {t : Nat} {A B : Nat → Prop} {U : State} {H : Heap} (h : ev_F t A U H) (hAB : ∀ q, B q → A q) : ev_F t B U H := h.elim (fun q => Or.inl (q.narrow hAB)) (fun q => Or.inr (q.narrow hAB))
def ev_St (ad : Nat → Nat) (A : Nat → Prop) (U : State) : Prop := (∀ (i : Nat) (q : Nat × String), ev_sx[i]? = some q → vk_R "WithoutE$Reader" q.1 q.2 (ad (1010 + i)) U) ∧ vk_S 15 ev_lens ev_byt (fun i => ad (1010 + i)) (fun i => ad (1030 + i)) A U U.heap ∧ va_Z "java/lang/String" "COMPACT_STRINGS" "Z" (.int 1) A U U.heap ∧ ev_F (ad 1002) A U U.heap
def ev_S (ad : Nat → Nat) (A : Nat → Prop) (U : State) : Prop := (∀ w ∈ ev_N, va_Nw w U) ∧ (va_Z "WithoutE" "LAW_OF_NAME" "[I" (.ref (ad 1000)) A U U.heap ∧ va_T .int (ad 1000) 12 (fun j => .int (ev_lon j)) A U U.heap) ∧ (va_Z "WithoutE" "EXTRA_OF_KIND" "[I" (.ref (ad 1001)) A U U.heap ∧ va_T .int (ad 1001) 4 (fun j => .int (ev_eok j)) A U U.heap) ∧ ev_St ad A U
theorem ev_Nw {s U : State} (hW : s.WarmedH U.vm) (h : ∀ w ∈ ev_N, va_Nw w s) : ∀ w ∈ ev_N, va_Nw w U := by
  intro w hw
  have h0 := h w hw
  simp only [ev_N, List.mem_cons, List.not_mem_nil, or_false] at hw
  rcases hw with rfl | rfl | rfl | rfl | rfl | rfl
  · exact va_Nw.warmM hW h0
  · exact va_Nw.warmM hW h0
  · exact va_Nw.warmM hW h0
  · exact va_Nw.warmM hW h0
  · exact va_Nw.warmF hW h0
  · exact va_Nw.warmF hW h0
theorem ev_Sgo {ad : Nat → Nat} {A : Nat → Prop} {s U : State} {H : Heap} {locs : List Loc} (hW : s.WarmedH U.vm) (hh : U.heap = H) (hS : va_S A s.heap H locs) (h : ev_S ad A s) : ev_S ad A U := by
  subst hh
  have hq : ∀ a : Nat, a < s.heap.size → ¬ A a → U.heap[a]? = s.heap[a]? := hS.2.1
  obtain ⟨h1, ⟨h2, h3⟩, ⟨h4, h5⟩, h6, h7, h8, h9⟩ := h
  exact ⟨ev_Nw hW h1, ⟨(h2.moved hW.alike).kept hq, (h3.moved hW.alike).kept hq⟩, ⟨(h4.moved hW.alike).kept hq, (h5.moved hW.alike).kept hq⟩, fun i q hi => (h6 i q hi).warm hW, (h7.moved hW.alike).kept hq, (h8.moved hW.alike).kept hq, ev_F.kept (ev_F.moved hW.alike h9) hq⟩
theorem ev_Sbl {ad : Nat → Nat} {A : Nat → Prop} {U : State} (g : JFrame) (mk : MethodId) (a : Array Value) (h : ev_S ad A U) : ev_S ad A (U.calling g mk a) := by
  obtain ⟨h1, ⟨h2, h3⟩, ⟨h4, h5⟩, h6, h7, h8, h9⟩ := h
  have e : U.vm.Alike (U.calling g mk a).vm := Vm.Alike.refl U.vm
  refine ⟨fun w hw => ?_, ⟨h2.moved e, h3.moved e⟩, ⟨h4.moved e, h5.moved e⟩, fun i q hi => (h6 i q hi).same rfl, h7.moved e, h8.moved e, ev_F.moved e h9⟩
  have h0 := h1 w hw
  simp only [ev_N, List.mem_cons, List.not_mem_nil, or_false] at hw
  rcases hw with rfl | rfl | rfl | rfl | rfl | rfl <;> exact va_Nw.same rfl (show U.vm = (U.calling g mk a).vm from rfl) h0
/-- the locals -/
def ev_l (lsA : Array Slot) (n : Nat) (ad : Nat → Nat) (ls : List (Option Value)) : Prop := lsA.size = n ∧ lv_wf lsA ∧ ls.length = n ∧ ∀ (i : Nat) (v : Value), ls[i]? = some (some v) → lsA[i]? = some (.val (ev_cv ad v))
def ev_c2 (ls : List (Option Value)) (i : Nat) : List (Option Value) := match i with
  | 0 => ls
  | j + 1 => match ls[j]? with
    | some (some (.long _)) => ls.set j none
    | some (some (.double _)) => ls.set j none
    | _ => ls
def ev_s1 (ls : List (Option Value)) (i : Nat) (v : Value) : List (Option Value) := (ev_c2 ls i).set i (some v)
def ev_s2 (ls : List (Option Value)) (i : Nat) (v : Value) : List (Option Value) := ((ev_c2 ls i).set i (some v)).set (i + 1) none
def ev_as (ad : Nat → Nat) (ls : List (Option Value)) : List (Nat × Value) := (List.range ls.length).filterMap (fun j => match ls[j]? with
  | some (some v) => some (j, ev_cv ad v)
  | _ => none)
theorem ev_as_mem {ad : Nat → Nat} {ls : List (Option Value)} {j : Nat} {v : Value} (h : ls[j]? = some (some v)) : (j, ev_cv ad v) ∈ ev_as ad ls := by
  refine List.mem_filterMap.mpr ⟨j, List.mem_range.mpr (List.getElem?_eq_some_iff.mp h).1, ?_⟩
  simp [h]
theorem ev_as_inv {ad : Nat → Nat} {ls : List (Option Value)} {q : Nat × Value} (h : q ∈ ev_as ad ls) : ∃ v, ls[q.1]? = some (some v) ∧ q.2 = ev_cv ad v := by
  obtain ⟨j, -, hj⟩ := List.mem_filterMap.mp h
  cases hx : ls[j]? with
  | none => simp [hx] at hj
  | some o =>
    cases o with
    | none => simp [hx] at hj
    | some v =>
      simp [hx] at hj
      subst hj
      exact ⟨v, hx, rfl⟩
theorem ev_has {lsA : Array Slot} {n : Nat} {ad : Nat → Nat} {ls : List (Option Value)} (h : ev_l lsA n ad ls) : lv_has lsA n (ev_as ad ls) := ⟨h.1, h.2.1, fun q hq => by
  obtain ⟨v, h1, h2⟩ := ev_as_inv hq
  rw [h.2.2.2 _ v h1, h2]⟩
theorem ev_c2_len (ls : List (Option Value)) (i : Nat) : (ev_c2 ls i).length = ls.length := by
  unfold ev_c2
  split
  · rfl
  · split <;> simp
theorem ev_c2_at {ls : List (Option Value)} {i j : Nat} {w : Value} (h : (ev_c2 ls i)[j]? = some (some w)) : ls[j]? = some (some w) ∧ ¬ (j + 1 = i ∧ w.category = 2) := by
  cases i with
  | zero => exact ⟨h, fun q => by omega⟩
  | succ i =>
    simp only [ev_c2] at h
    by_cases e : j = i
    · subst e
      split at h
      · rename_i v hv
        rw [List.getElem?_set_self (List.getElem?_eq_some_iff.mp hv).1] at h
        cases h
      · rename_i v hv
        rw [List.getElem?_set_self (List.getElem?_eq_some_iff.mp hv).1] at h
        cases h
      · rename_i h1 h2
        refine ⟨h, fun q => ?_⟩
        cases w with
        | long x => exact h1 x h
        | double x => exact h2 x h
        | _ => simp [Value.category] at q
    · refine ⟨?_, fun q => by omega⟩
      split at h
      · rw [List.getElem?_set_ne (Ne.symm e)] at h; exact h
      · rw [List.getElem?_set_ne (Ne.symm e)] at h; exact h
      · exact h
theorem ev_st1 {lsA ls' : Array Slot} {n i : Nat} {ad : Nat → Nat} {ls : List (Option Value)} {v : Value} (h : ev_l lsA n ad ls) (h' : lv_has ls' n ((i, ev_cv ad v) :: (ev_as ad ls).filter (fun q => !(q.1 == i) && !(q.1 + 1 == i && q.2.category == 2)))) : ev_l ls' n ad (ev_s1 ls i v) := by
  refine ⟨h'.1, h'.2.1, by rw [ev_s1, List.length_set, ev_c2_len]; exact h.2.2.1, fun j w hj => ?_⟩
  by_cases e : j = i
  · subst e
    have hl : j < (ev_c2 ls j).length := by
      have := (List.getElem?_eq_some_iff.mp hj).1
      simpa [ev_s1] using this
    rw [ev_s1, List.getElem?_set_self hl] at hj
    cases hj
    exact h'.2.2 (j, ev_cv ad v) List.mem_cons_self
  · rw [ev_s1, List.getElem?_set_ne (Ne.symm e)] at hj
    obtain ⟨h1, h2⟩ := ev_c2_at hj
    refine h'.2.2 (j, ev_cv ad w) (List.mem_cons_of_mem _ (List.mem_filter.mpr ⟨ev_as_mem h1, ?_⟩))
    simp only [Bool.and_eq_true, Bool.not_eq_true', beq_eq_false_iff_ne, ne_eq, Bool.and_eq_false_imp, beq_iff_eq]
    exact ⟨e, fun a => by rw [ev_cat]; exact fun b => h2 ⟨a, b⟩⟩
theorem ev_st2 {lsA ls' : Array Slot} {n i : Nat} {ad : Nat → Nat} {ls : List (Option Value)} {v : Value} (h : ev_l lsA n ad ls) (h' : lv_has ls' n ((i, ev_cv ad v) :: (ev_as ad ls).filter (fun q => !(q.1 == i) && (!(q.1 == i + 1) && !(q.1 + 1 == i && q.2.category == 2))))) : ev_l ls' n ad (ev_s2 ls i v) := by
  refine ⟨h'.1, h'.2.1, by rw [ev_s2, List.length_set, List.length_set, ev_c2_len]; exact h.2.2.1, fun j w hj => ?_⟩
  by_cases e2 : j = i + 1
  · subst e2
    have hl : i + 1 < ((ev_c2 ls i).set i (some v)).length := by
      have := (List.getElem?_eq_some_iff.mp hj).1
      simpa [ev_s2] using this
    rw [ev_s2, List.getElem?_set_self hl] at hj
    cases hj
  · rw [ev_s2, List.getElem?_set_ne (Ne.symm e2)] at hj
    by_cases e : j = i
    · subst e
      have hl : j < (ev_c2 ls j).length := by
        have := (List.getElem?_eq_some_iff.mp hj).1
        simpa using this
      rw [List.getElem?_set_self hl] at hj
      cases hj
      exact h'.2.2 (j, ev_cv ad v) List.mem_cons_self
    · rw [List.getElem?_set_ne (Ne.symm e)] at hj
      obtain ⟨h1, h2⟩ := ev_c2_at hj
      refine h'.2.2 (j, ev_cv ad w) (List.mem_cons_of_mem _ (List.mem_filter.mpr ⟨ev_as_mem h1, ?_⟩))
      simp only [Bool.and_eq_true, Bool.not_eq_true', beq_eq_false_iff_ne, ne_eq, Bool.and_eq_false_imp, beq_iff_eq]
      exact ⟨e, e2, fun a => by rw [ev_cat]; exact fun b => h2 ⟨a, b⟩⟩
/-- the machine around a frame -/
def ev_X (L : List ev_C) (d : Nat) (y : ev_Y) (M : ev_Mem) (p : Program) (R : Room) (s : State) (m : MethodId) (args : Array Value) (meth : Method) (c : Code) (H : Heap) (locs : List Loc) (D : va_G) (ad : Nat → Nat) (ids : Nat → ClassId) : Prop :=
  p.tables.exec = Jvm.exec ∧ c.code = y.2.1 ∧ meth.sig.returnType = y.2.2.2 ∧ c.maxLocals = y.2.2.1 ∧ s.vm.findClass y.1.cls = some m.cls ∧ (∀ w ∈ ev_T, w.before args s = true) ∧ meth.locks = false ∧ (d ≤ R.frames ∧ 64 * d ≤ R.locals) ∧ va_K D ev_cl (ev_tys ids) s ∧ va_P D ev_cl (ev_ws L ad ids M) H ∧ ev_J L ad ∧ va_S (ev_A L ad) s.heap H locs ∧ ev_S ad (ev_A L ad) s
/-- a method's end -/
def ev_Q (L : List ev_C) (D : va_G) (ad : Nat → Nat) (ids : Nat → ClassId) (Q : Option Value → ev_Mem → Prop) : Array Value → State → Outcome → State → Prop := fun _ st o t => (∃ (r : Option Value) (M' : ev_Mem), o = .returned (r.map (ev_cv ad)) ∧ Q r M' ∧ va_P D ev_cl (ev_ws L ad ids M') t.heap) ∧ va_F (ev_A L ad) st t
def Ev (L : List ev_C) (d : Nat) (y : ev_Y) (pc : Nat) (ls : List (Option Value)) (st : List Value) (M : ev_Mem) (Q : Option Value → ev_Mem → Prop) : Prop :=
  ∀ (p : Program) (l : Launch) (e : Env) (R : Room) (s : State) (m : MethodId) (args : Array Value) (below : List Frame) (meth : Method) (c : Code) (H : Heap) (locs : List Loc) (D : va_G) (ad : Nat → Nat) (ids : Nat → ClassId) (lsA : Array Slot), ev_X L d y M p R s m args meth c H locs D ad ids → ev_l lsA y.2.2.1 ad ls →
    W p l e R s m args below meth c H locs 0 0 (MQ below (ev_Q L D ad ids Q) args s 0 0 (ev_A L ad)) (F0 m pc lsA (st.map (ev_cv ad)))
def ev_rm (d : Nat) : Room := { frames := d, cells := 0, slots := 0, locals := 64 * d }
def ev_Pc (L : List ev_C) (D : va_G) (ad : Nat → Nat) (ids : Nat → ClassId) (as : List Value) (M : ev_Mem) : Array Value → State → Prop := va_Pc (as.map (ev_cv ad)) (fun U => va_P D ev_cl (ev_ws L ad ids M) U.heap ∧ va_K D ev_cl (ev_tys ids) U ∧ ev_J L ad ∧ ev_S ad (ev_A L ad) U)
/-- a method's contract -/
def Cl (L : List ev_C) (d : Nat) (y : ev_Y) (as : List Value) (M : ev_Mem) (Q : Option Value → ev_Mem → Prop) : Prop :=
  ∀ (l : Launch) (D : va_G) (ad : Nat → Nat) (ids : Nat → ClassId), Met l y.1 (Cond.code y.1 y.2.1 y.2.2.1 y.2.2.2 :: ev_T) (ev_rm d) (ev_Pc L D ad ids as M) (ev_Q L D ad ids Q) 0 0 (ev_A L ad)
def ev_sl (as : List Value) : List (Option Value) := as.flatMap fun v => if v.category = 2 then [some v, none] else [some v]
def ev_en (as : List Value) (n : Nat) : List (Option Value) := ev_sl as ++ List.replicate (n - (ev_sl as).length) none
theorem ev_sl_at (ad : Nat → Nat) : ∀ (as : List Value) (i : Nat) (v : Value), (ev_sl as)[i]? = some (some v) → (lg_sl (as.map (ev_cv ad)))[i]? = some (.val (ev_cv ad v))
  | [], i, v, h => by simp [ev_sl] at h
  | a :: as, i, v, h => by
    have ih := ev_sl_at ad as
    by_cases hc : a.category = 2
    · have e1 : ev_sl (a :: as) = some a :: none :: ev_sl as := by simp [ev_sl, hc]
      have e2 : lg_sl ((a :: as).map (ev_cv ad)) = .val (ev_cv ad a) :: .second :: lg_sl (as.map (ev_cv ad)) := by simp [lg_sl, ev_cat, hc]
      rw [e1] at h
      rw [e2]
      match i, h with
      | 0, h => simp at h; subst h; rfl
      | 1, h => simp at h
      | i + 2, h => exact ih i v (by simpa using h)
    · have e1 : ev_sl (a :: as) = some a :: ev_sl as := by simp [ev_sl, hc]
      have e2 : lg_sl ((a :: as).map (ev_cv ad)) = .val (ev_cv ad a) :: lg_sl (as.map (ev_cv ad)) := by simp [lg_sl, ev_cat, hc]
      rw [e1] at h
      rw [e2]
      match i, h with
      | 0, h => simp at h; subst h; rfl
      | i + 1, h => exact ih i v (by simpa using h)
theorem ev_sl_len (ad : Nat → Nat) (as : List Value) : (lg_sl (as.map (ev_cv ad))).length = (ev_sl as).length := by
  induction as with
  | nil => rfl
  | cons a as ih =>
    by_cases hc : a.category = 2
    · have e1 : ev_sl (a :: as) = some a :: none :: ev_sl as := by simp [ev_sl, hc]
      have e2 : lg_sl ((a :: as).map (ev_cv ad)) = .val (ev_cv ad a) :: .second :: lg_sl (as.map (ev_cv ad)) := by simp [lg_sl, ev_cat, hc]
      rw [e1, e2]; simp [ih]
    · have e1 : ev_sl (a :: as) = some a :: ev_sl as := by simp [ev_sl, hc]
      have e2 : lg_sl ((a :: as).map (ev_cv ad)) = .val (ev_cv ad a) :: lg_sl (as.map (ev_cv ad)) := by simp [lg_sl, ev_cat, hc]
      rw [e1, e2]; simp [ih]
theorem Cl_of {L : List ev_C} {d : Nat} {y : ev_Y} {as : List Value} {M : ev_Mem} {Q : Option Value → ev_Mem → Prop} {ls : List (Option Value)} (hp : plainName y.1.cls = true) (hle : (ev_sl as).length ≤ y.2.2.1) (hls : ev_en as y.2.2.1 = ls) (h : Ev L d y 0 ls [] M Q) : Cl L d y as M Q := by
  subst hls
  intro l D ad ids
  refine Met.ofW (cc := y.2.1) (maxL := y.2.2.1) (ret := y.2.2.2) hp rfl ?_
  intro p e s m args below meth c s₁ B hml hv
  obtain ⟨rfl, hP, hK, hJ, hSt⟩ := hv
  have hts := atoms_spec (ws := Cond.code y.1 y.2.1 y.2.2.1 y.2.2.2 :: ev_T) B.pre
  have hown : s.vm.findClass y.1.cls = some m.cls := findClass_of_methodNamed B.named
  have hl := lv_entry (as.map (ev_cv ad)) (n := y.2.2.1) (by rw [ev_sl_len]; exact hle)
  rw [lg_entry_eq]
  refine h p l e _ s m _ below meth c s.heap [] D ad ids _ ⟨B.exec, B.bytes, B.returns, hml, hown, fun w hw => hts w (List.mem_cons_of_mem _ hw), B.notSynchronized, ⟨Nat.le_refl _, Nat.le_refl _⟩, hK, hP, hJ, va_S.rf, hSt⟩ ⟨hl.1, hl.2.1, ?_, fun i v hi => ?_⟩
  · simp only [ev_en, List.length_append, List.length_replicate]; omega
  · rw [List.getElem?_toArray]
    by_cases hq : i < (ev_sl as).length
    · rw [ev_en, List.getElem?_append_left hq] at hi
      rw [List.getElem?_append_left (by rw [ev_sl_len]; exact hq)]
      exact ev_sl_at ad as i v hi
    · rw [ev_en, List.getElem?_append_right (by omega)] at hi
      rw [List.getElem?_replicate] at hi
      split at hi <;> cases hi

theorem ev_iconst {L : List ev_C} {d : Nat} {y : ev_Y} {pc : Nat} {ls : List (Option Value)} {st : List Value} {M : ev_Mem} {Q : Option Value → ev_Mem → Prop} {n : Int} {v : Int32} (hd : decode y.2.1 pc = .ok (.iconst n, 1)) (hv : Int32.ofInt n = v) (k : Ev L d y (pc + 1) ls (.int v :: st) M Q) : Ev L d y (pc) ls (st) M Q := fun p l e R s m args below meth c H locs D ad ids lsA X hl => lv_iconst X.1 X.2.1 hd hv (k p l e R s m args below meth c H locs D ad ids lsA X hl)
theorem ev_bipush {L : List ev_C} {d : Nat} {y : ev_Y} {pc : Nat} {ls : List (Option Value)} {st : List Value} {M : ev_Mem} {Q : Option Value → ev_Mem → Prop} {n : Int} {v : Int32} (hd : decode y.2.1 pc = .ok (.bipush n, 2)) (hv : (Int8.ofInt n).toInt32 = v) (k : Ev L d y (pc + 2) ls (.int v :: st) M Q) : Ev L d y (pc) ls (st) M Q := fun p l e R s m args below meth c H locs D ad ids lsA X hl => lv_bipush X.1 X.2.1 hd hv (k p l e R s m args below meth c H locs D ad ids lsA X hl)
theorem ev_sipush {L : List ev_C} {d : Nat} {y : ev_Y} {pc : Nat} {ls : List (Option Value)} {st : List Value} {M : ev_Mem} {Q : Option Value → ev_Mem → Prop} {n : Int} {v : Int32} (hd : decode y.2.1 pc = .ok (.sipush n, 3)) (hv : (Int16.ofInt n).toInt32 = v) (k : Ev L d y (pc + 3) ls (.int v :: st) M Q) : Ev L d y (pc) ls (st) M Q := fun p l e R s m args below meth c H locs D ad ids lsA X hl => lv_sipush X.1 X.2.1 hd hv (k p l e R s m args below meth c H locs D ad ids lsA X hl)
theorem ev_lconst {L : List ev_C} {d : Nat} {y : ev_Y} {pc : Nat} {ls : List (Option Value)} {st : List Value} {M : ev_Mem} {Q : Option Value → ev_Mem → Prop} {n : Fin 2} {v : Int64} (hd : decode y.2.1 pc = .ok (.lconst n, 1)) (hv : Int64.ofNat (n : Nat) = v) (k : Ev L d y (pc + 1) ls (.long v :: st) M Q) : Ev L d y (pc) ls (st) M Q := fun p l e R s m args below meth c H locs D ad ids lsA X hl => lv_lconst X.1 X.2.1 hd hv (k p l e R s m args below meth c H locs D ad ids lsA X hl)
theorem ev_null {L : List ev_C} {d : Nat} {y : ev_Y} {pc : Nat} {ls : List (Option Value)} {st : List Value} {M : ev_Mem} {Q : Option Value → ev_Mem → Prop}  (hd : decode y.2.1 pc = .ok (.aconst_null, 1)) (k : Ev L d y (pc + 1) ls (.null :: st) M Q) : Ev L d y (pc) ls (st) M Q := fun p l e R s m args below meth c H locs D ad ids lsA X hl => lv_null X.1 X.2.1 hd (k p l e R s m args below meth c H locs D ad ids lsA X hl)
theorem ev_ldc {L : List ev_C} {d : Nat} {y : ev_Y} {pc : Nat} {ls : List (Option Value)} {st : List Value} {M : ev_Mem} {Q : Option Value → ev_Mem → Prop} {n : Nat} {v : Int32} (hd : decode y.2.1 pc = .ok (.ldc n, 2)) (hw : Cond.constant y.1.cls n v ∈ ev_T) (k : Ev L d y (pc + 2) ls (.int v :: st) M Q) : Ev L d y (pc) ls (st) M Q := fun p l e R s m args below meth c H locs D ad ids lsA X hl => lv_ldc X.1 X.2.1 X.2.2.2.2.1 (X.2.2.2.2.2.1 _ hw) hd (k p l e R s m args below meth c H locs D ad ids lsA X hl)
theorem ev_ldcw {L : List ev_C} {d : Nat} {y : ev_Y} {pc : Nat} {ls : List (Option Value)} {st : List Value} {M : ev_Mem} {Q : Option Value → ev_Mem → Prop} {n : Nat} {v : Int32} (hd : decode y.2.1 pc = .ok (.ldc_w n, 3)) (hw : Cond.constant y.1.cls n v ∈ ev_T) (k : Ev L d y (pc + 3) ls (.int v :: st) M Q) : Ev L d y (pc) ls (st) M Q := fun p l e R s m args below meth c H locs D ad ids lsA X hl => lv_ldcw X.1 X.2.1 X.2.2.2.2.1 (X.2.2.2.2.2.1 _ hw) hd (k p l e R s m args below meth c H locs D ad ids lsA X hl)
theorem ev_ldc2 {L : List ev_C} {d : Nat} {y : ev_Y} {pc : Nat} {ls : List (Option Value)} {st : List Value} {M : ev_Mem} {Q : Option Value → ev_Mem → Prop} {n : Nat} {v : Int64} (hd : decode y.2.1 pc = .ok (.ldc2_w n, 3)) (hw : Cond.constantLong y.1.cls n v ∈ ev_T) (k : Ev L d y (pc + 3) ls (.long v :: st) M Q) : Ev L d y (pc) ls (st) M Q := fun p l e R s m args below meth c H locs D ad ids lsA X hl => lv_ldc2 X.1 X.2.1 X.2.2.2.2.1 (X.2.2.2.2.2.1 _ hw) hd (k p l e R s m args below meth c H locs D ad ids lsA X hl)
theorem ev_iload_n {L : List ev_C} {d : Nat} {y : ev_Y} {pc : Nat} {ls : List (Option Value)} {st : List Value} {M : ev_Mem} {Q : Option Value → ev_Mem → Prop} {n : Fin 4} {x : Int32} (hd : decode y.2.1 pc = .ok (.iload_n n, 1)) (hi : ls[(n : Nat)]? = some (some (.int x))) (k : Ev L d y (pc + 1) ls (.int x :: st) M Q) : Ev L d y (pc) ls (st) M Q := fun p l e R s m args below meth c H locs D ad ids lsA X hl => lv_iload_n X.1 X.2.1 hd rfl (hl.2.2.2 _ _ hi) (k p l e R s m args below meth c H locs D ad ids lsA X hl)
theorem ev_iload {L : List ev_C} {d : Nat} {y : ev_Y} {pc : Nat} {ls : List (Option Value)} {st : List Value} {M : ev_Mem} {Q : Option Value → ev_Mem → Prop} {n : Nat} {x : Int32} (hd : decode y.2.1 pc = .ok (.iload n, 2)) (hi : ls[n]? = some (some (.int x))) (k : Ev L d y (pc + 2) ls (.int x :: st) M Q) : Ev L d y (pc) ls (st) M Q := fun p l e R s m args below meth c H locs D ad ids lsA X hl => lv_iload X.1 X.2.1 hd (hl.2.2.2 _ _ hi) (k p l e R s m args below meth c H locs D ad ids lsA X hl)
theorem ev_lload_n {L : List ev_C} {d : Nat} {y : ev_Y} {pc : Nat} {ls : List (Option Value)} {st : List Value} {M : ev_Mem} {Q : Option Value → ev_Mem → Prop} {n : Fin 4} {x : Int64} (hd : decode y.2.1 pc = .ok (.lload_n n, 1)) (hi : ls[(n : Nat)]? = some (some (.long x))) (k : Ev L d y (pc + 1) ls (.long x :: st) M Q) : Ev L d y (pc) ls (st) M Q := fun p l e R s m args below meth c H locs D ad ids lsA X hl => lv_lload_n X.1 X.2.1 hd rfl (hl.2.2.2 _ _ hi) (k p l e R s m args below meth c H locs D ad ids lsA X hl)
theorem ev_lload {L : List ev_C} {d : Nat} {y : ev_Y} {pc : Nat} {ls : List (Option Value)} {st : List Value} {M : ev_Mem} {Q : Option Value → ev_Mem → Prop} {n : Nat} {x : Int64} (hd : decode y.2.1 pc = .ok (.lload n, 2)) (hi : ls[n]? = some (some (.long x))) (k : Ev L d y (pc + 2) ls (.long x :: st) M Q) : Ev L d y (pc) ls (st) M Q := fun p l e R s m args below meth c H locs D ad ids lsA X hl => lv_lload X.1 X.2.1 hd (hl.2.2.2 _ _ hi) (k p l e R s m args below meth c H locs D ad ids lsA X hl)
theorem ev_aload_n {L : List ev_C} {d : Nat} {y : ev_Y} {pc : Nat} {ls : List (Option Value)} {st : List Value} {M : ev_Mem} {Q : Option Value → ev_Mem → Prop} {n : Fin 4} {x : Nat} (hd : decode y.2.1 pc = .ok (.aload_n n, 1)) (hi : ls[(n : Nat)]? = some (some (.ref x))) (k : Ev L d y (pc + 1) ls (.ref x :: st) M Q) : Ev L d y (pc) ls (st) M Q := fun p l e R s m args below meth c H locs D ad ids lsA X hl => lv_aload_n X.1 X.2.1 hd rfl (hl.2.2.2 _ _ hi) (k p l e R s m args below meth c H locs D ad ids lsA X hl)
theorem ev_aload {L : List ev_C} {d : Nat} {y : ev_Y} {pc : Nat} {ls : List (Option Value)} {st : List Value} {M : ev_Mem} {Q : Option Value → ev_Mem → Prop} {n : Nat} {x : Nat} (hd : decode y.2.1 pc = .ok (.aload n, 2)) (hi : ls[n]? = some (some (.ref x))) (k : Ev L d y (pc + 2) ls (.ref x :: st) M Q) : Ev L d y (pc) ls (st) M Q := fun p l e R s m args below meth c H locs D ad ids lsA X hl => lv_aload X.1 X.2.1 hd (hl.2.2.2 _ _ hi) (k p l e R s m args below meth c H locs D ad ids lsA X hl)
theorem ev_aload_nN {L : List ev_C} {d : Nat} {y : ev_Y} {pc : Nat} {ls : List (Option Value)} {st : List Value} {M : ev_Mem} {Q : Option Value → ev_Mem → Prop} {n : Fin 4} (hd : decode y.2.1 pc = .ok (.aload_n n, 1)) (hi : ls[(n : Nat)]? = some (some .null)) (k : Ev L d y (pc + 1) ls (.null :: st) M Q) : Ev L d y (pc) ls (st) M Q := fun p l e R s m args below meth c H locs D ad ids lsA X hl => lv_aload_nN X.1 X.2.1 hd rfl (hl.2.2.2 _ _ hi) (k p l e R s m args below meth c H locs D ad ids lsA X hl)
theorem ev_istore_n {L : List ev_C} {d : Nat} {y : ev_Y} {pc : Nat} {ls : List (Option Value)} {st : List Value} {M : ev_Mem} {Q : Option Value → ev_Mem → Prop} {n : Fin 4} {x : Int32} {ls2 : List (Option Value)} (hd : decode y.2.1 pc = .ok (.istore_n n, 1)) (hn : (n : Nat) < ls.length) (h2 : ev_s1 ls n (.int x) = ls2) (k : Ev L d y (pc + 1) ls2 (st) M Q) : Ev L d y (pc) ls (.int x :: st) M Q := fun p l e R s m args below meth c H locs D ad ids lsA X hl => lv_istore_n X.1 X.2.1 hd rfl (ev_has hl) (by rw [← hl.2.2.1]; exact hn) rfl (fun ls2 hl2 => k p l e R s m args below meth c H locs D ad ids ls2 X (h2 ▸ ev_st1 (v := .int x) hl hl2))
theorem ev_istore {L : List ev_C} {d : Nat} {y : ev_Y} {pc : Nat} {ls : List (Option Value)} {st : List Value} {M : ev_Mem} {Q : Option Value → ev_Mem → Prop} {n : Nat} {x : Int32} {ls2 : List (Option Value)} (hd : decode y.2.1 pc = .ok (.istore n, 2)) (hn : (n : Nat) < ls.length) (h2 : ev_s1 ls n (.int x) = ls2) (k : Ev L d y (pc + 2) ls2 (st) M Q) : Ev L d y (pc) ls (.int x :: st) M Q := fun p l e R s m args below meth c H locs D ad ids lsA X hl => lv_istore X.1 X.2.1 hd (ev_has hl) (by rw [← hl.2.2.1]; exact hn) rfl (fun ls2 hl2 => k p l e R s m args below meth c H locs D ad ids ls2 X (h2 ▸ ev_st1 (v := .int x) hl hl2))
theorem ev_lstore_n {L : List ev_C} {d : Nat} {y : ev_Y} {pc : Nat} {ls : List (Option Value)} {st : List Value} {M : ev_Mem} {Q : Option Value → ev_Mem → Prop} {n : Fin 4} {x : Int64} {ls2 : List (Option Value)} (hd : decode y.2.1 pc = .ok (.lstore_n n, 1)) (hn : (n : Nat) + 1 < ls.length) (h2 : ev_s2 ls n (.long x) = ls2) (k : Ev L d y (pc + 1) ls2 (st) M Q) : Ev L d y (pc) ls (.long x :: st) M Q := fun p l e R s m args below meth c H locs D ad ids lsA X hl => lv_lstore_n X.1 X.2.1 hd rfl (ev_has hl) (by rw [← hl.2.2.1]; exact hn) rfl (fun ls2 hl2 => k p l e R s m args below meth c H locs D ad ids ls2 X (h2 ▸ ev_st2 (v := .long x) hl hl2))
theorem ev_lstore {L : List ev_C} {d : Nat} {y : ev_Y} {pc : Nat} {ls : List (Option Value)} {st : List Value} {M : ev_Mem} {Q : Option Value → ev_Mem → Prop} {n : Nat} {x : Int64} {ls2 : List (Option Value)} (hd : decode y.2.1 pc = .ok (.lstore n, 2)) (hn : (n : Nat) + 1 < ls.length) (h2 : ev_s2 ls n (.long x) = ls2) (k : Ev L d y (pc + 2) ls2 (st) M Q) : Ev L d y (pc) ls (.long x :: st) M Q := fun p l e R s m args below meth c H locs D ad ids lsA X hl => lv_lstore X.1 X.2.1 hd (ev_has hl) (by rw [← hl.2.2.1]; exact hn) rfl (fun ls2 hl2 => k p l e R s m args below meth c H locs D ad ids ls2 X (h2 ▸ ev_st2 (v := .long x) hl hl2))
theorem ev_astore_n {L : List ev_C} {d : Nat} {y : ev_Y} {pc : Nat} {ls : List (Option Value)} {st : List Value} {M : ev_Mem} {Q : Option Value → ev_Mem → Prop} {n : Fin 4} {x : Nat} {ls2 : List (Option Value)} (hd : decode y.2.1 pc = .ok (.astore_n n, 1)) (hn : (n : Nat) < ls.length) (h2 : ev_s1 ls n (.ref x) = ls2) (k : Ev L d y (pc + 1) ls2 (st) M Q) : Ev L d y (pc) ls (.ref x :: st) M Q := fun p l e R s m args below meth c H locs D ad ids lsA X hl => lv_astore_n X.1 X.2.1 hd rfl (ev_has hl) (by rw [← hl.2.2.1]; exact hn) rfl (fun ls2 hl2 => k p l e R s m args below meth c H locs D ad ids ls2 X (h2 ▸ ev_st1 (v := .ref x) hl hl2))
theorem ev_astore {L : List ev_C} {d : Nat} {y : ev_Y} {pc : Nat} {ls : List (Option Value)} {st : List Value} {M : ev_Mem} {Q : Option Value → ev_Mem → Prop} {n : Nat} {x : Nat} {ls2 : List (Option Value)} (hd : decode y.2.1 pc = .ok (.astore n, 2)) (hn : (n : Nat) < ls.length) (h2 : ev_s1 ls n (.ref x) = ls2) (k : Ev L d y (pc + 2) ls2 (st) M Q) : Ev L d y (pc) ls (.ref x :: st) M Q := fun p l e R s m args below meth c H locs D ad ids lsA X hl => lv_astore X.1 X.2.1 hd (ev_has hl) (by rw [← hl.2.2.1]; exact hn) rfl (fun ls2 hl2 => k p l e R s m args below meth c H locs D ad ids ls2 X (h2 ▸ ev_st1 (v := .ref x) hl hl2))
theorem ev_iinc {L : List ev_C} {d : Nat} {y : ev_Y} {pc : Nat} {ls : List (Option Value)} {st : List Value} {M : ev_Mem} {Q : Option Value → ev_Mem → Prop} {i : Nat} {n : Int} {x v : Int32} {ls2 : List (Option Value)} (hd : decode y.2.1 pc = .ok (.iinc i n, 3)) (hi : ls[i]? = some (some (.int x))) (hv : x + Int32.ofInt n = v) (h2 : ev_s1 ls i (.int v) = ls2) (k : Ev L d y (pc + 3) ls2 (st) M Q) : Ev L d y (pc) ls (st) M Q := by
  intro p l e R s m args below meth c H locs D ad ids lsA X hl
  obtain ⟨q, hq⟩ := List.getElem?_of_mem (ev_as_mem (ad := ad) hi)
  exact lv_iinc (x := x) X.1 X.2.1 hd (ev_has hl) (k := q) hq hv (by rw [← hl.2.2.1]; exact (List.getElem?_eq_some_iff.mp hi).1) rfl (fun ls2 hl2 => k p l e R s m args below meth c H locs D ad ids ls2 X (h2 ▸ ev_st1 (v := .int v) hl hl2))
theorem ev_iadd {L : List ev_C} {d : Nat} {y : ev_Y} {pc : Nat} {ls : List (Option Value)} {st : List Value} {M : ev_Mem} {Q : Option Value → ev_Mem → Prop} {x z : Int32} (hd : decode y.2.1 pc = .ok (.iadd, 1)) (k : Ev L d y (pc + 1) ls (.int (x + z) :: st) M Q) : Ev L d y (pc) ls (.int z :: .int x :: st) M Q := fun p l e R s m args below meth c H locs D ad ids lsA X hl => lv_iadd X.1 X.2.1 hd (k p l e R s m args below meth c H locs D ad ids lsA X hl)
theorem ev_isub {L : List ev_C} {d : Nat} {y : ev_Y} {pc : Nat} {ls : List (Option Value)} {st : List Value} {M : ev_Mem} {Q : Option Value → ev_Mem → Prop} {x z : Int32} (hd : decode y.2.1 pc = .ok (.isub, 1)) (k : Ev L d y (pc + 1) ls (.int (x - z) :: st) M Q) : Ev L d y (pc) ls (.int z :: .int x :: st) M Q := fun p l e R s m args below meth c H locs D ad ids lsA X hl => lv_isub X.1 X.2.1 hd (k p l e R s m args below meth c H locs D ad ids lsA X hl)
theorem ev_imul {L : List ev_C} {d : Nat} {y : ev_Y} {pc : Nat} {ls : List (Option Value)} {st : List Value} {M : ev_Mem} {Q : Option Value → ev_Mem → Prop} {x z : Int32} (hd : decode y.2.1 pc = .ok (.imul, 1)) (k : Ev L d y (pc + 1) ls (.int (x * z) :: st) M Q) : Ev L d y (pc) ls (.int z :: .int x :: st) M Q := fun p l e R s m args below meth c H locs D ad ids lsA X hl => lv_imul X.1 X.2.1 hd (k p l e R s m args below meth c H locs D ad ids lsA X hl)
theorem ev_iand {L : List ev_C} {d : Nat} {y : ev_Y} {pc : Nat} {ls : List (Option Value)} {st : List Value} {M : ev_Mem} {Q : Option Value → ev_Mem → Prop} {x z : Int32} (hd : decode y.2.1 pc = .ok (.iand, 1)) (k : Ev L d y (pc + 1) ls (.int (x &&& z) :: st) M Q) : Ev L d y (pc) ls (.int z :: .int x :: st) M Q := fun p l e R s m args below meth c H locs D ad ids lsA X hl => lv_iand X.1 X.2.1 hd (k p l e R s m args below meth c H locs D ad ids lsA X hl)
theorem ev_ior {L : List ev_C} {d : Nat} {y : ev_Y} {pc : Nat} {ls : List (Option Value)} {st : List Value} {M : ev_Mem} {Q : Option Value → ev_Mem → Prop} {x z : Int32} (hd : decode y.2.1 pc = .ok (.ior, 1)) (k : Ev L d y (pc + 1) ls (.int (x ||| z) :: st) M Q) : Ev L d y (pc) ls (.int z :: .int x :: st) M Q := fun p l e R s m args below meth c H locs D ad ids lsA X hl => lv_ior X.1 X.2.1 hd (k p l e R s m args below meth c H locs D ad ids lsA X hl)
theorem ev_ixor {L : List ev_C} {d : Nat} {y : ev_Y} {pc : Nat} {ls : List (Option Value)} {st : List Value} {M : ev_Mem} {Q : Option Value → ev_Mem → Prop} {x z : Int32} (hd : decode y.2.1 pc = .ok (.ixor, 1)) (k : Ev L d y (pc + 1) ls (.int (x ^^^ z) :: st) M Q) : Ev L d y (pc) ls (.int z :: .int x :: st) M Q := fun p l e R s m args below meth c H locs D ad ids lsA X hl => lv_ixor X.1 X.2.1 hd (k p l e R s m args below meth c H locs D ad ids lsA X hl)
theorem ev_ishl {L : List ev_C} {d : Nat} {y : ev_Y} {pc : Nat} {ls : List (Option Value)} {st : List Value} {M : ev_Mem} {Q : Option Value → ev_Mem → Prop} {x z : Int32} (hd : decode y.2.1 pc = .ok (.ishl, 1)) (k : Ev L d y (pc + 1) ls (.int (x <<< (z &&& 31)) :: st) M Q) : Ev L d y (pc) ls (.int z :: .int x :: st) M Q := fun p l e R s m args below meth c H locs D ad ids lsA X hl => lv_ishl X.1 X.2.1 hd (k p l e R s m args below meth c H locs D ad ids lsA X hl)
theorem ev_ishr {L : List ev_C} {d : Nat} {y : ev_Y} {pc : Nat} {ls : List (Option Value)} {st : List Value} {M : ev_Mem} {Q : Option Value → ev_Mem → Prop} {x z : Int32} (hd : decode y.2.1 pc = .ok (.ishr, 1)) (k : Ev L d y (pc + 1) ls (.int (x >>> (z &&& 31)) :: st) M Q) : Ev L d y (pc) ls (.int z :: .int x :: st) M Q := fun p l e R s m args below meth c H locs D ad ids lsA X hl => lv_ishr X.1 X.2.1 hd (k p l e R s m args below meth c H locs D ad ids lsA X hl)
theorem ev_iushr {L : List ev_C} {d : Nat} {y : ev_Y} {pc : Nat} {ls : List (Option Value)} {st : List Value} {M : ev_Mem} {Q : Option Value → ev_Mem → Prop} {x z v : Int32} (hd : decode y.2.1 pc = .ok (.iushr, 1)) (hv : (x.toUInt32 >>> (z.toUInt32 &&& Int32.toUInt32 31)).toInt32 = v) (k : Ev L d y (pc + 1) ls (.int v :: st) M Q) : Ev L d y (pc) ls (.int z :: .int x :: st) M Q := fun p l e R s m args below meth c H locs D ad ids lsA X hl => lv_iushr X.1 X.2.1 hd hv (k p l e R s m args below meth c H locs D ad ids lsA X hl)
theorem ev_idiv {L : List ev_C} {d : Nat} {y : ev_Y} {pc : Nat} {ls : List (Option Value)} {st : List Value} {M : ev_Mem} {Q : Option Value → ev_Mem → Prop} {x z : Int32} (hd : decode y.2.1 pc = .ok (.idiv, 1)) (hz : ¬ z = 0) (k : Ev L d y (pc + 1) ls (.int (x / z) :: st) M Q) : Ev L d y (pc) ls (.int z :: .int x :: st) M Q := fun p l e R s m args below meth c H locs D ad ids lsA X hl => lv_idiv X.1 X.2.1 hd hz (k p l e R s m args below meth c H locs D ad ids lsA X hl)
theorem ev_irem {L : List ev_C} {d : Nat} {y : ev_Y} {pc : Nat} {ls : List (Option Value)} {st : List Value} {M : ev_Mem} {Q : Option Value → ev_Mem → Prop} {x z : Int32} (hd : decode y.2.1 pc = .ok (.irem, 1)) (hz : ¬ z = 0) (k : Ev L d y (pc + 1) ls (.int (x - x / z * z) :: st) M Q) : Ev L d y (pc) ls (.int z :: .int x :: st) M Q := fun p l e R s m args below meth c H locs D ad ids lsA X hl => lv_irem X.1 X.2.1 hd hz (k p l e R s m args below meth c H locs D ad ids lsA X hl)
theorem ev_ineg {L : List ev_C} {d : Nat} {y : ev_Y} {pc : Nat} {ls : List (Option Value)} {st : List Value} {M : ev_Mem} {Q : Option Value → ev_Mem → Prop} {x : Int32} (hd : decode y.2.1 pc = .ok (.ineg, 1)) (k : Ev L d y (pc + 1) ls (.int (-x) :: st) M Q) : Ev L d y (pc) ls (.int x :: st) M Q := fun p l e R s m args below meth c H locs D ad ids lsA X hl => lv_ineg X.1 X.2.1 hd (k p l e R s m args below meth c H locs D ad ids lsA X hl)
theorem ev_ladd {L : List ev_C} {d : Nat} {y : ev_Y} {pc : Nat} {ls : List (Option Value)} {st : List Value} {M : ev_Mem} {Q : Option Value → ev_Mem → Prop} {x z : Int64} (hd : decode y.2.1 pc = .ok (.ladd, 1)) (k : Ev L d y (pc + 1) ls (.long (x + z) :: st) M Q) : Ev L d y (pc) ls (.long z :: .long x :: st) M Q := fun p l e R s m args below meth c H locs D ad ids lsA X hl => lv_ladd X.1 X.2.1 hd (k p l e R s m args below meth c H locs D ad ids lsA X hl)
theorem ev_lsub {L : List ev_C} {d : Nat} {y : ev_Y} {pc : Nat} {ls : List (Option Value)} {st : List Value} {M : ev_Mem} {Q : Option Value → ev_Mem → Prop} {x z : Int64} (hd : decode y.2.1 pc = .ok (.lsub, 1)) (k : Ev L d y (pc + 1) ls (.long (x - z) :: st) M Q) : Ev L d y (pc) ls (.long z :: .long x :: st) M Q := fun p l e R s m args below meth c H locs D ad ids lsA X hl => lv_lsub X.1 X.2.1 hd (k p l e R s m args below meth c H locs D ad ids lsA X hl)
theorem ev_lmul {L : List ev_C} {d : Nat} {y : ev_Y} {pc : Nat} {ls : List (Option Value)} {st : List Value} {M : ev_Mem} {Q : Option Value → ev_Mem → Prop} {x z : Int64} (hd : decode y.2.1 pc = .ok (.lmul, 1)) (k : Ev L d y (pc + 1) ls (.long (x * z) :: st) M Q) : Ev L d y (pc) ls (.long z :: .long x :: st) M Q := fun p l e R s m args below meth c H locs D ad ids lsA X hl => lv_lmul X.1 X.2.1 hd (k p l e R s m args below meth c H locs D ad ids lsA X hl)
theorem ev_lor {L : List ev_C} {d : Nat} {y : ev_Y} {pc : Nat} {ls : List (Option Value)} {st : List Value} {M : ev_Mem} {Q : Option Value → ev_Mem → Prop} {x z : Int64} (hd : decode y.2.1 pc = .ok (.lor, 1)) (k : Ev L d y (pc + 1) ls (.long (x ||| z) :: st) M Q) : Ev L d y (pc) ls (.long z :: .long x :: st) M Q := fun p l e R s m args below meth c H locs D ad ids lsA X hl => lv_lor X.1 X.2.1 hd (k p l e R s m args below meth c H locs D ad ids lsA X hl)
theorem ev_land {L : List ev_C} {d : Nat} {y : ev_Y} {pc : Nat} {ls : List (Option Value)} {st : List Value} {M : ev_Mem} {Q : Option Value → ev_Mem → Prop} {x z : Int64} (hd : decode y.2.1 pc = .ok (.land, 1)) (k : Ev L d y (pc + 1) ls (.long (x &&& z) :: st) M Q) : Ev L d y (pc) ls (.long z :: .long x :: st) M Q := fun p l e R s m args below meth c H locs D ad ids lsA X hl => lv_land X.1 X.2.1 hd (k p l e R s m args below meth c H locs D ad ids lsA X hl)
theorem ev_ldiv {L : List ev_C} {d : Nat} {y : ev_Y} {pc : Nat} {ls : List (Option Value)} {st : List Value} {M : ev_Mem} {Q : Option Value → ev_Mem → Prop} {x z : Int64} (hd : decode y.2.1 pc = .ok (.ldiv, 1)) (hz : ¬ z = 0) (k : Ev L d y (pc + 1) ls (.long (x / z) :: st) M Q) : Ev L d y (pc) ls (.long z :: .long x :: st) M Q := fun p l e R s m args below meth c H locs D ad ids lsA X hl => lv_ldiv X.1 X.2.1 hd hz (k p l e R s m args below meth c H locs D ad ids lsA X hl)
theorem ev_lrem {L : List ev_C} {d : Nat} {y : ev_Y} {pc : Nat} {ls : List (Option Value)} {st : List Value} {M : ev_Mem} {Q : Option Value → ev_Mem → Prop} {x z : Int64} (hd : decode y.2.1 pc = .ok (.lrem, 1)) (hz : ¬ z = 0) (k : Ev L d y (pc + 1) ls (.long (x - x / z * z) :: st) M Q) : Ev L d y (pc) ls (.long z :: .long x :: st) M Q := fun p l e R s m args below meth c H locs D ad ids lsA X hl => lv_lrem X.1 X.2.1 hd hz (k p l e R s m args below meth c H locs D ad ids lsA X hl)
theorem ev_lneg {L : List ev_C} {d : Nat} {y : ev_Y} {pc : Nat} {ls : List (Option Value)} {st : List Value} {M : ev_Mem} {Q : Option Value → ev_Mem → Prop} {x : Int64} (hd : decode y.2.1 pc = .ok (.lneg, 1)) (k : Ev L d y (pc + 1) ls (.long (-x) :: st) M Q) : Ev L d y (pc) ls (.long x :: st) M Q := fun p l e R s m args below meth c H locs D ad ids lsA X hl => lv_lneg X.1 X.2.1 hd (k p l e R s m args below meth c H locs D ad ids lsA X hl)
theorem ev_lshl {L : List ev_C} {d : Nat} {y : ev_Y} {pc : Nat} {ls : List (Option Value)} {st : List Value} {M : ev_Mem} {Q : Option Value → ev_Mem → Prop} {x : Int64} {z : Int32} (hd : decode y.2.1 pc = .ok (.lshl, 1)) (k : Ev L d y (pc + 1) ls (.long (x <<< (z.toInt64 &&& 63)) :: st) M Q) : Ev L d y (pc) ls (.int z :: .long x :: st) M Q := fun p l e R s m args below meth c H locs D ad ids lsA X hl => lv_lshl X.1 X.2.1 hd rfl (k p l e R s m args below meth c H locs D ad ids lsA X hl)
theorem ev_lshr {L : List ev_C} {d : Nat} {y : ev_Y} {pc : Nat} {ls : List (Option Value)} {st : List Value} {M : ev_Mem} {Q : Option Value → ev_Mem → Prop} {x : Int64} {z : Int32} (hd : decode y.2.1 pc = .ok (.lshr, 1)) (k : Ev L d y (pc + 1) ls (.long (x >>> (z.toInt64 &&& 63)) :: st) M Q) : Ev L d y (pc) ls (.int z :: .long x :: st) M Q := fun p l e R s m args below meth c H locs D ad ids lsA X hl => lv_lshr X.1 X.2.1 hd rfl (k p l e R s m args below meth c H locs D ad ids lsA X hl)
theorem ev_i2l {L : List ev_C} {d : Nat} {y : ev_Y} {pc : Nat} {ls : List (Option Value)} {st : List Value} {M : ev_Mem} {Q : Option Value → ev_Mem → Prop} {x : Int32} (hd : decode y.2.1 pc = .ok (.i2l, 1)) (k : Ev L d y (pc + 1) ls (.long x.toInt64 :: st) M Q) : Ev L d y (pc) ls (.int x :: st) M Q := fun p l e R s m args below meth c H locs D ad ids lsA X hl => lv_i2l X.1 X.2.1 hd rfl (k p l e R s m args below meth c H locs D ad ids lsA X hl)
theorem ev_l2i {L : List ev_C} {d : Nat} {y : ev_Y} {pc : Nat} {ls : List (Option Value)} {st : List Value} {M : ev_Mem} {Q : Option Value → ev_Mem → Prop} {x : Int64} (hd : decode y.2.1 pc = .ok (.l2i, 1)) (k : Ev L d y (pc + 1) ls (.int x.toInt32 :: st) M Q) : Ev L d y (pc) ls (.long x :: st) M Q := fun p l e R s m args below meth c H locs D ad ids lsA X hl => lv_l2i X.1 X.2.1 hd rfl (k p l e R s m args below meth c H locs D ad ids lsA X hl)
theorem ev_lcmp {L : List ev_C} {d : Nat} {y : ev_Y} {pc : Nat} {ls : List (Option Value)} {st : List Value} {M : ev_Mem} {Q : Option Value → ev_Mem → Prop} {x z : Int64} (hd : decode y.2.1 pc = .ok (.lcmp, 1)) (k : Ev L d y (pc + 1) ls (.int (lg_cmp x z) :: st) M Q) : Ev L d y (pc) ls (.long z :: .long x :: st) M Q := fun p l e R s m args below meth c H locs D ad ids lsA X hl => W.lcmp X.1 X.2.1 hd (k p l e R s m args below meth c H locs D ad ids lsA X hl)
theorem ev_dup {L : List ev_C} {d : Nat} {y : ev_Y} {pc : Nat} {ls : List (Option Value)} {st : List Value} {M : ev_Mem} {Q : Option Value → ev_Mem → Prop} {v : Value} (hd : decode y.2.1 pc = .ok (.dup, 1)) (hv : v.category = 1) (k : Ev L d y (pc + 1) ls (v :: v :: st) M Q) : Ev L d y (pc) ls (v :: st) M Q := fun p l e R s m args below meth c H locs D ad ids lsA X hl => lv_dup X.1 X.2.1 hd ((ev_cat ad v).trans hv) (k p l e R s m args below meth c H locs D ad ids lsA X hl)
theorem ev_dup2 {L : List ev_C} {d : Nat} {y : ev_Y} {pc : Nat} {ls : List (Option Value)} {st : List Value} {M : ev_Mem} {Q : Option Value → ev_Mem → Prop} {v w : Value} (hd : decode y.2.1 pc = .ok (.dup2, 1)) (hv : v.category = 1) (hw : w.category = 1) (k : Ev L d y (pc + 1) ls (v :: w :: v :: w :: st) M Q) : Ev L d y (pc) ls (v :: w :: st) M Q := fun p l e R s m args below meth c H locs D ad ids lsA X hl => lv_dup2_11 X.1 X.2.1 hd ((ev_cat ad v).trans hv) ((ev_cat ad w).trans hw) (k p l e R s m args below meth c H locs D ad ids lsA X hl)
theorem ev_pop {L : List ev_C} {d : Nat} {y : ev_Y} {pc : Nat} {ls : List (Option Value)} {st : List Value} {M : ev_Mem} {Q : Option Value → ev_Mem → Prop} {v : Value} (hd : decode y.2.1 pc = .ok (.pop, 1)) (hv : v.category = 1) (k : Ev L d y (pc + 1) ls (st) M Q) : Ev L d y (pc) ls (v :: st) M Q := fun p l e R s m args below meth c H locs D ad ids lsA X hl => lv_pop X.1 X.2.1 hd ((ev_cat ad v).trans hv) (k p l e R s m args below meth c H locs D ad ids lsA X hl)
theorem ev_goto {L : List ev_C} {d : Nat} {y : ev_Y} {pc : Nat} {ls : List (Option Value)} {st : List Value} {M : ev_Mem} {Q : Option Value → ev_Mem → Prop} {off : Int} {tgt : Nat} (hd : decode y.2.1 pc = .ok (.goto off, 3)) (ht : (pc : Int) + off = (tgt : Int)) (k : Ev L d y (tgt) ls (st) M Q) : Ev L d y (pc) ls (st) M Q := fun p l e R s m args below meth c H locs D ad ids lsA X hl => lv_goto X.1 X.2.1 hd ht (k p l e R s m args below meth c H locs D ad ids lsA X hl)
theorem ev_icmp_eq {L : List ev_C} {d : Nat} {y : ev_Y} {pc : Nat} {ls : List (Option Value)} {st : List Value} {M : ev_Mem} {Q : Option Value → ev_Mem → Prop} {off : Int} {tgt : Nat} {x z : Int32} (hd : decode y.2.1 pc = .ok (.if_icmp .eq off, 3)) (ht : (pc : Int) + off = (tgt : Int)) (kt : x = z → Ev L d y (tgt) ls (st) M Q) (kf : ¬ x = z → Ev L d y (pc + 3) ls (st) M Q) : Ev L d y (pc) ls (.int z :: .int x :: st) M Q := fun p l e R s m args below meth c H locs D ad ids lsA X hl => lv_icmp_eq X.1 X.2.1 hd ht (fun h => kt h p l e R s m args below meth c H locs D ad ids lsA X hl) (fun h => kf h p l e R s m args below meth c H locs D ad ids lsA X hl)
theorem ev_if_eq {L : List ev_C} {d : Nat} {y : ev_Y} {pc : Nat} {ls : List (Option Value)} {st : List Value} {M : ev_Mem} {Q : Option Value → ev_Mem → Prop} {off : Int} {tgt : Nat} {x : Int32} (hd : decode y.2.1 pc = .ok (.ifCond .eq off, 3)) (ht : (pc : Int) + off = (tgt : Int)) (kt : x = 0 → Ev L d y (tgt) ls (st) M Q) (kf : ¬ x = 0 → Ev L d y (pc + 3) ls (st) M Q) : Ev L d y (pc) ls (.int x :: st) M Q := fun p l e R s m args below meth c H locs D ad ids lsA X hl => lv_if_eq X.1 X.2.1 hd ht (fun h => kt h p l e R s m args below meth c H locs D ad ids lsA X hl) (fun h => kf h p l e R s m args below meth c H locs D ad ids lsA X hl)
theorem ev_icmp_ne {L : List ev_C} {d : Nat} {y : ev_Y} {pc : Nat} {ls : List (Option Value)} {st : List Value} {M : ev_Mem} {Q : Option Value → ev_Mem → Prop} {off : Int} {tgt : Nat} {x z : Int32} (hd : decode y.2.1 pc = .ok (.if_icmp .ne off, 3)) (ht : (pc : Int) + off = (tgt : Int)) (kt : ¬ x = z → Ev L d y (tgt) ls (st) M Q) (kf : x = z → Ev L d y (pc + 3) ls (st) M Q) : Ev L d y (pc) ls (.int z :: .int x :: st) M Q := fun p l e R s m args below meth c H locs D ad ids lsA X hl => lv_icmp_ne X.1 X.2.1 hd ht (fun h => kt h p l e R s m args below meth c H locs D ad ids lsA X hl) (fun h => kf h p l e R s m args below meth c H locs D ad ids lsA X hl)
theorem ev_if_ne {L : List ev_C} {d : Nat} {y : ev_Y} {pc : Nat} {ls : List (Option Value)} {st : List Value} {M : ev_Mem} {Q : Option Value → ev_Mem → Prop} {off : Int} {tgt : Nat} {x : Int32} (hd : decode y.2.1 pc = .ok (.ifCond .ne off, 3)) (ht : (pc : Int) + off = (tgt : Int)) (kt : ¬ x = 0 → Ev L d y (tgt) ls (st) M Q) (kf : x = 0 → Ev L d y (pc + 3) ls (st) M Q) : Ev L d y (pc) ls (.int x :: st) M Q := fun p l e R s m args below meth c H locs D ad ids lsA X hl => lv_if_ne X.1 X.2.1 hd ht (fun h => kt h p l e R s m args below meth c H locs D ad ids lsA X hl) (fun h => kf h p l e R s m args below meth c H locs D ad ids lsA X hl)
theorem ev_icmp_lt {L : List ev_C} {d : Nat} {y : ev_Y} {pc : Nat} {ls : List (Option Value)} {st : List Value} {M : ev_Mem} {Q : Option Value → ev_Mem → Prop} {off : Int} {tgt : Nat} {x z : Int32} (hd : decode y.2.1 pc = .ok (.if_icmp .lt off, 3)) (ht : (pc : Int) + off = (tgt : Int)) (kt : x < z → Ev L d y (tgt) ls (st) M Q) (kf : ¬ x < z → Ev L d y (pc + 3) ls (st) M Q) : Ev L d y (pc) ls (.int z :: .int x :: st) M Q := fun p l e R s m args below meth c H locs D ad ids lsA X hl => lv_icmp_lt X.1 X.2.1 hd ht (fun h => kt h p l e R s m args below meth c H locs D ad ids lsA X hl) (fun h => kf h p l e R s m args below meth c H locs D ad ids lsA X hl)
theorem ev_if_lt {L : List ev_C} {d : Nat} {y : ev_Y} {pc : Nat} {ls : List (Option Value)} {st : List Value} {M : ev_Mem} {Q : Option Value → ev_Mem → Prop} {off : Int} {tgt : Nat} {x : Int32} (hd : decode y.2.1 pc = .ok (.ifCond .lt off, 3)) (ht : (pc : Int) + off = (tgt : Int)) (kt : x < 0 → Ev L d y (tgt) ls (st) M Q) (kf : ¬ x < 0 → Ev L d y (pc + 3) ls (st) M Q) : Ev L d y (pc) ls (.int x :: st) M Q := fun p l e R s m args below meth c H locs D ad ids lsA X hl => lv_if_lt X.1 X.2.1 hd ht (fun h => kt h p l e R s m args below meth c H locs D ad ids lsA X hl) (fun h => kf h p l e R s m args below meth c H locs D ad ids lsA X hl)
theorem ev_icmp_ge {L : List ev_C} {d : Nat} {y : ev_Y} {pc : Nat} {ls : List (Option Value)} {st : List Value} {M : ev_Mem} {Q : Option Value → ev_Mem → Prop} {off : Int} {tgt : Nat} {x z : Int32} (hd : decode y.2.1 pc = .ok (.if_icmp .ge off, 3)) (ht : (pc : Int) + off = (tgt : Int)) (kt : z ≤ x → Ev L d y (tgt) ls (st) M Q) (kf : ¬ z ≤ x → Ev L d y (pc + 3) ls (st) M Q) : Ev L d y (pc) ls (.int z :: .int x :: st) M Q := fun p l e R s m args below meth c H locs D ad ids lsA X hl => lv_icmp_ge X.1 X.2.1 hd ht (fun h => kt h p l e R s m args below meth c H locs D ad ids lsA X hl) (fun h => kf h p l e R s m args below meth c H locs D ad ids lsA X hl)
theorem ev_if_ge {L : List ev_C} {d : Nat} {y : ev_Y} {pc : Nat} {ls : List (Option Value)} {st : List Value} {M : ev_Mem} {Q : Option Value → ev_Mem → Prop} {off : Int} {tgt : Nat} {x : Int32} (hd : decode y.2.1 pc = .ok (.ifCond .ge off, 3)) (ht : (pc : Int) + off = (tgt : Int)) (kt : 0 ≤ x → Ev L d y (tgt) ls (st) M Q) (kf : ¬ 0 ≤ x → Ev L d y (pc + 3) ls (st) M Q) : Ev L d y (pc) ls (.int x :: st) M Q := fun p l e R s m args below meth c H locs D ad ids lsA X hl => lv_if_ge X.1 X.2.1 hd ht (fun h => kt h p l e R s m args below meth c H locs D ad ids lsA X hl) (fun h => kf h p l e R s m args below meth c H locs D ad ids lsA X hl)
theorem ev_icmp_gt {L : List ev_C} {d : Nat} {y : ev_Y} {pc : Nat} {ls : List (Option Value)} {st : List Value} {M : ev_Mem} {Q : Option Value → ev_Mem → Prop} {off : Int} {tgt : Nat} {x z : Int32} (hd : decode y.2.1 pc = .ok (.if_icmp .gt off, 3)) (ht : (pc : Int) + off = (tgt : Int)) (kt : z < x → Ev L d y (tgt) ls (st) M Q) (kf : ¬ z < x → Ev L d y (pc + 3) ls (st) M Q) : Ev L d y (pc) ls (.int z :: .int x :: st) M Q := fun p l e R s m args below meth c H locs D ad ids lsA X hl => lv_icmp_gt X.1 X.2.1 hd ht (fun h => kt h p l e R s m args below meth c H locs D ad ids lsA X hl) (fun h => kf h p l e R s m args below meth c H locs D ad ids lsA X hl)
theorem ev_if_gt {L : List ev_C} {d : Nat} {y : ev_Y} {pc : Nat} {ls : List (Option Value)} {st : List Value} {M : ev_Mem} {Q : Option Value → ev_Mem → Prop} {off : Int} {tgt : Nat} {x : Int32} (hd : decode y.2.1 pc = .ok (.ifCond .gt off, 3)) (ht : (pc : Int) + off = (tgt : Int)) (kt : 0 < x → Ev L d y (tgt) ls (st) M Q) (kf : ¬ 0 < x → Ev L d y (pc + 3) ls (st) M Q) : Ev L d y (pc) ls (.int x :: st) M Q := fun p l e R s m args below meth c H locs D ad ids lsA X hl => lv_if_gt X.1 X.2.1 hd ht (fun h => kt h p l e R s m args below meth c H locs D ad ids lsA X hl) (fun h => kf h p l e R s m args below meth c H locs D ad ids lsA X hl)
theorem ev_icmp_le {L : List ev_C} {d : Nat} {y : ev_Y} {pc : Nat} {ls : List (Option Value)} {st : List Value} {M : ev_Mem} {Q : Option Value → ev_Mem → Prop} {off : Int} {tgt : Nat} {x z : Int32} (hd : decode y.2.1 pc = .ok (.if_icmp .le off, 3)) (ht : (pc : Int) + off = (tgt : Int)) (kt : x ≤ z → Ev L d y (tgt) ls (st) M Q) (kf : ¬ x ≤ z → Ev L d y (pc + 3) ls (st) M Q) : Ev L d y (pc) ls (.int z :: .int x :: st) M Q := fun p l e R s m args below meth c H locs D ad ids lsA X hl => lv_icmp_le X.1 X.2.1 hd ht (fun h => kt h p l e R s m args below meth c H locs D ad ids lsA X hl) (fun h => kf h p l e R s m args below meth c H locs D ad ids lsA X hl)
theorem ev_if_le {L : List ev_C} {d : Nat} {y : ev_Y} {pc : Nat} {ls : List (Option Value)} {st : List Value} {M : ev_Mem} {Q : Option Value → ev_Mem → Prop} {off : Int} {tgt : Nat} {x : Int32} (hd : decode y.2.1 pc = .ok (.ifCond .le off, 3)) (ht : (pc : Int) + off = (tgt : Int)) (kt : x ≤ 0 → Ev L d y (tgt) ls (st) M Q) (kf : ¬ x ≤ 0 → Ev L d y (pc + 3) ls (st) M Q) : Ev L d y (pc) ls (.int x :: st) M Q := fun p l e R s m args below meth c H locs D ad ids lsA X hl => lv_if_le X.1 X.2.1 hd ht (fun h => kt h p l e R s m args below meth c H locs D ad ids lsA X hl) (fun h => kf h p l e R s m args below meth c H locs D ad ids lsA X hl)
theorem ev_ifnull {L : List ev_C} {d : Nat} {y : ev_Y} {pc : Nat} {ls : List (Option Value)} {st : List Value} {M : ev_Mem} {Q : Option Value → ev_Mem → Prop} {off : Int} {x : Nat} (hd : decode y.2.1 pc = .ok (.ifnull off, 3)) (k : Ev L d y (pc + 3) ls (st) M Q) : Ev L d y (pc) ls (.ref x :: st) M Q := fun p l e R s m args below meth c H locs D ad ids lsA X hl => lv_ifnull X.1 X.2.1 hd (k p l e R s m args below meth c H locs D ad ids lsA X hl)
theorem ev_ifnullN {L : List ev_C} {d : Nat} {y : ev_Y} {pc : Nat} {ls : List (Option Value)} {st : List Value} {M : ev_Mem} {Q : Option Value → ev_Mem → Prop} {off : Int} {tgt : Nat} (hd : decode y.2.1 pc = .ok (.ifnull off, 3)) (ht : (pc : Int) + off = (tgt : Int)) (k : Ev L d y (tgt) ls (st) M Q) : Ev L d y (pc) ls (.null :: st) M Q := fun p l e R s m args below meth c H locs D ad ids lsA X hl => lv_ifnullN X.1 X.2.1 hd ht (k p l e R s m args below meth c H locs D ad ids lsA X hl)
theorem ev_tableIn {L : List ev_C} {d : Nat} {y : ev_Y} {pc : Nat} {ls : List (Option Value)} {st : List Value} {M : ev_Mem} {Q : Option Value → ev_Mem → Prop} {dflt lo hi : Int} {offs : Array Int} {len : Nat} {x : Int32} {off : Int} {tgt : Nat} (hd : decode y.2.1 pc = .ok (.tableswitch dflt lo hi offs, len)) (h1 : ¬ x.toInt < lo) (h2 : ¬ hi < x.toInt) (ho : offs[(x.toInt - lo).toNat]? = some off) (ht : (pc : Int) + off = (tgt : Int)) (k : Ev L d y (tgt) ls (st) M Q) : Ev L d y (pc) ls (.int x :: st) M Q := fun p l e R s m args below meth c H locs D ad ids lsA X hl => lv_tableIn X.1 X.2.1 hd h1 h2 ho ht (k p l e R s m args below meth c H locs D ad ids lsA X hl)
theorem ev_tableOut {L : List ev_C} {d : Nat} {y : ev_Y} {pc : Nat} {ls : List (Option Value)} {st : List Value} {M : ev_Mem} {Q : Option Value → ev_Mem → Prop} {dflt lo hi : Int} {offs : Array Int} {len : Nat} {x : Int32} {tgt : Nat} (hd : decode y.2.1 pc = .ok (.tableswitch dflt lo hi offs, len)) (h : x.toInt < lo ∨ hi < x.toInt) (ht : (pc : Int) + dflt = (tgt : Int)) (k : Ev L d y (tgt) ls (st) M Q) : Ev L d y (pc) ls (.int x :: st) M Q := fun p l e R s m args below meth c H locs D ad ids lsA X hl => lv_tableOut X.1 X.2.1 hd h ht (k p l e R s m args below meth c H locs D ad ids lsA X hl)
theorem ev_lookup {L : List ev_C} {d : Nat} {y : ev_Y} {pc : Nat} {ls : List (Option Value)} {st : List Value} {M : ev_Mem} {Q : Option Value → ev_Mem → Prop} {dflt : Int} {ps : Array (Int × Int)} {len : Nat} {x : Int32} {off : Int} {tgt : Nat} (hd : decode y.2.1 pc = .ok (.lookupswitch dflt ps, len)) (hp : (ps.toList.zip (ps.toList.drop 1)).all (fun (a, next) => a.1 < next.1) = true) (ho : Op.lookupswitch.offset ps.toList dflt x.toInt = off) (ht : (pc : Int) + off = (tgt : Int)) (k : Ev L d y (tgt) ls (st) M Q) : Ev L d y (pc) ls (.int x :: st) M Q := fun p l e R s m args below meth c H locs D ad ids lsA X hl => lv_lookup X.1 X.2.1 hd hp ho ht (k p l e R s m args below meth c H locs D ad ids lsA X hl)
theorem ev_iret {L : List ev_C} {d : Nat} {y : ev_Y} {pc : Nat} {ls : List (Option Value)} {M : ev_Mem} {Q : Option Value → ev_Mem → Prop} {x : Int32} (hd : decode y.2.1 pc = .ok (.ireturn, 1)) (hr : y.2.2.2 = some .int) (hq : Q (some (.int x)) M) : Ev L d y pc ls [.int x] M Q := fun p l e R s m args below meth c H locs D ad ids lsA X hl => W.iret (v := x) X.1 X.2.1 (X.2.2.1.trans hr) (fun t ht hW => ⟨⟨some (.int x), M, rfl, hq, by rw [ht]; exact X.2.2.2.2.2.2.2.2.2.1⟩, X.2.2.2.2.2.2.2.2.2.2.2.1.F ht⟩) X.2.2.2.2.2.2.2.2.2.2.2.1.2.2 hd (hlocks := X.2.2.2.2.2.2.1)
theorem ev_zret {L : List ev_C} {d : Nat} {y : ev_Y} {pc : Nat} {ls : List (Option Value)} {M : ev_Mem} {Q : Option Value → ev_Mem → Prop} {x : Int32} (hd : decode y.2.1 pc = .ok (.ireturn, 1)) (hr : y.2.2.2 = some .boolean) (hn : narrow .boolean (.int x) = .int x) (hq : Q (some (.int x)) M) : Ev L d y pc ls [.int x] M Q := fun p l e R s m args below meth c H locs D ad ids lsA X hl => W.zret (v := x) X.1 X.2.1 (X.2.2.1.trans hr) hn (fun t ht hW => ⟨⟨some (.int x), M, rfl, hq, by rw [ht]; exact X.2.2.2.2.2.2.2.2.2.1⟩, X.2.2.2.2.2.2.2.2.2.2.2.1.F ht⟩) X.2.2.2.2.2.2.2.2.2.2.2.1.2.2 hd (hlocks := X.2.2.2.2.2.2.1)
theorem ev_lret {L : List ev_C} {d : Nat} {y : ev_Y} {pc : Nat} {ls : List (Option Value)} {M : ev_Mem} {Q : Option Value → ev_Mem → Prop} {x : Int64} (hd : decode y.2.1 pc = .ok (.lreturn, 1)) (hr : y.2.2.2 = some .long) (hq : Q (some (.long x)) M) : Ev L d y pc ls [.long x] M Q := fun p l e R s m args below meth c H locs D ad ids lsA X hl => W.lret (v := x) X.1 X.2.1 (X.2.2.1.trans hr) (fun t ht hW => ⟨⟨some (.long x), M, rfl, hq, by rw [ht]; exact X.2.2.2.2.2.2.2.2.2.1⟩, X.2.2.2.2.2.2.2.2.2.2.2.1.F ht⟩) X.2.2.2.2.2.2.2.2.2.2.2.1.2.2 hd (hlocks := X.2.2.2.2.2.2.1)
theorem ev_vret {L : List ev_C} {d : Nat} {y : ev_Y} {pc : Nat} {ls : List (Option Value)} {M : ev_Mem} {Q : Option Value → ev_Mem → Prop}  (hd : decode y.2.1 pc = .ok (.return_, 1)) (hr : y.2.2.2 = none) (hq : Q none M) : Ev L d y pc ls [] M Q := fun p l e R s m args below meth c H locs D ad ids lsA X hl => W.vret X.1 X.2.1 (X.2.2.1.trans hr) (fun t ht hW => ⟨⟨none, M, rfl, hq, by rw [ht]; exact X.2.2.2.2.2.2.2.2.2.1⟩, X.2.2.2.2.2.2.2.2.2.2.2.1.F ht⟩) X.2.2.2.2.2.2.2.2.2.2.2.1.2.2 hd (hlocks := X.2.2.2.2.2.2.1)
theorem ev_aret {L : List ev_C} {d : Nat} {y : ev_Y} {pc : Nat} {ls : List (Option Value)} {M : ev_Mem} {Q : Option Value → ev_Mem → Prop} {x : Nat} {C : String} (hd : decode y.2.1 pc = .ok (.areturn, 1)) (hr : y.2.2.2 = some (.object C)) (hq : Q (some (.ref x)) M) : Ev L d y pc ls [.ref x] M Q := fun p l e R s m args below meth c H locs D ad ids lsA X hl => W.aret (v := .ref (ad x)) X.1 X.2.1 (X.2.2.1.trans hr) (Or.inl ⟨_, rfl⟩) (Or.inr ⟨_, rfl⟩) (fun t ht hW => ⟨⟨some (.ref x), M, rfl, hq, by rw [ht]; exact X.2.2.2.2.2.2.2.2.2.1⟩, X.2.2.2.2.2.2.2.2.2.2.2.1.F ht⟩) X.2.2.2.2.2.2.2.2.2.2.2.1.2.2 hd (hlocks := X.2.2.2.2.2.2.1)
theorem ev_aretN {L : List ev_C} {d : Nat} {y : ev_Y} {pc : Nat} {ls : List (Option Value)} {M : ev_Mem} {Q : Option Value → ev_Mem → Prop} {C : String} (hd : decode y.2.1 pc = .ok (.areturn, 1)) (hr : y.2.2.2 = some (.object C)) (hq : Q (some .null) M) : Ev L d y pc ls [.null] M Q := fun p l e R s m args below meth c H locs D ad ids lsA X hl => W.aret (v := .null) X.1 X.2.1 (X.2.2.1.trans hr) (Or.inl ⟨_, rfl⟩) (Or.inl rfl) (fun t ht hW => ⟨⟨some .null, M, rfl, hq, by rw [ht]; exact X.2.2.2.2.2.2.2.2.2.1⟩, X.2.2.2.2.2.2.2.2.2.2.2.1.F ht⟩) X.2.2.2.2.2.2.2.2.2.2.2.1.2.2 hd (hlocks := X.2.2.2.2.2.2.1)
