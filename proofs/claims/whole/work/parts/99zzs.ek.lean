/-! MAKING OBJECTS: cells that stand one behind the other from h0 on -/
section
def ek_N : List Cond := [.methodLinkNest "WithoutE" 9 ⟨"WithoutE$Tape", "<init>", "()V"⟩ "WithoutE", .methodLinkNest "WithoutE" 18 ⟨"WithoutE$Dictionary", "<init>", "()V"⟩ "WithoutE", .methodLinkNest "WithoutE" 25 ⟨"WithoutE$Typewriter", "<init>", "()V"⟩ "WithoutE", .methodLinkNest "WithoutE" 74 ⟨"WithoutE$Text", "<init>", "()V"⟩ "WithoutE", .methodLinkNest "WithoutE$Speech" 36 ⟨"WithoutE$Lowest", "<init>", "()V"⟩ "WithoutE"]
theorem ek_Nw {s U : State} (hW : s.WarmedH U.vm) (h : ∀ w ∈ ek_N, va_Nw w s) : ∀ w ∈ ek_N, va_Nw w U := by
  intro w hw
  have h0 := h w hw
  simp only [ek_N, List.mem_cons, List.not_mem_nil, or_false] at hw
  rcases hw with rfl | rfl | rfl | rfl | rfl <;> exact va_Nw.warmM hW h0
theorem ek_Nb {U : State} (g : JFrame) (mk : MethodId) (a : Array Value) (h : ∀ w ∈ ek_N, va_Nw w U) : ∀ w ∈ ek_N, va_Nw w (U.calling g mk a) := by
  intro w hw
  have h0 := h w hw
  simp only [ek_N, List.mem_cons, List.not_mem_nil, or_false] at hw
  rcases hw with rfl | rfl | rfl | rfl | rfl <;> exact va_Nw.same rfl (show U.vm = (U.calling g mk a).vm from rfl) h0
def wE (h0 : Nat) (es : List va_E) : va_W := es.mapIdx (fun i e => (h0 + i, e))
def ek_A (h0 : Nat) : Nat → Prop := fun q => h0 ≤ q
variable {h0 i : Nat} {es fs : List va_E} {e : va_E} {D : va_G} {H H1 : Heap} {locs locs1 : List Loc}
theorem wE_len : (wE h0 es).length = es.length := by unfold wE; rw [List.length_mapIdx]
theorem wE_at (h : es[i]? = some e) : (wE h0 es)[i]? = some (h0 + i, e) := by
  unfold wE
  rw [List.getElem?_mapIdx, h]
  rfl
theorem wE_ta {q : Nat × va_E} (h : (wE h0 es)[i]? = some q) : es[i]? = some q.2 ∧ q.1 = h0 + i := by
  unfold wE at h
  rw [List.getElem?_mapIdx] at h
  cases z : es[i]? with
  | none => rw [z] at h; cases h
  | some x => rw [z] at h; cases h; exact ⟨rfl, rfl⟩
theorem wE_D : va_D (ek_A h0) (wE h0 es) := by
  refine ⟨fun i j x y hi hj hxy => ?_, fun k q hk => ?_⟩
  · have a := (wE_ta hi).2
    have b := (wE_ta hj).2
    omega
  · have a := (wE_ta hk).2
    show h0 ≤ q.1
    omega
theorem wE_app : wE h0 (es ++ fs) = wE h0 es ++ wE (h0 + es.length) fs := by
  apply List.ext_getElem?
  intro i
  by_cases h : i < es.length
  · rw [List.getElem?_append_left (by rw [wE_len]; exact h)]
    unfold wE
    rw [List.getElem?_mapIdx, List.getElem?_mapIdx, List.getElem?_append_left h]
  · rw [List.getElem?_append_right (by rw [wE_len]; omega), wE_len]
    unfold wE
    rw [List.getElem?_mapIdx, List.getElem?_mapIdx, List.getElem?_append_right (by omega)]
    cases fs[i - es.length]? with
    | none => rfl
    | some x =>
      show some (h0 + i, x) = some (h0 + es.length + (i - es.length), x)
      rw [show h0 + es.length + (i - es.length) = h0 + i by omega]
theorem wE_set : (wE h0 es).set i (h0 + i, e) = wE h0 (es.set i e) := by
  apply List.ext_getElem?
  intro j
  by_cases h : j = i
  · subst h
    by_cases hl : j < es.length
    · rw [List.getElem?_set_self (by rw [wE_len]; exact hl), wE_at (List.getElem?_set_self hl)]
    · rw [List.getElem?_eq_none (by rw [List.length_set, wE_len]; omega), List.getElem?_eq_none (by rw [wE_len, List.length_set]; omega)]
  · rw [List.getElem?_set_ne (Ne.symm h)]
    unfold wE
    rw [List.getElem?_mapIdx, List.getElem?_mapIdx, List.getElem?_set_ne (Ne.symm h)]
/-- all cells from h0 to the heap's end -/
def PW (D : va_G) (h0 : Nat) (es : List va_E) (H : Heap) : Prop := va_P D ev_cl (wE h0 es) H ∧ H.size = h0 + es.length
theorem PW.at' (h : PW D h0 es H) (he : es[i]? = some e) : va_at D ev_cl (h0 + i, e) H := h.1 i _ (wE_at he)
theorem ek_self {A : Nat → Prop} {H0 : Heap} (h : va_S A H0 H locs) : va_S A H H locs := ⟨Nat.le_refl _, fun _ _ _ => rfl, h.2.2⟩
theorem ek_tr {A : Nat → Prop} {H0 : Heap} (h : va_S A H0 H locs) (k : va_S A H H1 locs1) : va_S A H0 H1 locs1 := ⟨Nat.le_trans h.1 k.1, fun q h1 h2 => (k.2.1 q (Nat.lt_of_lt_of_le h1 h.1) h2).trans (h.2.1 q h1 h2), k.2.2⟩
theorem ek_wk {a b : Nat} {H0 : Heap} (hab : b ≤ a) (h : va_S (ek_A a) H0 H locs) : va_S (ek_A b) H0 H locs := ⟨h.1, fun q h1 h2 => h.2.1 q h1 (fun z => h2 (Nat.le_trans hab z)), fun x hx => Nat.le_trans hab (h.2.2 x hx)⟩
theorem ek_set (h : PW D h0 es H) (hP : va_P D ev_cl ((wE h0 es).set i (h0 + i, e)) H1) (hS : H.size ≤ H1.size) (hz : H1.size ≤ H.size) : PW D h0 (es.set i e) H1 := ⟨by rw [← wE_set]; exact hP, by rw [List.length_set]; have := h.2; omega⟩
theorem ek_push {q : Nat} (h : PW D h0 es H) (hP : va_P D ev_cl (wE h0 es ++ [(q, e)]) H1) (hD : va_D (ek_A h0) (wE h0 es ++ [(q, e)])) (hz : H1.size ≤ H.size + 1) : q = h0 + es.length ∧ PW D h0 (es ++ [e]) H1 := by
  have hl : (wE h0 es ++ [(q, e)])[es.length]? = some (q, e) := by
    rw [List.getElem?_append_right (by rw [wE_len]; exact Nat.le_refl _), wE_len, Nat.sub_self]
    rfl
  have q1 : q < H1.size := (hP _ _ hl).lt
  have q2 : h0 ≤ q := hD.2 _ _ hl
  have hs := h.2
  have q3 : ¬ q < h0 + es.length := fun z => by
    have hi : q - h0 < es.length := by omega
    have hj : (wE h0 es ++ [(q, e)])[q - h0]? = some (h0 + (q - h0), es[q - h0]) := by
      rw [List.getElem?_append_left (by rw [wE_len]; exact hi), wE_at (List.getElem?_eq_getElem hi)]
    have := hD.1 _ _ _ _ hj hl (show h0 + (q - h0) = q by omega)
    omega
  have eq : q = h0 + es.length := by omega
  subst eq
  refine ⟨rfl, ?_, by rw [List.length_append, List.length_singleton]; omega⟩
  rw [wE_app]
  exact hP
theorem w_sz {p : Program} {l : Launch} {ee : Env} {R : Room} {s : State} {m : MethodId} {args : Array Value} {below : List Frame} {meth : Method} {c : Code} {cells slots : Nat} {Q : State → Prop} {g : JFrame} (kk : H.size ≤ s.heap.size + cells → W p l ee R s m args below meth c H locs cells slots Q g) : W p l ee R s m args below meth c H locs cells slots Q g := fun T hT X => kk (by rw [← hT]; exact X.heapSize) T hT X
theorem ra_eq {U : State} {a b : ClassId} {ty : FieldType} (h1 : va_RA U a ty) (h2 : va_RA U b ty) : a = b := by
  cases ty with
  | object C =>
    obtain ⟨_, _, _, _, _, k1⟩ := h1
    obtain ⟨_, _, _, _, _, k2⟩ := h2
    exact Option.some.inj (k1.symm.trans k2)
  | _ => exact Option.some.inj (Eq.trans (Eq.symm h1) h2)
theorem ev_Sn {ad ad2 : Nat → Nat} {A B : Nat → Prop} {U : State} (h : ev_S ad A U) (hAB : ∀ q, B q → A q) (he : ∀ k, 1000 ≤ k → ad2 k = ad k) : ev_S ad2 B U := by
  obtain ⟨h1, ⟨h2, h3⟩, ⟨h4, h5⟩, h6, h7, h8, h9⟩ := h
  have e1 : (fun i => ad2 (1010 + i)) = (fun i => ad (1010 + i)) := funext fun i => he _ (by omega)
  have e2 : (fun i => ad2 (1030 + i)) = (fun i => ad (1030 + i)) := funext fun i => he _ (by omega)
  refine ⟨h1, ⟨?_, ?_⟩, ⟨?_, ?_⟩, fun i q hi => ?_, ?_, h8.narrow hAB, ?_⟩
  · rw [he 1000 (by omega)]; exact h2.narrow hAB
  · rw [he 1000 (by omega)]; exact h3.narrow hAB
  · rw [he 1001 (by omega)]; exact h4.narrow hAB
  · rw [he 1001 (by omega)]; exact h5.narrow hAB
  · rw [he (1010 + i) (by omega)]; exact h6 i q hi
  · rw [e1, e2]; exact h7.narrow hAB
  · rw [he 1002 (by omega)]; exact ev_F.narrow h9 hAB
/-- what holds of a state wherever objects are made -/
def ek_AA (ids : Nat → ClassId) (U : State) : Prop := ∃ kA : Class, U.vm.classes[ids 3]? = some kA ∧ kA.kind = .array (ids 0) (.array .int)
def ek_B (D : va_G) (ids : Nat → ClassId) (ad : Nat → Nat) (b0 : Nat) (U : State) : Prop := va_K D ev_cl (ev_tys ids) U ∧ (∀ w ∈ ek_N, va_Nw w U) ∧ ev_S ad (ek_A b0) U ∧ ek_AA ids U ∧ va_AO "WithoutE$Text" U
theorem ek_AA.moved {ids : Nat → ClassId} {u U : State} (hvm : u.vm.Alike U.vm) (h : ek_AA ids u) : ek_AA ids U := by
  obtain ⟨kA, h1, h2⟩ := h
  obtain ⟨k', hk', he⟩ := hvm.2.2 _ _ h1
  exact ⟨k', hk', by rw [he]; exact h2⟩
theorem ek_B.go {ids : Nat → ClassId} {ad : Nat → Nat} {b0 : Nat} {s U : State} (hW : s.WarmedH U.vm) (hh : U.heap = H) (hS : va_S (ek_A b0) s.heap H locs) (h : ek_B D ids ad b0 s) : ek_B D ids ad b0 U := ⟨h.1.moved hW.alike, ek_Nw hW h.2.1, ev_Sgo hW hh hS h.2.2.1, h.2.2.2.1.moved hW.alike, h.2.2.2.2.moved hW.alike⟩
theorem ek_B.bl {ids : Nat → ClassId} {ad : Nat → Nat} {b0 : Nat} {U : State} (g : JFrame) (mk : MethodId) (a : Array Value) (h : ek_B D ids ad b0 U) : ek_B D ids ad b0 (U.calling g mk a) := ⟨va_K.moved (u := U) (U := U.calling g mk a) (Vm.Alike.refl U.vm) h.1, ek_Nb g mk a h.2.1, ev_Sbl g mk a h.2.2.1, ek_AA.moved (u := U) (U := U.calling g mk a) (Vm.Alike.refl U.vm) h.2.2.2.1, va_AO.moved (u := U) (U := U.calling g mk a) (Vm.Alike.refl U.vm) h.2.2.2.2⟩
end
/-- the judgement of a constructor: from cells es to cells fs -/
def ek_X (ids : Nat → ClassId) (ad : Nat → Nat) (b0 d C S : Nat) (y : ev_Y) (h0 : Nat) (es : List va_E) (p : Program) (R : Room) (s : State) (m : MethodId) (args : Array Value) (meth : Method) (c : Code) (H : Heap) (locs : List Loc) (D : va_G) : Prop :=
  p.tables.exec = Jvm.exec ∧ c.code = y.2.1 ∧ meth.sig.returnType = y.2.2.2 ∧ c.maxLocals = y.2.2.1 ∧ s.vm.findClass y.1.cls = some m.cls ∧ (∀ w ∈ ev_T, w.before args s = true) ∧ meth.locks = false ∧ meth.name = "<init>" ∧ (d ≤ R.frames ∧ 64 * d ≤ R.locals ∧ C ≤ R.cells ∧ S ≤ R.slots) ∧ ek_B D ids ad b0 s ∧ (b0 ≤ h0 ∧ s.heap.size = h0 + 1) ∧ PW D h0 es H ∧ va_S (ek_A h0) s.heap H locs
def ek_Q (D : va_G) (h0 : Nat) (fs : List va_E) : Array Value → State → Outcome → State → Prop := va_Qv (S := Unit) (fun _ => True) (fun _ t => PW D h0 fs t.heap) (ek_A h0)
def Ek (ids : Nat → ClassId) (ad : Nat → Nat) (b0 d C S : Nat) (y : ev_Y) (pc : Nat) (ls : List (Option Value)) (st : List Value) (h0 : Nat) (es : List va_E) (kc ks : Nat) (fs : List va_E) : Prop :=
  ∀ (p : Program) (l : Launch) (e : Env) (R : Room) (s : State) (m : MethodId) (args : Array Value) (below : List Frame) (meth : Method) (c : Code) (H : Heap) (locs : List Loc) (D : va_G) (lsA : Array Slot), ek_X ids ad b0 d C S y h0 es p R s m args meth c H locs D → ev_l lsA y.2.2.1 (fun q => q) ls → kc + 1 = es.length →
    W p l e R s m args below meth c H locs kc ks (MQ below (ek_Q D h0 fs) args s C S (ek_A h0)) (F0 m pc lsA st)
def Ck (ids : Nat → ClassId) (ad : Nat → Nat) (b0 d C S : Nat) (y : ev_Y) (as : List Value) (h0 : Nat) (e0 : va_E) (fs : List va_E) : Prop :=
  ∀ (l : Launch) (D : va_G), Met l y.1 (Cond.code y.1 y.2.1 y.2.2.1 y.2.2.2 :: ev_T) { frames := d, cells := C, slots := S, locals := 64 * d } (va_Pc (.ref h0 :: as) (fun U => PW D h0 [e0] U.heap ∧ ek_B D ids ad b0 U ∧ b0 ≤ h0)) (ek_Q D h0 fs) C S (ek_A h0)
