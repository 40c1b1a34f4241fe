/-! ROWS OF ROWS: the step as a row -/
section
variable {p : Program} {l : Launch} {e : Env} {R : Room} {s : State} {m : MethodId} {args : Array Value} {below : List Frame} {meth : Method} {c : Code} {locs : List Loc} {cells slots : Nat}
theorem mq_sd {T : State} (X : Stand p l e R s m args below meth c T locs cells slots) (cA cI : ClassId) (N K : Nat) : ∀ i, ∃ L : List Loc, (∀ x ∈ L, x ∈ locs ∨ x.base = T.heap.size) ∧ Stand p l e R s m args below meth c (mqS T cA cI N K i) L (cells + (1 + i)) (slots + (N + i * K))
  | 0 => by
    have h := X.pushed (mqO cA T.heap.size N 0)
    rw [mqO_sz] at h
    refine ⟨locs, fun x hx => Or.inl hx, ?_⟩
    rw [Nat.zero_mul]
    exact h
  | i + 1 => by
    obtain ⟨L, hL, Xi⟩ := mq_sd X cA cI N K i
    obtain ⟨⟨h1, h2⟩, -, -⟩ := mq_f T cA cI N K i
    have h0 : T.heap.size < (mqS T cA cI N K i).heap.size := by rw [h1]; omega
    have hc : ((mqS T cA cI N K i).pushCell (mqI cI K)).heap[T.heap.size]? = some (mqO cA T.heap.size N i) := by rw [State.heap_pushCell_of_lt (h := h0)]; exact h2
    have h := (Xi.pushed (mqI cI K)).stored hc i (.ref (T.heap.size + 1 + i))
    rw [mqI_sz, mqO_st] at h
    refine ⟨L ++ [⟨T.heap.size, i⟩], fun x hx => ?_, ?_⟩
    · rcases List.mem_append.mp hx with z | z
      · exact hL x z
      · rw [List.mem_singleton.mp z]
        exact Or.inr rfl
    · rw [show cells + (1 + (i + 1)) = cells + (1 + i) + 1 by omega, show slots + (N + (i + 1) * K) = slots + (N + i * K) + K by rw [Nat.succ_mul]; omega]
      exact h
variable {H : Heap} {Q : State → Prop} {cc : ByteArray} {pc : Nat} {ls : Array Slot} {rest : List Value}
theorem w_multi (hexec : p.tables.exec = Jvm.exec) (hb : c.code = cc) {own : String} {index : Nat} (hown : s.vm.findClass own = some m.cls) (hcl : (Cond.classLink own index "[[I").before args s = true) {cA cI c0 : ClassId} {ka kc : Class} (hfA : s.vm.findClass "[[I" = some cA) (ha : s.vm.classes[cA]? = some ka) (hka : ka.kind = .array cI (.array .int)) (hc : s.vm.classes[cI]? = some kc) (hkc : kc.kind = .array c0 .int) {n k : Int32} {N K : Nat} (hn : ¬ n < 0) (hk : ¬ k < 0) (eN : n.toNatClampNeg = N) (eK : k.toNatClampNeg = K) (bN : N ≤ 1000) (bK : K ≤ 1000) (hcells : cells + (1 + N) ≤ R.cells) (hslots : slots + (N + N * K) ≤ R.slots) (hdg : decode cc pc = .ok (.multianewarray index 2, 4))
    (kk : ∀ (H1 : Heap) (locs1 : List Loc), H1.size = H.size + 1 + N → (∀ q : Nat, q < H.size → H1[q]? = H[q]?) → H1[H.size]? = some (mqO cA H.size N N) → (∀ j, j < N → H1[H.size + 1 + j]? = some (mqI cI K)) → (∀ x ∈ locs1, x ∈ locs ∨ x.base = H.size) → W p l e R s m args below meth c H1 locs1 (cells + (1 + N)) (slots + (N + N * K)) Q (F0 m (pc + 4) ls (.ref H.size :: rest))) : W p l e R s m args below meth c H locs cells slots Q (F0 m pc ls (.int k :: .int n :: rest)) := by
  intro T hT X
  subst hT
  subst hb
  have hpl : e.platform.magicAccessors = ({} : Platform).magicAccessors := by rw [X.admits.platform]
  obtain ⟨c1, hf1, hl1⟩ := Cond.classLink_spec hown hcl e.platform hpl
  cases hfA.symm.trans hf1
  obtain ⟨hg1, hw1, hr1⟩ := State.classEntry (e := e) X.warmed hl1
  generalize T.vm.noted m.cls index (.cls cA) = vm1 at hg1 hw1 hr1
  obtain ⟨ka1, ha1, ea⟩ := hw1.alike.2.2 _ _ ha
  obtain ⟨kc1, hc1, ec⟩ := hw1.alike.2.2 _ _ hc
  have hka1 : ka1.kind = .array cI (.array .int) := by rw [ea]; exact hka
  have hkc1 : kc1.kind = .array c0 .int := by rw [ec]; exact hkc
  obtain ⟨g1, g2⟩ := X.roomAbove hcells hslots
  obtain ⟨L, hL, XF⟩ := mq_sd (X.noted hw1) cA cI N K N
  obtain ⟨⟨f1, f2⟩, f3, f4⟩ := mq_f (T.setVm vm1) cA cI N K N
  obtain ⟨t, a1, b1⟩ := kk (mqS (T.setVm vm1) cA cI N K N).heap L f1 (fun q hq => mq_old (T.setVm vm1) cA cI N K hq N) f2 (fun j hj => mq_in (T.setVm vm1) cA cI N K N j hj) hL _ rfl XF
  refine ⟨t, ?_, b1⟩
  have lm1 : ¬ n.toNatClampNeg > e.platform.arrayLengthLimit := by rw [Launch.admits_arrayLengthLimit X.admits, eN]; omega
  have hp1 : ¬ n.toNatClampNeg * componentBytes (.array .int) > e.platform.maxHeapBytes := by
    rw [Launch.admits_maxHeapBytes X.admits, eN]
    show ¬ N * 4 > 536870912
    omega
  have lm2 : ¬ k.toNatClampNeg > e.platform.arrayLengthLimit := by rw [Launch.admits_arrayLengthLimit X.admits, eK]; omega
  have hp2 : ¬ k.toNatClampNeg * componentBytes .int > e.platform.maxHeapBytes := by
    rw [Launch.admits_maxHeapBytes X.admits, eK]
    show ¬ K * 4 > 536870912
    omega
  jvm_step X.here [hexec, hdg]
  simp only [Op.multianewarray.sem, wp_bind', W.resolveClassAt_links (State.method?_setTop (F0 m pc ls (.int k :: .int n :: rest)) X.here.top) hg1]
  rw [W.popN, if_neg (by decide)]
  refine ⟨F0 m pc ls (.int k :: .int n :: rest), State.topJava?_setTop' (s := T.setVm vm1) _ X.here.top, [.int n, .int k], rest, rfl, rfl, ?_⟩
  simp only [List.mapM_cons, List.mapM_nil, wp_bind', wp_pure']
  refine mq_mk2 (ka := ka1) (kc := kc1) (cI := cI) (c0 := c0) ha1 hka1 hc1 hkc1 hn hk lm1 hp1 lm2 hp2 (by rw [eN]; show T.heap.size + 1 + _ ≤ _; omega) (by rw [eN, eK]; show T.slotsUsed + _ + _ ≤ _; omega) (fun d' acts' => ?_)
  rw [eN, eK]
  have eS : ((T.setTop (F0 m pc ls (.int k :: .int n :: rest))).setVm vm1).setTop { F0 m pc ls (.int k :: .int n :: rest) with stack := rest } = (T.setVm vm1).setTop { F0 m pc ls (.int k :: .int n :: rest) with stack := rest } := by
    show ((T.setVm vm1).setTop _).setTop _ = _
    rw [State.setTop_setTop]
  rw [eS, mq_top]
  simp only [wp_bind', W.mark, W.pushRef, State.topJava?_setTop' _ XF.here.top, Option.some.injEq, exists_eq_left', State.setTop_setTop, State.heap_setTop]
  intro acts
  simp [jvm, XF.here.top]
  exact a1
end
