/-! ROWS OF ROWS: the whole step -/
section
variable {E : CtlPost} {e : Env} {d : Bool} {acts : List Action} {s : State}
theorem mqO_vm {cA : ClassId} {h N i : Nat} : (mqO cA h N i).vm = .none := rfl
theorem mq_mk1 {cI c0 : ClassId} {kc : Class} {k : Int32} (hk : s.vm.classes[cI]? = some kc) (hkind : kc.kind = .array c0 .int) (hk0 : ¬ k < 0) (hl : ¬ k.toNatClampNeg > e.platform.arrayLengthLimit) (hh : ¬ k.toNatClampNeg * componentBytes .int > e.platform.maxHeapBytes) (h1 : s.heap.size < e.platform.maxCells) (h2 : s.slotsUsed + k.toNatClampNeg ≤ e.platform.maxSlots) {Q : Addr → Pre} (hq : Q s.heap.size d acts (s.pushCell (mqI cI k.toNatClampNeg))) : wp (Op.multianewarray.make cI [k]) Q E e d acts s := by
  rw [Op.multianewarray.make]
  simp only [wp_bind', W.ite, hk0, if_false, wp_pure', W.theClass, hk, hkind, Option.some.injEq, exists_eq_left']
  exact mq_new hk hkind hl hh rfl rfl h1 h2 hq
theorem mq_mk2 {cA cI c0 : ClassId} {ka kc : Class} {n k : Int32} (ha : s.vm.classes[cA]? = some ka) (hka : ka.kind = .array cI (.array .int)) (hc : s.vm.classes[cI]? = some kc) (hkc : kc.kind = .array c0 .int) (hn0 : ¬ n < 0) (hk0 : ¬ k < 0) (hl1 : ¬ n.toNatClampNeg > e.platform.arrayLengthLimit) (hh1 : ¬ n.toNatClampNeg * componentBytes (.array .int) > e.platform.maxHeapBytes) (hl2 : ¬ k.toNatClampNeg > e.platform.arrayLengthLimit) (hh2 : ¬ k.toNatClampNeg * componentBytes .int > e.platform.maxHeapBytes) (h1 : s.heap.size + 1 + n.toNatClampNeg ≤ e.platform.maxCells) (h2 : s.slotsUsed + n.toNatClampNeg + n.toNatClampNeg * k.toNatClampNeg ≤ e.platform.maxSlots) {Q : Addr → Pre} (hq : ∀ d' acts', Q s.heap.size d' acts' (mqS s cA cI n.toNatClampNeg k.toNatClampNeg n.toNatClampNeg)) : wp (Op.multianewarray.make cA [n, k]) Q E e d acts s := by
  generalize eN : n.toNatClampNeg = N at *
  generalize eK : k.toNatClampNeg = K at *
  have hfd : ([k].find? (· < 0)) = none := by simp [hk0]
  rw [Op.multianewarray.make]
  simp only [wp_bind', W.ite, hn0, if_false, wp_pure', W.theClass, ha, hka, Option.some.injEq, exists_eq_left', eN]
  refine mq_new ha hka hl1 hh1 rfl rfl (by omega) (by have := Nat.zero_le (N * K); omega) ?_
  simp only [hfd]
  rw [ite_self, wp_bind', Std.Legacy.Range.forIn_eq_forIn_range']
  have hz : ([:N] : Std.Legacy.Range).size = N := by simp [Std.Legacy.Range.size]
  rw [hz]
  show wp (forIn (List.range' 0 N 1) PUnit.unit _) _ E e d acts _
  refine wp_forIn_inv (fun r S => ∃ i, i ≤ N ∧ r = List.range' i (N - i) ∧ S = mqS s cA cI N K i) _ _ ⟨0, Nat.zero_le _, rfl, ?_⟩ ?_ ?_
  · show s.pushCell _ = s.pushCell _
    congr 1
  · rintro x r S d' acts' Q' ⟨i, hi, hl, rfl⟩ nx
    obtain ⟨hlt, rfl, hr⟩ : i < N ∧ x = i ∧ r = List.range' (i + 1) (N - (i + 1)) := by
      rcases Nat.lt_or_ge i N with z | z
      · rw [show N - i = (N - (i + 1)) + 1 by omega, List.range'_succ] at hl
        exact ⟨z, (List.cons.inj hl).1, (List.cons.inj hl).2⟩
      · rw [show N - i = 0 by omega] at hl
        cases hl
    obtain ⟨⟨f1, f2⟩, f3, f4⟩ := mq_f s cA cI N K x
    have hm : x * K + K ≤ N * K := by
      have := Nat.mul_le_mul_right K (show x + 1 ≤ N from hlt)
      rw [Nat.succ_mul] at this
      exact this
    have h0 : s.heap.size < (mqS s cA cI N K x).heap.size := by rw [f1]; omega
    simp only [wp_bind']
    refine mq_mk1 (by rw [f3]; exact hc) hkc hk0 (by rw [eK]; exact hl2) (by rw [eK]; exact hh2) (by rw [f1]; omega) (by rw [f4, eK]; omega) ?_
    rw [eK]
    simp only [wp_bind', W.writeLoc, wp_pure']
    refine ⟨mqO cA s.heap.size N x, by rw [State.heap_pushCell_of_lt (h := h0)]; exact f2, by rw [mqO_vm]; simp, by rw [mqO_sz]; exact hlt, ?_, nx _ _ _ ⟨x + 1, hlt, hr, ?_⟩⟩
    · show State.fitsSlot _ cA .none x _ = true
      simp [State.fitsSlot, State.slotType?, f3, ha, hka, fits]
    · rw [f1, mqO_st]
      rfl
  · rintro S d' acts' ⟨i, hi, hl, rfl⟩
    obtain rfl : i = N := by
      rcases Nat.lt_or_ge i N with z | z
      · rw [show N - i = (N - (i + 1)) + 1 by omega, List.range'_succ] at hl
        cases hl
      · omega
    simp only [wp_pure']
    exact hq _ _
end
