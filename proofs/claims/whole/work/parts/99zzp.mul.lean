/-! ROWS OF ROWS: what the machine does at a multianewarray of two dimensions of ints -/
section
theorem arrV_cg {cI : ClassId} {N : Nat} {f g : Nat → Value} (h : ∀ j, j < N → f j = g j) : arrV cI N f = arrV cI N g := by
  unfold arrV
  congr 1
  apply Array.ext
  · simp
  · intro i h1 h2
    simp only [Array.getElem_ofFn]
    exact h i (by simpa using h1)
/-- the outer row at the address h, its first i places filled -/
def mqO (cA : ClassId) (h N i : Nat) : Cell := arrV cA N (fun j => if j < i then .ref (h + 1 + j) else .null)
def mqI (cI : ClassId) (K : Nat) : Cell := arrV cI K (fun _ => .int 0)
/-- the machine behind i inner rows -/
def mqS (S : State) (cA cI : ClassId) (N K : Nat) : Nat → State
  | 0 => S.pushCell (mqO cA S.heap.size N 0)
  | i + 1 => ((mqS S cA cI N K i).pushCell (mqI cI K)).setCell S.heap.size (mqO cA S.heap.size N (i + 1))
theorem mqO_sz {cA : ClassId} {h N i : Nat} : (mqO cA h N i).slots.size = N := by unfold mqO; exact arrV_size _ _ _
theorem mqI_sz {cI : ClassId} {K : Nat} : (mqI cI K).slots.size = K := by unfold mqI; exact arrV_size _ _ _
theorem mqO_st {cA : ClassId} {h N i : Nat} : (mqO cA h N i).setSlot i (.ref (h + 1 + i)) = mqO cA h N (i + 1) := by
  unfold mqO
  rw [arrV_store]
  refine arrV_cg (fun j _ => ?_)
  unfold updV
  by_cases e : j = i
  · rw [if_pos e, if_pos (by omega), e]
  · rw [if_neg e]
    show (if j < i then Value.ref (h + 1 + j) else Value.null) = _
    by_cases z : j < i
    · rw [if_pos z, if_pos (by omega)]
    · rw [if_neg z, if_neg (by omega)]
theorem mq_f (S : State) (cA cI : ClassId) (N K : Nat) : ∀ i, ((mqS S cA cI N K i).heap.size = S.heap.size + 1 + i ∧ (mqS S cA cI N K i).heap[S.heap.size]? = some (mqO cA S.heap.size N i)) ∧ (mqS S cA cI N K i).vm = S.vm ∧ (mqS S cA cI N K i).slotsUsed = S.slotsUsed + N + i * K
  | 0 => ⟨⟨by simp [mqS], by simp [mqS]⟩, rfl, by simp [mqS, mqO_sz]⟩
  | i + 1 => by
    obtain ⟨⟨h1, h2⟩, h3, h4⟩ := mq_f S cA cI N K i
    have hl : S.heap.size < (mqS S cA cI N K i).heap.size := by omega
    have hc : ((mqS S cA cI N K i).pushCell (mqI cI K)).heap[S.heap.size]? = some (mqO cA S.heap.size N i) := by rw [State.heap_pushCell_of_lt (h := hl)]; exact h2
    refine ⟨⟨?_, State.heap_setCell_self hc⟩, by simp [mqS, h3], ?_⟩
    · simp [mqS, State.setCell, h1]; omega
    · simp [mqS, h4, mqI_sz, Nat.succ_mul]; omega
theorem mq_old (S : State) (cA cI : ClassId) (N K : Nat) {a : Addr} (ha : a < S.heap.size) : ∀ i, (mqS S cA cI N K i).heap[a]? = S.heap[a]?
  | 0 => State.heap_pushCell_of_lt _ _ ha
  | i + 1 => by
    have h1 := (mq_f S cA cI N K i).1.1
    have hl : a < (mqS S cA cI N K i).heap.size := Nat.lt_of_lt_of_le ha (by rw [h1]; omega)
    show (((mqS S cA cI N K i).pushCell (mqI cI K)).setCell S.heap.size _).heap[a]? = _
    rw [State.heap_setCell_other (Nat.ne_of_gt ha), State.heap_pushCell_of_lt (h := hl)]
    exact mq_old S cA cI N K ha i
theorem mq_in (S : State) (cA cI : ClassId) (N K : Nat) : ∀ i j, j < i → (mqS S cA cI N K i).heap[S.heap.size + 1 + j]? = some (mqI cI K)
  | 0, _, h => absurd h (Nat.not_lt_zero _)
  | i + 1, j, h => by
    have h1 := (mq_f S cA cI N K i).1.1
    show (((mqS S cA cI N K i).pushCell (mqI cI K)).setCell S.heap.size _).heap[S.heap.size + 1 + j]? = _
    rw [State.heap_setCell_other (show S.heap.size ≠ S.heap.size + 1 + j by omega)]
    by_cases e : j = i
    · rw [e, ← h1]
      exact State.heap_pushCell_size _ _
    · have hl : S.heap.size + 1 + j < (mqS S cA cI N K i).heap.size := by omega
      rw [State.heap_pushCell_of_lt (h := hl)]
      exact mq_in S cA cI N K i j (by omega)
theorem mq_top (S : State) (f : JFrame) (cA cI : ClassId) (N K : Nat) : ∀ i, mqS (S.setTop f) cA cI N K i = (mqS S cA cI N K i).setTop f
  | 0 => rfl
  | i + 1 => by simp only [mqS, mq_top S f cA cI N K i, State.heap_setTop, State.pushCell_setTop, State.setCell_setTop]
end
section
variable {E : CtlPost} {e : Env} {d : Bool} {acts : List Action} {s : State}
theorem mq_new {cA comp : ClassId} {k : Class} {ty : FieldType} {len : Nat} {v : Value} (hk : s.vm.classes[cA]? = some k) (hkind : k.kind = .array comp ty) (hl : ¬ len > e.platform.arrayLengthLimit) (hh : ¬ len * componentBytes ty > e.platform.maxHeapBytes) (hf : fits ty v = true) (hd : v.isDefault = true) (h1 : s.heap.size < e.platform.maxCells) (h2 : s.slotsUsed + len ≤ e.platform.maxSlots) {Q : Addr → Pre} (hq : Q s.heap.size d acts (s.pushCell (arrV cA len (fun _ => v)))) : wp (Jvm.newArray cA len v) Q E e d acts s := by
  have ha : ((Array.replicate len v).all (·.isDefault)) = true := by
    rw [Array.all_replicate]
    split <;> simp [hd]
  have hx : allocActs (Array.replicate len v) s.heap.size acts = acts := by
    unfold allocActs
    rw [if_pos ha]
  have hs : ∀ i x, (Array.replicate len v)[i]? = some x → s.fitsSlot cA .none i x = true := fun i x hx => by
    rw [Array.getElem?_replicate] at hx
    split at hx
    · cases hx
      simp [State.fitsSlot, State.slotType?, hk, hkind, hf]
    · cases hx
  rw [← arrV_new] at hq
  simp only [Jvm.newArray, Jvm.arrayFits, wp_bind', W.ask, W.ite, hl, if_false, wp_pure', W.theClass, hk, hkind, hh, W.alloc, W.stop, Option.some.injEq, exists_eq_left', Array.size_replicate, hx]
  rw [if_neg (by omega)]
  exact ⟨h1, h2, hs, hq⟩
end
