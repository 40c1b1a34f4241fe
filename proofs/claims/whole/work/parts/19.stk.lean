/-! the law's stack -/
section
variable {d : Nat} {M : ev_Mem}
def hgt (M : ev_Mem) (b : Nat) : Prop := ∃ n, n < b ∧ M.1 83 4 = nI n
def hgp (M : ev_Mem) : Prop := ∃ n, n < 64 ∧ M.1 83 4 = nI (n + 1)
def pushM (M : ev_Mem) (x : Int32) : ev_Mem := ev_wr (ev_wr M 85 (M.1 83 4).toNatClampNeg x) 83 4 (M.1 83 4 + 1)
def popM (M : ev_Mem) : ev_Mem := ev_wr M 83 4 (M.1 83 4 - 1)
def topV (M : ev_Mem) : Int32 := M.1 85 (M.1 83 4 - 1).toNatClampNeg
theorem qX1_push {x : Int32} (h : hgt M 64) : Cl LX d mX1_push [.ref 83, .int x] M (ev_R none (pushM M x)) := by
  obtain ⟨n, hn, e⟩ := h
  have := kX1_push (d := d) (x := x) hn e
  unfold pushM
  rw [e, nI_clamp (by omega), nI_1]
  exact this
theorem qX1_pop (h : hgp M) : Cl LX d mX1_pop [.ref 83] M (ev_R (some (.int (topV M))) (popM M)) := by
  obtain ⟨n, hn, e⟩ := h
  have := kX1_pop (d := d) hn e
  unfold popM topV
  rw [e, nI_pred, nI_clamp (by omega)]
  exact this
/-- the stack holds l, its top first -/
def stk (M : ev_Mem) (l : List Int32) : Prop := l.length ≤ 64 ∧ M.1 83 4 = nI l.length ∧ ∀ i, i < l.length → M.1 85 i = l.getD (l.length - 1 - i) 0
theorem stk_hgt {l : List Int32} (h : stk M l) (hl : l.length < 64) : hgt M 64 := ⟨_, hl, h.2.1⟩
theorem stk_hgp {x : Int32} {l : List Int32} (h : stk M (x :: l)) : hgp M := ⟨l.length, by have := h.1; simp only [List.length_cons] at this; omega, h.2.1⟩
theorem stk_push {x : Int32} {l : List Int32} (h : stk M l) (hl : l.length < 64) : stk (pushM M x) (x :: l) := by
  obtain ⟨h1, h2, h3⟩ := h
  unfold pushM
  rw [h2, nI_clamp (by omega), nI_1]
  refine ⟨by simp only [List.length_cons]; omega, wr_same, fun i hi => ?_⟩
  rw [wr_cell (by omega), wr_row]
  simp only [List.length_cons] at hi ⊢
  by_cases e : i = l.length
  · subst e
    rw [pk_us, show l.length + 1 - 1 - l.length = 0 by omega]
    rfl
  · rw [pk_un e, h3 i (by omega), show l.length + 1 - 1 - i = (l.length - 1 - i) + 1 by omega]
    rfl
theorem stk_top {x : Int32} {l : List Int32} (h : stk M (x :: l)) : topV M = x := by
  obtain ⟨h1, h2, h3⟩ := h
  simp only [List.length_cons] at h1 h2 h3
  unfold topV
  rw [h2, nI_pred, nI_clamp (by omega), h3 l.length (by omega), show l.length + 1 - 1 - l.length = 0 by omega]
  rfl
theorem stk_pop {x : Int32} {l : List Int32} (h : stk M (x :: l)) : stk (popM M) l := by
  obtain ⟨h1, h2, h3⟩ := h
  simp only [List.length_cons] at h1 h2 h3
  unfold popM
  rw [h2, nI_pred]
  refine ⟨by omega, wr_same, fun i hi => ?_⟩
  rw [wr_ne (by omega), h3 i (by omega), show l.length + 1 - 1 - i = (l.length - 1 - i) + 1 by omega]
  rfl
/-- only the law's own cells differ -/
def lfr (M M2 : ev_Mem) : Prop := (∀ k, k < 83 ∨ 85 < k → M2.1 k = M.1 k) ∧ M2.2 = M.2
/-- and its names stand -/
def lf2 (M M2 : ev_Mem) : Prop := lfr M M2 ∧ M2.1 84 = M.1 84
theorem lf2.rf : lf2 M M := ⟨⟨fun _ _ => rfl, rfl⟩, rfl⟩
theorem lf2.tr {M1 M2 : ev_Mem} (h : lf2 M M1) (k : lf2 M1 M2) : lf2 M M2 := ⟨⟨fun i hi => (k.1.1 i hi).trans (h.1.1 i hi), k.1.2.trans h.1.2⟩, k.2.trans h.2⟩
theorem lf2_push {x : Int32} : lf2 M (pushM M x) := ⟨⟨fun k hk => by unfold pushM; rw [wr_cell (by omega), wr_cell (by omega)], rfl⟩, by unfold pushM; rw [wr_cell (by omega), wr_cell (by omega)]⟩
theorem lf2_pop : lf2 M (popM M) := ⟨⟨fun k hk => by unfold popM; rw [wr_cell (by omega)], rfl⟩, by unfold popM; rw [wr_cell (by omega)]⟩
/-- one step of a law as the class has written it -/
def vst (c nm us : Nat → Int32) (p : Nat) (l : List Int32) : Option (Nat × List Int32) :=
  let v1 := c p &&& 31
  let v2 := c p >>> (5 &&& 31)
  if v1 = 1 then some (p + 1, v2 :: l)
  else if v1 = 2 then some (p + 1, (if iin v2 0 11 = true then nm v2.toNatClampNeg else 0) :: l)
  else if v1 = 7 then (if 0 ≤ v2 then some (v2.toNatClampNeg, l) else none)
  else if v1 = 0 then none
  else match l with
    | [] => none
    | x :: t =>
      if v1 = 3 then some (p + 1, (-x) :: t)
      else if v1 = 4 then some (p + 1, (if iin x 0 25 = true then us x.toNatClampNeg else 0) :: t)
      else if v1 = 5 then some (p + 1, (1 - x) :: t)
      else if v1 = 6 then (if x = 0 then (if 0 ≤ v2 then some (v2.toNatClampNeg, t) else none) else some (p + 1, t))
      else match t with
        | [] => none
        | y :: t2 => some (p + 1, (clp (jn v1 y x)).toInt32 :: t2)
/-- n steps, from p to q, no place beyond u, no stack above 64 -/
def vgo (c nm us : Nat → Int32) (u : Nat) : Nat → Nat → List Int32 → Nat → List Int32 → Prop
  | 0, p, l, q, l2 => p = q ∧ l = l2
  | n + 1, p, l, q, l2 => p < u ∧ ∃ p1 l1, vst c nm us p l = some (p1, l1) ∧ l1.length ≤ 64 ∧ vgo c nm us u n p1 l1 q l2
end
