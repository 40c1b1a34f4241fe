/-! THE RELATION OF THE WHOLE STATES -/
section
variable {d : Nat} {M N : ev_Mem}
/-- a clause of a script: its kind q, its row from st on, the model's from x on, u numbers in the row -/
def clR (c tx : Nat → Int32) (u st x q : Nat) : Prop :=
  (q = 3 → ∃ len, 1 ≤ len ∧ len ≤ 9 ∧ st + len + 4 ≤ u ∧ c st = nI len ∧ tx (x + 4) = nI len ∧ (∀ i, i < len → ∃ l, l < 26 ∧ c (st + 1 + i) = nI (97 + l) ∧ tx (x + 5 + i) = nI l) ∧ (c (st + len + 1) = tx (x + 1) ∧ upto (tx (x + 1)) 6) ∧ (c (st + len + 2) = tx (x + 2) ∧ upto (tx (x + 2)) 11) ∧ c (st + len + 3) = tx (x + 3) ∧ upto (tx (x + 3)) 9) ∧
  (q = 4 → ∃ m, 1 ≤ m ∧ m ≤ 5 ∧ st + m + 1 ≤ u ∧ c st = nI m ∧ tx (x + 1) = nI m ∧ ∀ i, i < m → c (st + 1 + i) = tx (x + 2 + i) ∧ upto (tx (x + 2 + i)) 11) ∧
  (q = 5 → st + 3 ≤ u ∧ (c st = tx (x + 2) ∧ upto (tx (x + 2)) 25) ∧ (c (st + 1) = tx (x + 4) ∧ upto (tx (x + 4)) 25) ∧ c (st + 2) = tx (x + 5) ∧ upto (tx (x + 5)) 9) ∧
  (q = 6 → st + 1 ≤ u ∧ c st = tx (x + 2) ∧ upto (tx (x + 2)) 25) ∧
  (7 ≤ q → st + 1 ≤ u ∧ c st = tx (x + 1) ∧ (q = 7 → upto (tx (x + 1)) 23) ∧ (q = 8 → upto (tx (x + 1)) 7) ∧ (q = 9 → upto (tx (x + 1)) 40 ∧ ¬ tx (x + 1) = 0))
/-- the clauses of text t -/
def dcR (M N : ev_Mem) (t : Nat) : Prop := ∃ n u, (n ≤ 24 ∧ M.1 (61 + 5 * t) 4 = nI n ∧ N.1 4 (945 * t) = nI n) ∧ (u ≤ 300 ∧ M.1 (61 + 5 * t) 1 = nI u) ∧ ∀ k, k < n → ∃ q st, q ≤ 9 ∧ st ≤ 300 ∧ M.1 (61 + 5 * t + 2) k = nI q ∧ M.1 (61 + 5 * t + 3) k = nI st ∧ N.1 4 (945 * t + 1 + 14 * k) = nI q ∧ clR (M.1 (61 + 5 * t + 1)) (N.1 4) u st (945 * t + 1 + 14 * k) q
def txtR (M N : ev_Mem) (t : Nat) : Prop := (∀ k, k < 3 → lawR M N t k) ∧ dcR M N t
theorem txtR_cg {M2 N2 : ev_Mem} {t : Nat} (hM : ∀ i, 61 + 5 * t ≤ i → i < 61 + 5 * t + 5 → M.1 i = M2.1 i) (hN : N.1 4 = N2.1 4) (h : txtR M N t) : txtR M2 N2 t := by
  refine ⟨fun k hk => lawR_cg hM hN (h.1 k hk), ?_⟩
  have := h.2
  unfold dcR at this ⊢
  rw [hM (61 + 5 * t) (by omega) (by omega), hM (61 + 5 * t + 1) (by omega) (by omega), hM (61 + 5 * t + 2) (by omega) (by omega), hM (61 + 5 * t + 3) (by omega) (by omega), hN] at this
  exact this
/-- the states at hand, the images, the texts -/
def RX (B : Nat) (M N : ev_Mem) : Prop := ∃ W S T Wk Sk Tk, (stRel B M W S 43 47 (N.1 1) ∧ M.1 3 5 = nI W ∧ M.1 3 8 = nI S ∧ N.1 1 2 = nI T ∧ T ≤ 4) ∧ (stRel B M Wk Sk 100 104 (N.1 2) ∧ M.1 0 16 = nI Wk ∧ M.1 0 17 = nI Sk ∧ N.1 2 2 = nI Tk) ∧ (Wk ≤ W ∧ Sk ≤ S ∧ Tk ≤ T) ∧ (∀ t, t < T → txtR M N t) ∧ tRel M N ∧ fRel M N
theorem RX_pe {B : Nat} {N2 : ev_Mem} (h : pe N N2) (k : RX B M N) : RX B M N2 := by
  obtain ⟨W, S, T, Wk, Sk, Tk, h1, h2, h3, h4, h5, h6⟩ := k
  refine ⟨W, S, T, Wk, Sk, Tk, ?_, ?_, h3, fun t ht => txtR_cg (fun _ _ _ => rfl) h.1.2.2.2.1 (h4 t ht), h5.pe h, h6.pe h⟩
  · rw [← h.1.1]; exact h1
  · rw [← h.1.2.1]; exact h2
theorem RX_up {B B2 : Nat} (h : B ≤ B2) (k : RX B M N) : RX B2 M N := by
  obtain ⟨W, S, T, Wk, Sk, Tk, h1, h2, h3⟩ := k
  exact ⟨W, S, T, Wk, Sk, Tk, ⟨stRel_up h h1.1, h1.2⟩, ⟨stRel_up h h2.1, h2.2⟩, h3⟩
/-- what the relation reads of the class -/
def xq (M M2 : ev_Mem) : Prop := (∀ k, k < 81 → M2.1 k = M.1 k) ∧ (∀ j, j < 5 → M2.1 81 j = M.1 81 j) ∧ ∀ k, 100 ≤ k → k < 118 → M2.1 k = M.1 k
theorem xq.rf : xq M M := ⟨fun _ _ => rfl, fun _ _ => rfl, fun _ _ _ => rfl⟩
theorem xq.tr {M1 M2 : ev_Mem} (h : xq M M1) (k : xq M1 M2) : xq M M2 := ⟨fun i hi => (k.1 i hi).trans (h.1 i hi), fun i hi => (k.2.1 i hi).trans (h.2.1 i hi), fun i h1 h2 => (k.2.2 i h1 h2).trans (h.2.2 i h1 h2)⟩
theorem xq_q {M2 : ev_Mem} (h : qfr M M2) : xq M M2 := ⟨fun k hk => h.1 k (by omega), fun j _ => by rw [h.1 81 (by omega)], fun k h1 h2 => h.1 k (by omega)⟩
theorem RX_xq {B : Nat} {M2 : ev_Mem} (h : xq M M2) (k : RX B M N) : RX B M2 N := by
  obtain ⟨W, S, T, Wk, Sk, Tk, h1, h2, h3, h4, h5, h6⟩ := k
  have c : ∀ k, k < 81 → M.1 k = M2.1 k := fun k hk => (h.1 k hk).symm
  have cc : ∀ k, 100 ≤ k → k < 118 → M.1 k = M2.1 k := fun k h1 h2 => (h.2.2 k h1 h2).symm
  refine ⟨W, S, T, Wk, Sk, Tk, ⟨stRel_xe (fun k hk => c k (by omega)) (fun k _ _ => c k (by omega)) (fun k _ _ => c k (by omega)) h1.1, by rw [← c 3 (by omega)]; exact h1.2⟩, ⟨stRel_xe (fun k hk => c k (by omega)) (fun k _ _ => cc k (by omega) (by omega)) (fun k _ _ => cc k (by omega) (by omega)) h2.1, by rw [← c 0 (by omega)]; exact h2.2⟩, h3, fun t ht => txtR_cg (fun i _ _ => c i (by omega)) rfl (h4 t ht), ?_, ?_⟩
  · obtain ⟨n, k1, k2, k3, k4⟩ := h5
    exact ⟨n, k1, by rw [← c 1 (by omega)]; exact k2, k3, by rw [← c 2 (by omega)]; exact k4⟩
  · unfold fRel at h6 ⊢
    rw [← cc 117 (by omega) (by omega), h.2.1 2 (by omega), h.2.1 3 (by omega), h.2.1 4 (by omega)]
    exact h6
/-- the relation of how things sound, out of the states' -/
theorem RX_sd {B W S T : Nat} (h1 : stRel B M W S 43 47 (N.1 1) ∧ M.1 3 5 = nI W ∧ M.1 3 8 = nI S ∧ N.1 1 2 = nI T ∧ T ≤ 4) (h4 : ∀ t, t < T → txtR M N t) : sdR M N W T (M.1 43 0) ∧ senR M N S := by
  obtain ⟨⟨⟨a1, a2, a3⟩, ⟨b1, b2, b3⟩, m1, n1, ⟨T2, n2, n3, n4, n5, n6⟩, -⟩, e1, e2, e3, e4⟩ := h1
  have hm := m1.1
  have eT : T2 = T := (nI_eq (by omega) (by omega)).mp (n4.symm.trans e3)
  subst eT
  refine ⟨⟨a1, e1, a2, a3, n1, hm.2.1.1.symm, by rw [hm.2.1.1]; exact hm.2.1.2, hm.2.2.2.1, fun l hl => ?_, n2, n3, n4, n5, n6, fun t ht k hk => (h4 t ht).1 k hk⟩, b1, e2, b2, b3⟩
  have := hm.1 l hl
  have e : 8 + (5 + l) = 13 + l := by omega
  simp only [e] at this
  exact this
/-- an answer: an int, or a long where the method says so -/
def vOK (y : ev_Y) (v : Option Value) : Prop := (y.2.2.2 ≠ some .long ∧ ∃ w, v = some (.int w)) ∨ (y.2.2.2 = some .long ∧ ∃ w, v = some (.long w))
theorem vok {y : ev_Y} (w : Int32) (h : y.2.2.2 ≠ some .long := by decide) : vOK y (some (.int w)) := Or.inl ⟨h, w, rfl⟩
theorem vol {y : ev_Y} (w : Int64) (h : y.2.2.2 = some .long := by decide) : vOK y (some (.long w)) := Or.inr ⟨h, w, rfl⟩
/-- one call: the same answer, and the states stay related -/
def OP (D : Nat) (x m : ev_Y) (as : List Value) (B : Nat) (M N : ev_Mem) : Prop := ∃ v, vOK x v ∧ ∃ N1, Cl LX D x (.ref 0 :: as) M (fun r M2 => r = v ∧ RX (B + 2000) M2 N1) ∧ Cl LM D m (.ref 0 :: as) N (fun r N2 => r = v ∧ pe N1 N2)
theorem op_ro {D B : Nat} {x m : ev_Y} {as : List Value} {v : Option Value} (h : RX B M N) (hx : Cl LX D x (.ref 0 :: as) M (fun r M2 => r = v ∧ xq M M2)) (hm : Cl LM D m (.ref 0 :: as) N (fun r N2 => r = v ∧ pe N N2)) (hv : vOK x v := by first | exact vok _ | exact vol _) : OP D x m as B M N :=
  ⟨v, hv, N, Cl.mono hx (fun _ _ q => ⟨q.1, RX_up (by omega) (RX_xq q.2 h)⟩), hm⟩
end
