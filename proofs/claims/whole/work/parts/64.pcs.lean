/-! THE RELATION's pieces, one by one -/
section
def nR1 (f g a : Nat → Int32) : Prop := ∀ l, l < 26 → f l = a (399 + 2 * l) ∧ (a (399 + 2 * l) = -1 ∨ upto (a (399 + 2 * l)) 25) ∧ g l = a (399 + 2 * l + 1) ∧ upto (a (399 + 2 * l + 1)) 9
def nR2 (x y : Int32) (a : Nat → Int32) : Prop := ∃ T, T ≤ 4 ∧ x = nI T ∧ a 2 = nI T ∧ y = a 3 ∧ (a 3 = -1 ∨ ∃ t, t < T ∧ a 3 = nI t)
def nR3 (W : Nat) (x : Int32) (f a : Nat → Int32) : Prop := ∃ p, p ≤ 8 ∧ x = nI p ∧ a 5 = nI p ∧ ∀ i, i < p → f i = a (451 + i) ∧ ∃ w, w < W ∧ a (451 + i) = nI w
def nR4 (x : Int32) (f : Nat → Int32) (g : Nat → Nat → Int32) (a : Nat → Int32) : Prop := ∃ r, r ≤ 5 ∧ x = nI r ∧ a 6 = nI r ∧ ∀ i, i < r → f i = a (459 + 10 * i) ∧ ∃ n, 1 ≤ n ∧ n ≤ 9 ∧ a (459 + 10 * i) = nI n ∧ ∀ j, j < n → rRel (g i j) (a (459 + 10 * i + 1 + j))
def nR5 (W : Nat) (x : Int32) (f g a : Nat → Int32) : Prop := ∃ h, h ≤ 8 ∧ x = nI h ∧ a 7 = nI h ∧ ∀ i, i < h → f i = a (509 + 2 * i) ∧ g i = a (509 + 2 * i + 1) ∧ (∃ w, w < W ∧ a (509 + 2 * i) = nI w) ∧ upto (a (509 + 2 * i + 1)) 99
variable {M M2 N N2 : ev_Mem} {nc W W2 : Nat} {a a2 : Nat → Int32}
theorem nRel_iff : nRel M nc W a ↔ nR1 (M.1 (nc + 1)) (M.1 (nc + 2)) a ∧ nR2 (M.1 nc 2) (M.1 nc 3) a ∧ nR3 W (M.1 nc 5) (M.1 (nc + 3)) a ∧ nR4 (M.1 nc 8) (M.1 (nc + 10)) (fun i => M.1 (nc + 5 + i)) a ∧ nR5 W (M.1 nc 11) (M.1 (nc + 11)) (M.1 (nc + 12)) a := Iff.rfl
theorem nR1_cg {f g : Nat → Int32} (ha : ∀ i, 399 ≤ i → i < 451 → a2 i = a i) (h : nR1 f g a) : nR1 f g a2 := fun l hl => by
  rw [ha (399 + 2 * l) (by omega) (by omega), ha (399 + 2 * l + 1) (by omega) (by omega)]
  exact h l hl
theorem nR2_cg {x y : Int32} (h2 : a2 2 = a 2) (h3 : a2 3 = a 3) (h : nR2 x y a) : nR2 x y a2 := by
  unfold nR2 at h ⊢; rw [h2, h3]; exact h
theorem nR3_cg {x : Int32} {f : Nat → Int32} (hW : W ≤ W2) (h5 : a2 5 = a 5) (ha : ∀ i, 451 ≤ i → i < 459 → a2 i = a i) (h : nR3 W x f a) : nR3 W2 x f a2 := by
  obtain ⟨p, h1, h2, h3, h4⟩ := h
  refine ⟨p, h1, h2, by rw [h5]; exact h3, fun i hi => ?_⟩
  rw [ha (451 + i) (by omega) (by omega)]
  obtain ⟨q1, w, q2, q3⟩ := h4 i hi
  exact ⟨q1, w, by omega, q3⟩
theorem nR4_cg {x : Int32} {f : Nat → Int32} {g : Nat → Nat → Int32} (h6 : a2 6 = a 6) (ha : ∀ i, 459 ≤ i → i < 509 → a2 i = a i) (h : nR4 x f g a) : nR4 x f g a2 := by
  obtain ⟨p, h1, h2, h3, h4⟩ := h
  refine ⟨p, h1, h2, by rw [h6]; exact h3, fun i hi => ?_⟩
  rw [ha (459 + 10 * i) (by omega) (by omega)]
  obtain ⟨q1, n, q2, q3, q4, q5⟩ := h4 i hi
  refine ⟨q1, n, q2, q3, q4, fun j hj => ?_⟩
  rw [ha (459 + 10 * i + 1 + j) (by omega) (by omega)]
  exact q5 j hj
theorem nR5_cg {x : Int32} {f g : Nat → Int32} (hW : W ≤ W2) (h7 : a2 7 = a 7) (ha : ∀ i, 509 ≤ i → i < 525 → a2 i = a i) (h : nR5 W x f g a) : nR5 W2 x f g a2 := by
  obtain ⟨p, h1, h2, h3, h4⟩ := h
  refine ⟨p, h1, h2, by rw [h7]; exact h3, fun i hi => ?_⟩
  rw [ha (509 + 2 * i) (by omega) (by omega), ha (509 + 2 * i + 1) (by omega) (by omega)]
  obtain ⟨q1, q2, ⟨w, q3, q4⟩, q5⟩ := h4 i hi
  exact ⟨q1, q2, ⟨w, by omega, q4⟩, q5⟩
theorem upd_ne {f : Nat → Int32} {i j : Nat} {v : Int32} (h : j ≠ i) : upd f i v j = f j := if_neg h
theorem upd_eq {f : Nat → Int32} {i : Nat} {v : Int32} : upd f i v i = v := if_pos rfl
/-- the parts of RX that a call on the machine, the notes or the reasons leaves alone -/
theorem RX_kp {B B2 W S T Wk Sk Tk : Nat} (hB : B ≤ B2) (h : (stRel B M Wk Sk 100 104 (N.1 2) ∧ M.1 0 16 = nI Wk ∧ M.1 0 17 = nI Sk ∧ N.1 2 2 = nI Tk) ∧ (Wk ≤ W ∧ Sk ≤ S ∧ Tk ≤ T) ∧ (∀ t, t < T → txtR M N t) ∧ tRel M N ∧ fRel M N)
    (c1 : ∀ k, k < 43 → M2.1 k = M.1 k) (c2 : ∀ k, 60 ≤ k → k < 81 → M2.1 k = M.1 k) (c3 : ∀ k, 100 ≤ k → k < 117 → M2.1 k = M.1 k) (c4 : ∀ j, j < 5 → M2.1 81 j = M.1 81 j) (n2 : N2.1 2 = N.1 2) (n4 : N2.1 4 = N.1 4) (n5 : N2.1 5 = N.1 5) (n0 : ∀ j, 5 ≤ j → j < 8 → N2.1 0 j = N.1 0 j) (hf : ∀ i, i < 3 → M2.1 117 i = N2.1 3 i ∧ upto (N2.1 3 i) 9999) :
    (stRel B2 M2 Wk Sk 100 104 (N2.1 2) ∧ M2.1 0 16 = nI Wk ∧ M2.1 0 17 = nI Sk ∧ N2.1 2 2 = nI Tk) ∧ (Wk ≤ W ∧ Sk ≤ S ∧ Tk ≤ T) ∧ (∀ t, t < T → t < 4 → txtR M2 N2 t) ∧ tRel M2 N2 ∧ fRel M2 N2 := by
  obtain ⟨⟨k1, k2, k3, k4⟩, h3, h4, h5, h6⟩ := h
  refine ⟨⟨?_, by rw [c1 0 (by omega)]; exact k2, by rw [c1 0 (by omega)]; exact k3, by rw [n2]; exact k4⟩, h3, fun t ht ht4 => txtR_cg (fun i _ _ => (c2 i (by omega) (by omega)).symm) n4.symm (h4 t ht), ?_, ?_⟩
  · rw [n2]
    exact stRel_up hB (stRel_xe (fun k hk => (c1 k hk).symm) (fun k _ _ => (c3 k (by omega) (by omega)).symm) (fun k _ _ => (c3 k (by omega) (by omega)).symm) k1)
  · obtain ⟨n, q1, q2, q3, q4⟩ := h5
    exact ⟨n, q1, by rw [c1 1 (by omega)]; exact q2, by rw [n0 5 (by omega) (by omega)]; exact q3, by rw [c1 2 (by omega), n5]; exact q4⟩
  · refine ⟨hf, ?_⟩
    rw [c4 2 (by omega), c4 3 (by omega), c4 4 (by omega), n0 6 (by omega) (by omega), n0 7 (by omega) (by omega)]
    exact h6.2
theorem stRel_dn {B S mc : Nat} (h : stRel B M W S mc nc a) (hd : ∀ k, k < 43 → M2.1 k = M.1 k) (hm : ∀ k, mc ≤ k → k < mc + 4 → M2.1 k = M.1 k) (h4 : a2 4 = a 4) (h01 : a2 0 = a 0 ∧ a2 1 = a 1) (ha : ∀ i, (8 ≤ i ∧ i < 399) ∨ (525 ≤ i ∧ i < 3315) → a2 i = a i) (hn : nRel M2 nc W a2) : stRel B M2 W S mc nc a2 := by
  obtain ⟨⟨h1, h2, h3⟩, ⟨h5, h6, h7⟩, h8, h9⟩ := h
  refine ⟨⟨h1, by rw [h01.1]; exact h2, fun w hw => wRel_cg (by omega) (fun k _ _ => (hd k (by omega)).symm) (fun i _ _ => (ha i (by omega)).symm) (h3 w hw)⟩, ⟨h5, by rw [h01.2]; exact h6, fun s hs => sRel_cg (by omega) (fun k _ _ => (hd k (by omega)).symm) (fun i _ _ => (ha i (by omega)).symm) (h7 s hs)⟩, mRel_cg (fun k q1 q2 => (hm k q1 q2).symm) h4.symm (fun i _ _ => (ha i (by omega)).symm) (fun i _ _ => (ha i (by omega)).symm) h8, hn⟩
theorem RX_fr (hR : fRel M N) : ∀ i, i < 3 → M.1 117 i = N.1 3 i ∧ upto (N.1 3 i) 9999 := hR.1
/-- both refuse -/
theorem rfs_cell {c k r : Nat} (h : k ≠ c) : (rfs M c r).1 k = M.1 k := by
  unfold rfs; split
  · rfl
  · rw [wr_cell h]
theorem RX_rfs {B r : Nat} (hr : r < 3) (h : RX B M N) : RX B (rfs M 117 r) (rfs N 3 r) := by
  obtain ⟨W, S, T, Wk, Sk, Tk, h1, h2, h3, h4, h5, h6⟩ := h
  have hT := h1.2.2.2.2
  have e := RX_kp (M2 := rfs M 117 r) (N2 := rfs N 3 r) (Nat.le_refl B) ⟨h2, h3, h4, h5, h6⟩ (fun k _ => rfs_cell (by omega)) (fun k _ _ => rfs_cell (by omega)) (fun k _ _ => rfs_cell (by omega)) (fun j _ => by rw [rfs_cell (by omega)]) (rfs_cell (by omega)) (rfs_cell (by omega)) (rfs_cell (by omega)) (fun j _ _ => by rw [rfs_cell (by omega)]) ?_
  · refine ⟨W, S, T, Wk, Sk, Tk, ⟨?_, by rw [rfs_cell (by omega)]; exact h1.2.1, by rw [rfs_cell (by omega)]; exact h1.2.2.1, by rw [rfs_cell (by omega)]; exact h1.2.2.2.1, hT⟩, e.1, e.2.1, fun t ht => e.2.2.1 t ht (by omega), e.2.2.2⟩
    rw [show (rfs N 3 r).1 1 = N.1 1 from rfs_cell (by omega)]
    exact stRel_xe (fun k _ => (rfs_cell (by omega)).symm) (fun k _ _ => (rfs_cell (by omega)).symm) (fun k _ _ => (rfs_cell (by omega)).symm) h1.1
  · intro i hi
    obtain ⟨q1, n, q2, q3⟩ := h6.1 i hi
    obtain ⟨p1, m, p2, p3⟩ := h6.1 r hr
    by_cases e : i = r
    · subst e
      unfold rfs
      rw [q1]
      split
      · exact ⟨q1, n, q2, q3⟩
      · rename_i z
        rw [wr_same, wr_same]
        refine ⟨rfl, n + 1, ?_, by rw [q3, nI_1]⟩
        rw [q3] at z
        rcases Nat.lt_or_ge n 9999 with y | y
        · omega
        · exact absurd (nI_le (a := 9999) y (by omega)) z
    · have e1 : (rfs M 117 r).1 117 i = M.1 117 i := by
        unfold rfs; split
        · rfl
        · rw [wr_ne (by omega)]
      have e2 : (rfs N 3 r).1 3 i = N.1 3 i := by
        unfold rfs; split
        · rfl
        · rw [wr_ne (by omega)]
      rw [e1, e2]
      exact ⟨q1, n, q2, q3⟩
end
