/-! Integer.bitCount and the model's bits are the same -/
section
variable {d : Nat} {M : ev_Mem}
theorem bc_pc {x : Nat} (hx : x < 2 ^ 32) : bc (nI x) = nI (pcF 32 x) := by
  rw [← swar_pc x hx]
  have l1 : w1 x 1431655765 ≤ x := Nat.sub_le _ _
  have a2 : (w1 x 1431655765 &&& 858993459) ≤ 858993459 := Nat.and_le_right
  have b2 : (w1 x 1431655765 / 4 &&& 858993459) ≤ 858993459 := Nat.and_le_right
  have l2 : w2 (w1 x 1431655765) 858993459 ≤ 1717986918 := by unfold w2; omega
  have l3 : w3 (w2 (w1 x 1431655765) 858993459) 252645135 ≤ 252645135 := Nat.and_le_right
  unfold bc swar
  simp only
  have s1 : ((nI x).toUInt32 >>> ((1 : Int32).toUInt32 &&& Int32.toUInt32 31)).toInt32 = nI (x / 2) := pk_ushrN hx 1 1 (by decide)
  have v1 : nI x - (nI (x / 2) &&& 1431655765) = nI (w1 x 1431655765) := by
    rw [show (1431655765 : Int32) = nI 1431655765 from rfl, fa_and, pk_sub (and_le_self x _)]
    rfl
  rw [s1, v1]
  have s2 : ((nI (w1 x 1431655765)).toUInt32 >>> ((2 : Int32).toUInt32 &&& Int32.toUInt32 31)).toInt32 = nI (w1 x 1431655765 / 4) := pk_ushrN (by omega) 2 2 (by decide)
  have v2 : (nI (w1 x 1431655765) &&& 858993459) + (nI (w1 x 1431655765 / 4) &&& 858993459) = nI (w2 (w1 x 1431655765) 858993459) := by
    rw [show (858993459 : Int32) = nI 858993459 from rfl, fa_and, fa_and, nI_add]
    rfl
  rw [s2, v2]
  generalize w2 (w1 x 1431655765) 858993459 = z at l2 l3 ⊢
  have s3 : ((nI z).toUInt32 >>> ((4 : Int32).toUInt32 &&& Int32.toUInt32 31)).toInt32 = nI (z / 16) := pk_ushrN (by omega) 4 4 (by decide)
  have v3 : (nI z + nI (z / 16)) &&& 252645135 = nI (w3 z 252645135) := by
    rw [nI_add, show (252645135 : Int32) = nI 252645135 from rfl, fa_and]
    rfl
  rw [s3, v3]
  generalize w3 z 252645135 = y at l3 ⊢
  have s4 : ((nI y).toUInt32 >>> ((8 : Int32).toUInt32 &&& Int32.toUInt32 31)).toInt32 = nI (y / 256) := pk_ushrN (by omega) 8 8 (by decide)
  rw [s4, nI_add]
  have s5 : ((nI (y + y / 256)).toUInt32 >>> ((16 : Int32).toUInt32 &&& Int32.toUInt32 31)).toInt32 = nI ((y + y / 256) / 65536) := pk_ushrN (by omega) 16 16 (by decide)
  rw [s5, nI_add, show (63 : Int32) = nI 63 from rfl, fa_and]
theorem kX11_bits {x : Int32} : Cl LM d mX11_bits [.int x] M (ev_R (some (.int (bc x))) M) := by
  obtain ⟨n, hn, rfl⟩ := wb_of32 x
  rw [bc_pc hn]
  refine Cl_of rfl (Nat.le_of_ble_eq_true rfl) rfl (gX11_bits_0 ?_)
  have lp : ∀ (j m c : Nat), m < 2 ^ 32 → pcF 32 m = j → Ev LM d mX11_bits 4 [none, some (.int (nI c)), some (.int (nI m))] [] M (ev_R (some (.int (nI (c + j)))) M) := by
    intro j
    induction j with
    | zero =>
      intro m c hm hj
      have h0 : m = 0 := by
        rcases Nat.eq_zero_or_pos m with z | z
        · exact z
        · have := pcF_kern 32 m z hm
          omega
      subst h0
      exact gX11_bits_4 ⟨fun _ => ⟨rfl, rfl⟩, fun h => absurd rfl h⟩
    | succ j ih =>
      intro m c hm hj
      have hp : 0 < m := by
        rcases Nat.eq_zero_or_pos m with z | z
        · rw [z, pcF_0] at hj; omega
        · exact z
      have hk := pcF_kern 32 m hp hm
      refine gX11_bits_4 ⟨fun h => ?_, fun _ => ?_⟩
      · have h2 : (nI m).toBitVec.toNat = (0 : Int32).toBitVec.toNat := by rw [h]
        rw [pk_tn hm, show (0 : Int32).toBitVec.toNat = 0 from rfl] at h2
        omega
      · have e1 : nI m - 1 = nI (m - 1) := by
          rw [show m = (m - 1) + 1 by omega, nI_pred]
          rfl
        rw [e1, fa_and, nI_1]
        have := ih (m &&& (m - 1)) (c + 1) (Nat.lt_of_le_of_lt Nat.and_le_left hm) (by omega)
        rw [show c + 1 + j = c + (j + 1) by omega] at this
        exact this
  have := lp (pcF 32 n) n 0 hn rfl
  rw [Nat.zero_add] at this
  exact this
end
