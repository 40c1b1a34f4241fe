/-! the model's arithmetic of laws -/
section
variable {d : Nat} {M : ev_Mem}
def tw (o : Int32) (x y : Int64) : Int64 := if o = 5 then clp (x + y) else if o = 6 then clp (x - y) else if o = 7 then clp (x * y) else if y = 0 then 0 else clp (x / y)
theorem kX11_two {o : Int32} {x y : Int64} : Cl LM (d + 1) mX11_two [.int o, .long x, .long y] M (ev_R (some (.long (tw o x y))) M) := by
  refine Cl_of rfl (Nat.le_of_ble_eq_true rfl) rfl (gX11_two_0 ⟨fun h => ⟨?_, rfl⟩, fun h => ⟨?_, rfl⟩, fun h => ⟨?_, rfl⟩, fun h => ⟨fun q => ⟨fun z => q ((lg_cmp_eq _ _).mpr z), ?_, rfl⟩, fun q => ⟨?_, rfl⟩⟩⟩)
  · rw [h]; rfl
  · rw [h]; rfl
  · rw [h]; rfl
  · rw [tw, if_neg h.1, if_neg h.2.1, if_neg h.2.2, if_neg (fun z => q ((lg_cmp_eq _ _).mpr z))]
  · rw [tw, if_neg h.1, if_neg h.2.1, if_neg h.2.2, if_pos ((lg_cmp_eq _ _).mp q)]
def asq (o : Int32) (x y : Int64) : Bool := if o = 10 then decide (x < y) else if o = 11 then decide (x ≤ y) else if o = 12 then decide (y < x) else if o = 13 then decide (y ≤ x) else if o = 14 then decide (x = y) else !decide (x = y)
theorem L_nlt {x y : Int64} : ¬ x < y ↔ y ≤ x := by rw [fa_lt64, fa_le64]; omega
theorem L_nle {x y : Int64} : ¬ x ≤ y ↔ y < x := by rw [fa_lt64, fa_le64]; omega
theorem kX11_isAsked {o : Int32} {x y : Int64} : Cl LM d mX11_isAsked [.int o, .long x, .long y] M (ev_R (some (.int (bi (asq o x y)))) M) := by
  have t0 : ∀ {b : Bool}, b = false → ev_R (some (.int (bi b))) M (some (.int 0)) M := fun h => ⟨by rw [h]; rfl, rfl⟩
  have t1 : ∀ {b : Bool}, b = true → ev_R (some (.int (bi b))) M (some (.int 1)) M := fun h => ⟨by rw [h]; rfl, rfl⟩
  refine Cl_of rfl (Nat.le_of_ble_eq_true rfl) rfl (gX11_isAsked_0 ?_)
  refine ⟨fun h10 => ⟨fun h11 => ⟨fun h12 => ⟨fun h13 => ⟨fun h14 => ⟨fun q => t0 ?_, fun q => t1 ?_⟩, fun h14 => ⟨fun q => t0 ?_, fun q => t1 ?_⟩⟩, fun h13 => ⟨fun q => t0 ?_, fun q => t1 ?_⟩⟩, fun h12 => ⟨fun q => t0 ?_, fun q => t1 ?_⟩⟩, fun h11 => ⟨fun q => t0 ?_, fun q => t1 ?_⟩⟩, fun h10 => ⟨fun q => t0 ?_, fun q => t1 ?_⟩⟩
  · rw [asq, if_neg h10, if_neg h11, if_neg h12, if_neg h13, if_neg h14, decide_eq_true ((lg_cmp_eq _ _).mp q)]; rfl
  · rw [asq, if_neg h10, if_neg h11, if_neg h12, if_neg h13, if_neg h14, decide_eq_false (fun z => q ((lg_cmp_eq _ _).mpr z))]; rfl
  · rw [asq, h14]; exact decide_eq_false (fun z => q ((lg_cmp_eq _ _).mpr z))
  · rw [asq, h14]; exact decide_eq_true ((lg_cmp_eq _ _).mp q)
  · rw [asq, h13]; exact decide_eq_false (fun z => L_nlt.mpr z ((lg_cmp_lt _ _).mp q))
  · rw [asq, h13]; exact decide_eq_true (L_nlt.mp (fun z => q ((lg_cmp_lt _ _).mpr z)))
  · rw [asq, h12]; exact decide_eq_false (fun z => L_nle.mpr z ((lg_cmp_le _ _).mp q))
  · rw [asq, h12]; exact decide_eq_true (L_nle.mp (fun z => q ((lg_cmp_le _ _).mpr z)))
  · rw [asq, h11]; exact decide_eq_false (fun z => L_nlt.mpr z ((lg_cmp_gt _ _).mp q))
  · rw [asq, h11]; exact decide_eq_true (L_nlt.mp (fun z => q ((lg_cmp_gt _ _).mpr z)))
  · rw [asq, h10]; exact decide_eq_false (fun z => L_nle.mpr z ((lg_cmp_ge _ _).mp q))
  · rw [asq, h10]; exact decide_eq_true (L_nle.mp (fun z => q ((lg_cmp_ge _ _).mpr z)))
/-- how often the key of a number was used -/
def usv (M : ev_Mem) (x : Int64) : Int64 := if 0 ≤ x ∧ x < 26 then (M.1 1 (13 + x.toInt32).toNatClampNeg).toInt64 else 0
theorem kX11_usesOf {x : Int64} : Cl LM d mX11_usesOf [.ref 0, .long x] M (ev_R (some (.long (usv M x))) M) := by
  refine Cl_of rfl (Nat.le_of_ble_eq_true rfl) rfl (gX11_usesOf_0 ⟨fun h => ⟨?_, rfl⟩, fun h => ⟨fun h2 => ⟨?_, rfl⟩, fun h2 => ⟨?_, ?_, rfl⟩⟩⟩)
  · rw [usv, if_neg (fun z => L_nlt.mpr z.1 ((lg_cmp_lt _ _).mp h))]
  · rw [usv, if_neg (fun z => L_nle.mpr z.2 ((lg_cmp_ge _ _).mp h2))]
  · have q1 : (0 : Int64) ≤ x := L_nlt.mp (fun z => h ((lg_cmp_lt _ _).mpr z))
    have q2 : x < 26 := L_nle.mp (fun z => h2 ((lg_cmp_ge _ _).mpr z))
    obtain ⟨j, hj, rfl⟩ := pk_lOf (L_nlt.mpr q1)
    have hj26 : j < 26 := (pk_lLT (a := j) (b := 26) hj (by omega)).mp q2
    rw [lN_i, show (13 : Int32) = nI 13 from rfl, nI_add]
    exact vp_in_nI (by omega) (by omega)
  · rw [usv, if_pos ⟨L_nlt.mp (fun z => h ((lg_cmp_lt _ _).mpr z)), L_nle.mp (fun z => h2 ((lg_cmp_ge _ _).mpr z))⟩]
def jnb (o x y : Int32) : Bool := if o = 21 then (!decide (x = 0) && !decide (y = 0)) else (!decide (x = 0) || !decide (y = 0))
theorem kX11_joined {o x y : Int32} : Cl LM d mX11_joined [.int o, .int x, .int y] M (ev_R (some (.int (bi (jnb o x y)))) M) := by
  have t0 : ∀ {b : Bool}, b = false → ev_R (some (.int (bi b))) M (some (.int 0)) M := fun h => ⟨by rw [h]; rfl, rfl⟩
  have t1 : ∀ {b : Bool}, b = true → ev_R (some (.int (bi b))) M (some (.int 1)) M := fun h => ⟨by rw [h]; rfl, rfl⟩
  refine Cl_of rfl (Nat.le_of_ble_eq_true rfl) rfl (gX11_joined_0 ⟨fun h => ⟨fun q => t1 ?_, fun q => ⟨fun q2 => t0 ?_, fun q2 => t1 ?_⟩⟩, fun h => ⟨fun q => t0 ?_, fun q => ⟨fun q2 => t0 ?_, fun q2 => t1 ?_⟩⟩⟩)
  · rw [jnb, if_neg h, decide_eq_false q]; rfl
  · rw [jnb, if_neg h, decide_eq_true q, decide_eq_true q2]; rfl
  · rw [jnb, if_neg h, decide_eq_true q, decide_eq_false q2]; rfl
  · rw [jnb, if_pos h, decide_eq_true q]; rfl
  · rw [jnb, if_pos h, decide_eq_false q, decide_eq_true q2]; rfl
  · rw [jnb, if_pos h, decide_eq_false q, decide_eq_false q2]; rfl
end
