/-! a law's value, for callers -/
section
variable {d : Nat} {M : ev_Mem}
def mrn (tx : Nat → Int32) (cb : Nat) (nm : Nat → Int32) (us : Int64 → Int64) : Nat → Nat → List Int64 → List Bool → Option (List Int64 × List Bool)
  | 0, _, V, B => some (V, B)
  | n + 1, i, V, B => match mst tx cb nm us i V B with
    | some (V1, B1) => mrn tx cb nm us n (i + 1) V1 B1
    | none => none
theorem mgo_mrn {tx : Nat → Int32} {cb : Nat} {nm : Nat → Int32} {us : Int64 → Int64} : ∀ {n i : Nat} {V : List Int64} {B : List Bool} {V2 : List Int64} {B2 : List Bool}, mgo tx cb nm us n i V B V2 B2 → mrn tx cb nm us n i V B = some (V2, B2)
  | 0, i, V, B, V2, B2, h => by obtain ⟨rfl, rfl⟩ := h; rfl
  | n + 1, i, V, B, V2, B2, h => by
    obtain ⟨V1, B1, h1, -, h2⟩ := h
    rw [mrn, h1]
    exact mgo_mrn h2
/-- what clause c of text t says, by the names nm and the uses us -/
def lwv (tx : Nat → Int32) (nm : Nat → Int32) (us : Int64 → Int64) (t c : Nat) : Int64 :=
  match mrn tx (945 * t + 337) nm us ((tx (945 * t + 1 + 14 * c + 2)).toNatClampNeg - (tx (945 * t + 1 + 14 * c + 1)).toNatClampNeg) (tx (945 * t + 1 + 14 * c + 1)).toNatClampNeg [] [] with
  | some (v :: _, _) => v
  | _ => 0
/-- that it says something -/
def lwk (tx : Nat → Int32) (nm : Nat → Int32) (us : Int64 → Int64) (t c : Nat) : Prop :=
  ∃ i j v, tx (945 * t + 1 + 14 * c + 1) = nI i ∧ tx (945 * t + 1 + 14 * c + 2) = nI j ∧ i ≤ j ∧ j ≤ 304 ∧ mgo tx (945 * t + 337) nm us (j - i) i [] [] [v] []
theorem lwv_eq {tx : Nat → Int32} {nm : Nat → Int32} {us : Int64 → Int64} {t c i j : Nat} {v : Int64} (hi : tx (945 * t + 1 + 14 * c + 1) = nI i) (hj : tx (945 * t + 1 + 14 * c + 2) = nI j) (hij : i ≤ j) (hj3 : j ≤ 304) (hv : mgo tx (945 * t + 337) nm us (j - i) i [] [] [v] []) : lwv tx nm us t c = v := by
  unfold lwv
  rw [hi, hj, nI_clamp (by omega), nI_clamp (by omega), mgo_mrn hv]
def lwOK (M : ev_Mem) (x y : Int32) : Prop := ∃ t c : Nat, x = nI t ∧ y = nI c ∧ t < 4 ∧ c < 24 ∧ lwk (M.1 4) (M.1 7) (usv M) t c
def lwV (M : ev_Mem) (x y : Int32) : Int64 := lwv (M.1 4) (M.1 7) (usv M) x.toNatClampNeg y.toNatClampNeg
theorem qX11_summedUp {x y : Int32} (h : lwOK M x y) : Cl LM (d + 2) mX11_summedUp [.ref 0, .int x, .int y] M (fun r M2 => r = some (.long (lwV M x y)) ∧ mfr M M2) := by
  obtain ⟨t, c, rfl, rfl, ht, hc, i, j, v, hi, hj, hij, hj3, hv⟩ := h
  have := kX11_summedUp (d := d) ht hc hi hj hij hj3 hv
  have e : lwV M (nI t) (nI c) = v := by
    unfold lwV
    rw [nI_clamp (by omega), nI_clamp (by omega)]
    exact lwv_eq hi hj hij hj3 hv
  rw [e]
  exact this
end
