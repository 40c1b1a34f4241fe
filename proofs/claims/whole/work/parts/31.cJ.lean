/-! what the model's laws say -/
section
variable {d : Nat} {M : ev_Mem}
def nmM (M : ev_Mem) : ev_Mem := ev_wr (ev_wr M 7 0 (M.1 1 8)) 7 1 (bc (M.1 1 9))
theorem kX11_name : Cl LM (d + 1) mX11_name [.ref 0] M (ev_R none (nmM M)) :=
  Cl_of rfl (Nat.le_of_ble_eq_true rfl) rfl (gX11_name_0 (fun M1 e1 M2 e2 => ⟨rfl, by rw [e2, e1, wr_cell (show (1 : Nat) ≠ 7 by omega)]; rfl⟩))
/-- the first of n clauses from c on that is of a kind -/
def fcl (tx : Nat → Int32) (t : Nat) (k : Int32) : Nat → Nat → Option Nat
  | _, 0 => none
  | c, n + 1 => if tx (945 * t + 1 + 14 * c) = k then some c else fcl tx t k (c + 1) n
theorem fcl_lt {tx : Nat → Int32} {t : Nat} {k : Int32} : ∀ {n c c2 : Nat}, fcl tx t k c n = some c2 → c ≤ c2 ∧ c2 < c + n
  | 0, c, c2, h => by cases h
  | n + 1, c, c2, h => by
    rw [fcl] at h
    split at h
    · cases h; omega
    · have := fcl_lt h; omega
/-- what text x says of a kind, by the names and uses -/
def syv (tx nm : Nat → Int32) (us : Int64 → Int64) (x k wo tp : Int32) : Int32 :=
  if x < 0 then bnd wo.toInt64 0 tp else match fcl tx x.toNatClampNeg k 0 (tx (945 * x.toNatClampNeg)).toNatClampNeg with
    | none => bnd wo.toInt64 0 tp
    | some c => bnd (lwv tx nm us x.toNatClampNeg c) 0 tp
def txk (tx nm : Nat → Int32) (us : Int64 → Int64) (x k : Int32) : Prop := x < 0 ∨ ∃ t n : Nat, t < 4 ∧ n ≤ 24 ∧ x = nI t ∧ tx (945 * t) = nI n ∧ ∀ c, fcl tx t k 0 n = some c → lwk tx nm us t c
theorem kX11_says {x k wo tp : Int32} (h : txk (M.1 4) (M.1 7) (usv M) x k) : Cl LM (d + 3) mX11_says [.ref 0, .int x, .int k, .int wo, .int tp] M (fun r M2 => r = some (.int (syv (M.1 4) (M.1 7) (usv M) x k wo tp)) ∧ mfr M M2) := by
  refine Cl_of rfl (Nat.le_of_ble_eq_true rfl) rfl (gX11_says_0 ?_)
  rcases h with h | ⟨t, n, ht, hn, rfl, e0, hl⟩
  · refine gX11_says_3 ⟨fun _ => ⟨?_, mfr.rf⟩, fun z => absurd h z⟩
    rw [syv, if_pos h]
  · have es : syv (M.1 4) (M.1 7) (usv M) (nI t) k wo tp = match fcl (M.1 4) t k 0 n with
        | none => bnd wo.toInt64 0 tp
        | some c => bnd (lwv (M.1 4) (M.1 7) (usv M) t c) 0 tp := by
      rw [syv, if_neg (nI_pos (by omega)), nI_clamp (by omega), e0, nI_clamp (by omega)]
    rw [es]
    have e1 : (945 : Int32) * nI t = nI (945 * t) := by rw [show (945 : Int32) = nI 945 from rfl, pk_mul]
    have lp : ∀ (j c : Nat), c + j = n → fcl (M.1 4) t k 0 n = fcl (M.1 4) t k c j → Ev LM (d + 3) mX11_says 3 [some (.ref 0), some (.int (nI t)), some (.int k), some (.int wo), some (.int tp), some (.int (nI c))] [] M (fun r M2 => r = some (.int (match fcl (M.1 4) t k 0 n with
        | none => bnd wo.toInt64 0 tp
        | some c => bnd (lwv (M.1 4) (M.1 7) (usv M) t c) 0 tp)) ∧ mfr M M2) := by
      intro j
      induction j with
      | zero =>
        intro c hc hf
        obtain rfl : c = n := by omega
        refine gX11_says_3 ⟨fun z => absurd z (nI_pos (by omega)), fun _ => ⟨by rw [e1]; exact vp_in_nI (by omega) (by omega), fun _ => ⟨?_, mfr.rf⟩, fun z => absurd ?_ z⟩⟩
        · rw [hf]; rfl
        · rw [e1, nI_clamp (by omega), e0]
          exact nI_le (Nat.le_refl _) (by omega)
      | succ j ih =>
        intro c hc hf
        have e2 : (945 : Int32) * nI t + 1 + (14 * nI c) = nI (945 * t + 1 + 14 * c) := by
          rw [e1, show (14 : Int32) = nI 14 from rfl, pk_mul, nI_1, nI_add]
        refine gX11_says_3 ⟨fun z => absurd z (nI_pos (by omega)), fun _ => ⟨by rw [e1]; exact vp_in_nI (by omega) (by omega), fun z => ?_, fun _ => ⟨by rw [e2]; exact vp_in_nI (by omega) (by omega), fun z => ?_, fun z => ⟨?_, fun M1 hm => ⟨?_, hm⟩⟩⟩⟩⟩
        · rw [e1, nI_clamp (by omega), e0] at z
          exact absurd z (nI_ge (by omega) (by omega))
        · rw [e2, nI_clamp (by omega)] at z
          rw [nI_1]
          refine ih (c + 1) (by omega) ?_
          rw [hf, fcl, if_neg z]
        · rw [e2, nI_clamp (by omega)] at z
          refine ⟨t, c, rfl, rfl, ht, by omega, hl c ?_⟩
          rw [hf, fcl, if_pos z]
        · rw [e2, nI_clamp (by omega)] at z
          rw [hf, fcl, if_pos z]
          simp only
          unfold lwV
          rw [nI_clamp (by omega), nI_clamp (by omega)]
    exact lp n 0 (by omega) rfl
end
