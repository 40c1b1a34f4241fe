/-! the two least costs that were seen; two words one behind the other -/
section
variable {d : Nat} {M : ev_Mem}
def loM (M : ev_Mem) (k : Nat) : ev_Mem := ev_wr (ev_wr (ev_wr M k 0 1000000) k 1 1000000) k 2 (-1)
def seeM (M : ev_Mem) (k : Nat) (o c : Int32) : ev_Mem := if M.1 k 0 ≤ c then (if M.1 k 1 ≤ c then M else ev_wr M k 1 c) else ev_wr (ev_wr (ev_wr M k 1 (M.1 k 0)) k 0 c) k 2 o
def wou (M : ev_Mem) (k : Nat) (o : Int32) : Int32 := if o = M.1 k 2 then M.1 k 1 else M.1 k 0
theorem kX2_start97 : Cl LX d mX2_start [.ref 97] M (ev_R none (loM M 97)) := by
  refine Cl_of rfl (Nat.le_of_ble_eq_true rfl) rfl (gX2_startt_0 ?_)
  intro M1 e1 M2 e2 M3 e3
  exact ⟨rfl, by rw [e3, e2, e1]; rfl⟩
theorem kX2_start98 : Cl LX d mX2_start [.ref 98] M (ev_R none (loM M 98)) := by
  refine Cl_of rfl (Nat.le_of_ble_eq_true rfl) rfl (gX2_starto_0 ?_)
  intro M1 e1 M2 e2 M3 e3
  exact ⟨rfl, by rw [e3, e2, e1]; rfl⟩
theorem kX2_see97 {o c : Int32} : Cl LX d mX2_see [.ref 97, .int o, .int c] M (ev_R none (seeM M 97 o c)) := by
  unfold seeM
  refine Cl_of rfl (Nat.le_of_ble_eq_true rfl) rfl (gX2_seet_0 ⟨fun h1 => ⟨fun h2 => ?_, fun h2 M1 e1 => ?_⟩, fun h1 M2 e2 M3 e3 M4 e4 => ?_⟩)
  · rw [if_pos h1, if_pos h2]; exact ⟨rfl, rfl⟩
  · rw [if_pos h1, if_neg h2]; exact ⟨rfl, e1⟩
  · rw [if_neg h1]; exact ⟨rfl, by rw [e4, e3, e2]⟩
theorem kX2_see98 {o c : Int32} : Cl LX d mX2_see [.ref 98, .int o, .int c] M (ev_R none (seeM M 98 o c)) := by
  unfold seeM
  refine Cl_of rfl (Nat.le_of_ble_eq_true rfl) rfl (gX2_seeo_0 ⟨fun h1 => ⟨fun h2 => ?_, fun h2 M1 e1 => ?_⟩, fun h1 M2 e2 M3 e3 M4 e4 => ?_⟩)
  · rw [if_pos h1, if_pos h2]; exact ⟨rfl, rfl⟩
  · rw [if_pos h1, if_neg h2]; exact ⟨rfl, e1⟩
  · rw [if_neg h1]; exact ⟨rfl, by rw [e4, e3, e2]⟩
theorem kX2_without97 {o : Int32} : Cl LX d mX2_without [.ref 97, .int o] M (ev_R (some (.int (wou M 97 o))) M) := by
  unfold wou
  refine Cl_of rfl (Nat.le_of_ble_eq_true rfl) rfl (gX2_withoutt_0 ⟨fun h => ?_, fun h => ?_⟩)
  · rw [if_neg h]; exact ⟨rfl, rfl⟩
  · rw [if_pos h]; exact ⟨rfl, rfl⟩
theorem kX2_without98 {o : Int32} : Cl LX d mX2_without [.ref 98, .int o] M (ev_R (some (.int (wou M 98 o))) M) := by
  unfold wou
  refine Cl_of rfl (Nat.le_of_ble_eq_true rfl) rfl (gX2_withouto_0 ⟨fun h => ?_, fun h => ?_⟩)
  · rw [if_neg h]; exact ⟨rfl, rfl⟩
  · rw [if_pos h]; exact ⟨rfl, rfl⟩
/-- between two words, none before the first -/
def btI (M : ev_Mem) (x y : Int32) : Int32 := if x = -1 then 0 else bhd (M.1 30 x.toNatClampNeg) (M.1 30 y.toNatClampNeg) x y
theorem kX6_costBetween {x y : Int32} (h : (x = -1 ∨ vp_in x 24) ∧ vp_in y 24) : Cl LX d mX6_costBetween [.ref 86, .int x, .int y] M (ev_R (some (.int (btI M x y))) M) := by
  unfold btI bhd
  refine Cl_of rfl (Nat.le_of_ble_eq_true rfl) rfl (gX6_costBetween_0 ⟨fun h1 => ⟨fun h2 => ⟨h.1.resolve_left h1, fun h3 => ?_, fun h3 => ⟨h.2, fun h4 => ?_, fun h4 => ?_⟩⟩, fun h2 => ?_⟩, fun h1 => ?_⟩)
  · rw [if_neg h1, if_neg h2, if_neg (fun z => h3 z.1)]; exact ⟨rfl, rfl⟩
  · rw [if_neg h1, if_neg h2, if_neg (fun z => h4 z.2)]; exact ⟨rfl, rfl⟩
  · rw [if_neg h1, if_neg h2, if_pos ⟨h3, h4⟩]; exact ⟨rfl, rfl⟩
  · rw [if_neg h1, if_pos h2]; exact ⟨rfl, rfl⟩
  · rw [if_pos h1]; exact ⟨rfl, rfl⟩
theorem dn {P : Nat → Prop} {n : Nat} (hz : P n) (hs : ∀ i, i < n → P (i + 1) → P i) : ∀ i, i ≤ n → P i := by
  have : ∀ j i, i + j = n → P i := by
    intro j
    induction j with
    | zero => intro i hi; rw [show i = n by omega]; exact hz
    | succ j ih => intro i hi; exact hs i (by omega) (ih (i + 1) (by omega))
  exact fun i hi => this (n - i) i (by omega)
end
