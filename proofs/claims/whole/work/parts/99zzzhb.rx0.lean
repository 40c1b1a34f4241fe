/-! THE FIRST STATE -/
theorem zfA_z {j : Nat} (h3 : j ≠ 3) (h11 : j ≠ 11) (h : ¬ (399 ≤ j ∧ j < 451 ∧ (j - 399) % 2 = 0)) : zfA 26 j = 0 := by
  unfold zfA zf0A
  rw [if_neg (by omega), pk_un h3, pk_un h11]
theorem zfA_m {l : Nat} (h : l < 26) : zfA 26 (399 + 2 * l) = -1 := by
  unfold zfA
  rw [if_pos (by omega)]
theorem zgA_eq : zgA = zfA 26 := funext fun i => by
  unfold zgA
  by_cases h : i < 3315
  · rw [if_pos h]
  · rw [if_neg h, zfA_z (by omega) (by omega) (by omega)]
theorem up_z0 {b : Nat} : upto 0 b := ⟨0, Nat.zero_le _, rfl⟩
/-- the first state -/
theorem st_0 {M : ev_Mem} {mc nc : Nat} (hm : M.1 mc = fun j => if j = 4 then 173 else 0) (hu : M.1 (mc + 1) = fun _ => 0) (hn : M.1 nc = fun j => if j = 3 then -1 else 0) (ho : ∀ l, l < 26 → M.1 (nc + 1) l = -1) (hk : M.1 (nc + 2) = fun _ => 0) : stRel 0 M 0 0 mc nc (zfA 26) := by
  have z : ∀ j, j ≠ 3 → j ≠ 11 → j < 399 → zfA 26 j = 0 := fun j h1 h2 h3 => zfA_z h1 h2 (by omega)
  refine ⟨⟨by omega, z 0 (by omega) (by omega) (by omega), fun w h => absurd h (by omega)⟩, ⟨by omega, z 1 (by omega) (by omega) (by omega), fun w h => absurd h (by omega)⟩, ⟨⟨fun l hl => ?_, ?_, ?_, ?_, ?_⟩, 0, 0, 0, 0, by omega, ?_, z 12 (by omega) (by omega) (by omega), ⟨by omega, fun i h => absurd h (by omega)⟩, ⟨by omega, ?_, z 4 (by omega) (by omega) (by omega)⟩, ⟨by omega, ?_⟩, fun _ => 0, rfl, fun j h => absurd h (by omega), fun j h => absurd h (by omega)⟩, ⟨fun l hl => ?_, ⟨0, by omega, ?_, z 2 (by omega) (by omega) (by omega), ?_, ?_⟩, ⟨0, by omega, ?_, z 5 (by omega) (by omega) (by omega), fun i h => absurd h (by omega)⟩, ⟨0, by omega, ?_, z 6 (by omega) (by omega) (by omega), fun i h => absurd h (by omega)⟩, ⟨0, by omega, ?_, z 7 (by omega) (by omega) (by omega), fun i h => absurd h (by omega)⟩⟩⟩
  · have e : zfA 26 (8 + (5 + l)) = 0 := z _ (by omega) (by omega) (by omega)
    rw [hu]
    show (0 : Int32) = zfA 26 (8 + (5 + l)) ∧ upto (zfA 26 (8 + (5 + l))) 9999
    rw [e]
    exact ⟨rfl, up_z0⟩
  · show M.1 mc 0 = zfA 26 (8 + 1) ∧ upto (zfA 26 (8 + 1)) _
    rw [hm, z (8 + 1) (by omega) (by omega) (by omega)]
    exact ⟨rfl, up_z0⟩
  · show M.1 mc 2 = zfA 26 (8 + 2) ∧ upto (zfA 26 (8 + 2)) _
    rw [hm, z (8 + 2) (by omega) (by omega) (by omega)]
    exact ⟨rfl, up_z0⟩
  · show M.1 mc 3 = zfA 26 (8 + 0) ∧ upto (zfA 26 (8 + 0)) _
    rw [hm, z (8 + 0) (by omega) (by omega) (by omega)]
    exact ⟨rfl, up_z0⟩
  · show M.1 mc 4 = zfA 26 (8 + 3) ∧ upto (zfA 26 (8 + 3)) _
    rw [hm, show zfA 26 (8 + 3) = 173 by decide +kernel]
    exact ⟨rfl, 173, by omega, by decide⟩
  · rw [hm]; rfl
  · rw [hm]; rfl
  · rw [hm]; rfl
  · refine ⟨by rw [ho l hl, zfA_m hl], Or.inl (zfA_m hl), ?_, ?_⟩
    · rw [hk, zfA_z (by omega) (by omega) (by omega)]
    · rw [zfA_z (by omega) (by omega) (by omega)]; exact up_z0
  · rw [hn]; rfl
  · rw [hn]; decide +kernel
  · exact Or.inl (by decide +kernel)
  · rw [hn]; rfl
  · rw [hn]; rfl
  · rw [hn]; rfl
/-- the first memories are related -/
theorem RX_0 : RX 0 M0 (mN (zfA 26) zgA) := by
  rw [zgA_eq]
  refine ⟨0, 0, 0, 0, 0, 0, ⟨st_0 rfl rfl rfl (fun l hl => if_pos hl) rfl, rfl, rfl, (show zfA 26 2 = 0 from zfA_z (by omega) (by omega) (by omega)), by omega⟩, ⟨st_0 rfl rfl rfl (fun l hl => if_pos hl) rfl, rfl, rfl, (show zfA 26 2 = 0 from zfA_z (by omega) (by omega) (by omega))⟩, ⟨by omega, by omega, by omega⟩, fun t h => absurd h (by omega), ⟨0, by omega, rfl, rfl, fun i h => absurd h (by omega)⟩, ⟨fun i _ => ⟨rfl, up_z0⟩, Or.inl ⟨rfl, rfl, rfl⟩⟩⟩
