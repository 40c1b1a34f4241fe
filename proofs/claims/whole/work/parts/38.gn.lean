/-! what holds of the model at every call that asks how things sound -/
section
variable {d : Nat} {M N : ev_Mem}
def gN (N : ev_Mem) : Prop := ∃ W, W ≤ 24 ∧ N.1 1 0 = nI W ∧ (∀ w, w < W → wm N (nI w)) ∧ okMd N ∧ (∀ l, l < 26 → upto (N.1 1 (399 + 2 * l + 1)) 9) ∧ (∀ k, k < 3 → lawI N (N.1 1 3) k) ∧ okU (uNs N) ∧ upto (N.1 1 8) 9999 ∧ upto (N.1 1 9) (2 ^ 26 - 1)
theorem gN_cg {N2 : ev_Mem} (h1 : N2.1 1 = N.1 1) (h4 : N2.1 4 = N.1 4) (h : gN N) : gN N2 := by
  obtain ⟨W, a, b, c, e, f, g, u, x, y⟩ := h
  refine ⟨W, a, by rw [h1]; exact b, fun w hw => wm_1 h1 (c w hw), okMd_1 h1 e, by rw [h1]; exact f, fun k hk => ?_, by unfold uNs okU; rw [h1]; exact u, by rw [h1]; exact x, by rw [h1]; exact y⟩
  rw [h1]
  rcases g k hk with z | ⟨t, ht, et, M, hM⟩
  · exact Or.inl z
  · exact Or.inr ⟨t, ht, et, M, lawR_cg (fun _ _ _ => rfl) h4.symm hM⟩
theorem lks_up {f lk : Nat → Int32} {s : Int32} (hl : ∀ l, l < 26 → upto (lk l) 9) : ∀ n, (∀ i, i < n → vp_in (f i) 26) → upto (lks f s lk n) (9 * n)
  | 0, _ => ⟨0, by omega, rfl⟩
  | n + 1, h => by
    obtain ⟨m, hm, em⟩ := lks_up hl n (fun i hi => h i (by omega))
    rw [lks]
    split
    · obtain ⟨l, hl26, el⟩ := vp_in_of (h n (by omega)) (by omega)
      obtain ⟨q, hq, eq⟩ := hl l hl26
      rw [em, el, nI_clamp (by omega), eq, nI_add]
      exact ⟨m + q, by omega, rfl⟩
    · exact ⟨m, by omega, em⟩
theorem upto_mono {x : Int32} {a b : Nat} (h : upto x a) (hab : a ≤ b) : upto x b := by obtain ⟨n, h1, h2⟩ := h; exact ⟨n, by omega, h2⟩
theorem ext_up {k : Nat} {h : Nat} {l : Int32} (hk : k ≤ 6) (hh : h ≤ 9) (hl : upto l 81) : upto (ext (nI k) h l) 81 := by
  have : k = 0 ∨ k = 1 ∨ k = 2 ∨ k = 3 ∨ k = 4 ∨ k = 5 ∨ k = 6 := by omega
  rcases this with rfl | rfl | rfl | rfl | rfl | rfl | rfl
  · exact ⟨0, by omega, rfl⟩
  · exact ⟨1, by omega, rfl⟩
  · exact ⟨2, by omega, rfl⟩
  · exact ⟨4, by omega, rfl⟩
  · exact ⟨h, by omega, rfl⟩
  · exact hl
  · exact ⟨0, by omega, rfl⟩
theorem mE_up {w : Nat} (hw24 : w < 24) (hw : wm N (nI w)) (hl : ∀ l, l < 26 → upto (N.1 1 (399 + 2 * l + 1)) 9) : upto (mE N (nI w)) 81 := by
  obtain ⟨⟨k, hk, ek⟩, -, -, hH⟩ := wm_kn hw24 hw
  unfold mE
  rw [nI_clamp (by omega), ek]
  refine ext_up hk hH ?_
  obtain ⟨w2, n, e, h, hn, hln, hf, -⟩ := hw
  have : w = w2 := (nI_eq (by omega) (by omega)).mp e
  subst this
  unfold mK
  rw [nI_clamp (by omega), hln, nI_clamp (by omega)]
  exact upto_mono (lks_up hl n hf) (by omega)
theorem bc_up {x : Int32} (h : upto x (2 ^ 26 - 1)) : upto (bc x) 32 := by
  obtain ⟨n, hn, rfl⟩ := h
  rw [bc_pc (by omega)]
  exact ⟨_, pcF_le 32 n, rfl⟩
/-- stiffOf, for callers -/
def stOK (N : ev_Mem) (x y : Int32) : Prop := gN N ∧ lawI N x 0 ∧ ∃ w, y = nI w ∧ ∃ W, N.1 1 0 = nI W ∧ W ≤ 24 ∧ w < W
theorem qX11_stiffOf {x y : Int32} (h : stOK N x y) : Cl LM (d + 4) mX11_stiffOf [.ref 0, .int x, .int y] N (fun r N2 => r = some (.int (stN N x y.toNatClampNeg)) ∧ nfr N N2) := by
  obtain ⟨⟨W, a, b, c, e, f, g, u, p, q⟩, hl, w, rfl, W2, b2, hW2, hw⟩ := h
  have : W = W2 := (nI_eq (by omega) (by omega)).mp (b.symm.trans b2)
  subst this
  rw [nI_clamp (by omega)]
  exact kX11_stiffOf (by omega) (c w hw) hl u ⟨upto_mono p (by omega), upto_mono (bc_up q) (by omega), upto_mono (mE_up (by omega) (c w hw) f) (by omega)⟩
/-- stiffness of a word now; far off if it can't be -/
def sfw (N : ev_Mem) (w : Nat) : Int32 := if mC N (nI w) = true then stN N (N.1 1 3) w else 1000000
theorem stN_1 {N2 : ev_Mem} {x : Int32} {w : Nat} (h1 : N2.1 1 = N.1 1) (h4 : N2.1 4 = N.1 4) : stN N2 x w = stN N x w := by
  unfold stN uNs
  rw [aw_1 h1, mH_1 h1, mE_1 h1, h1, h4]
theorem sfw_1 {N2 : ev_Mem} {w : Nat} (h1 : N2.1 1 = N.1 1) (h4 : N2.1 4 = N.1 4) : sfw N2 w = sfw N w := by
  unfold sfw
  rw [mC_1 h1, stN_1 h1 h4, h1]
end
