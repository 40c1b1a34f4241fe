/-! CALLS: none, worst, few -/
section
variable {d B : Nat} {M N : ev_Mem} {W T S s f : Nat} {lo : Int32}
theorem sh1 : ∀ l, l < 31 → (1 : Int32) <<< (nI l &&& 31) = nI (2 ^ l) := by decide +kernel
theorem bt1 : ∀ i, i < 32 → bt 1 i = decide (i = 0) := by decide +kernel
theorem and1_bt (x : Int32) : x &&& 1 = 0 ↔ bt x 0 = false := by
  constructor
  · intro h
    have := b_and x 1 0
    rw [h, b_0, bt1 0 (by omega), decide_eq_true rfl, Bool.and_true] at this
    exact this.symm
  · intro h
    refine b_ext fun i hi => ?_
    rw [b_and, b_0, bt1 i hi]
    by_cases e : i = 0
    · rw [e, h]; rfl
    · rw [decide_eq_false e, Bool.and_false]
theorem hs_bt {x : Int32} {l : Nat} (hl : l < 32) : hs x (nI l) = bt x l := by
  have e := b_sshr l hl x (i := 0) (by omega)
  rw [Nat.add_zero, if_pos hl] at e
  have := and1_bt (x >>> (nI l &&& 31))
  rw [e] at this
  cases q : bt x l
  · rw [hs_0]; exact this.mpr q
  · rw [hs_1]; exact fun z => by have := this.mp z; rw [q] at this; cases this
theorem bt_sh {l i : Nat} (hl : l < 32) (hi : i < 32) : bt (1 <<< (nI l &&& 31)) i = decide (i = l) := by
  rw [b_shl l hl 1 hi]
  by_cases e : i = l
  · subst e
    rw [Nat.sub_self, bt1 0 (by omega), decide_eq_true (Nat.le_refl _), decide_eq_true rfl, decide_eq_true rfl]; rfl
  · by_cases q : l ≤ i
    · rw [bt1 (i - l) (by omega), decide_eq_false (p := i - l = 0) (by omega), decide_eq_false e, Bool.and_false]
    · rw [decide_eq_false q, decide_eq_false e]; rfl
theorem or_up {x : Int32} {l : Nat} (h : upto x (2 ^ 26 - 1)) (hl : l < 26) : upto (x ||| (1 <<< (nI l &&& 31))) (2 ^ 26 - 1) := by
  obtain ⟨n, hn, rfl⟩ := h
  rw [sh1 l (by omega), fa_or]
  have h2 : 2 ^ l < 2 ^ 26 := Nat.pow_lt_pow_right (by omega) hl
  have := Nat.or_lt_two_pow (x := n) (y := 2 ^ l) (n := 26) (by omega) h2
  exact ⟨_, by omega, rfl⟩
/-- the same state, other keys being lost -/
def lsN (N : ev_Mem) (lo : Int32) : ev_Mem := ev_wr N 1 9 lo
theorem lsN_ne {lo : Int32} {i : Nat} (h : i ≠ 9) : (lsN N lo).1 1 i = N.1 1 i := wr_ne (by omega)
theorem lsN_c {lo : Int32} {k : Nat} (h : k ≠ 1) : (lsN N lo).1 k = N.1 k := wr_cell h
theorem lsN_l {lo l2 : Int32} : lsN (lsN N lo) l2 = lsN N l2 := by
  refine Prod.ext (funext fun a => funext fun b => ?_) rfl
  show (if a = 1 ∧ b = 9 then l2 else if a = 1 ∧ b = 9 then lo else N.1 a b) = if a = 1 ∧ b = 9 then l2 else N.1 a b
  split <;> rfl
theorem lsN_id : lsN N (N.1 1 9) = N := wr_idem
theorem sd_ls {l2 : Int32} (h : sdR M N W T lo) (hl : upto l2 (2 ^ 26 - 1)) : sdR M (lsN N l2) W T l2 := by
  refine ⟨h.w24, h.mw, by rw [lsN_ne (by omega)]; exact h.nw, fun w hw => ?_, fun l hl => ?_, wr_same, hl, by rw [lsN_ne (by omega)]; exact h.da, fun l hl => by rw [lsN_ne (by omega)]; exact h.us l hl, h.t4, h.mt, by rw [lsN_ne (by omega)]; exact h.nt, by rw [lsN_ne (by omega)]; exact h.te, by rw [lsN_ne (by omega)]; exact h.ti, fun t ht k hk => lawR_cg (fun _ _ _ => rfl) (lsN_c (by omega)).symm (h.la t ht k hk)⟩
  · have := h.w24
    exact wRel_cg (by omega) (fun _ _ _ => rfl) (fun i _ _ => (lsN_ne (by omega)).symm) (h.wr w hw)
  · rw [lsN_ne (by omega), lsN_ne (by omega)]; exact h.md l hl
theorem sen_ls {l2 : Int32} (h : senR M N S) : senR M (lsN N l2) S := by
  have := h.1
  refine ⟨h.1, h.2.1, by rw [lsN_ne (by omega)]; exact h.2.2.1, fun s hs => sRel_cg (by omega) (fun _ _ _ => rfl) (fun i _ _ => (lsN_ne (by omega)).symm) (h.2.2.2 s hs)⟩
theorem held_ls {Mi : ev_Mem} {l2 : Int32} (h : heldI Mi N W) : heldI Mi (lsN N l2) W := by
  have e : ∀ x go w ho ex, hvl (lsN N l2) x go w ho ex = hvl N x go w ho ex := fun x go w ho ex => by
    have e1 : ∀ f, aw (lsN N l2) w f = aw N w f := fun f => by unfold aw; exact lsN_ne (by omega)
    have e2 : uNs (lsN N l2) = uNs N := funext fun l => by unfold uNs; exact lsN_ne (by omega)
    unfold hvl
    rw [e1, e1, e1, e2, lsN_c (by omega), lsN_ne (by omega)]
  intro w hw q hq
  rw [e, lsN_ne (by omega)]
  exact h w hw q hq
theorem bsv_b : bsv (cN N s (lnN N s - 1)) (wN N) < FARn ↔ ∃ f, bN N s = some f := by
  constructor
  · intro h
    obtain ⟨m, h1, -⟩ := bsv_at h
    exact ⟨m, h1⟩
  · rintro ⟨f, h⟩
    rw [bsv_some h]
    exact (bst_lt h).2
/-- costs of a sentence, on both sides -/
def cov (N : ev_Mem) (s : Nat) : Nat := bsv (cN N s (lnN N s - 1)) (wN N)
theorem cov_n (h : bN N s = none) : cov N s = FARn := bsv_none h
theorem cov_s (h : bN N s = some f) : cov N s = cN N s (lnN N s - 1) f ∧ cov N s < FARn := ⟨bsv_some h, by unfold cov; rw [bsv_some h]; exact (bst_lt h).2⟩
theorem cov_le : cov N s ≤ FARn := by
  cases h : bN N s with
  | none => rw [cov_n h]; exact Nat.le_refl _
  | some f => exact Nat.le_of_lt (cov_s h).2
theorem FAR31 : FARn < 2 ^ 31 := by decide
theorem cov_lt : nI (cov N s) < 1000000 ↔ ∃ f, bN N s = some f := by
  rw [← bsv_b]
  have := cov_le (N := N) (s := s)
  exact nI_ltI (b := FARn) (by have := FAR31; omega) FAR31
theorem costH {Mi : ev_Mem} (h : sdR M N W T lo) (hS : senR M N S) (hs : s < S) (hM : ∀ k, k < 82 → Mi.1 k = M.1 k) (hh : hrd N Mi W lo) :
    Cl LX (d + 3) mX6_costOf [.ref 86, .int (nI s)] Mi (fun z M2 => z = some (.int (nI (cov N s))) ∧ pfr Mi M2 ∧ hrd N M2 W lo) := by
  refine Cl.mono (costN (d := d) h hS hs hM hh.2.2) (fun z M2 q => ⟨q.2, ?_, hrd_p q.1 hh⟩)
  exact q.1
end
