/-! CALLS: few -/
section
variable {d B : Nat} {M N : ev_Mem} {W T S s f : Nat} {lo : Int32}
theorem and_z {x y : Int32} : x &&& y = 0 ↔ ∀ i, i < 32 → ¬ (bt x i = true ∧ bt y i = true) := by
  constructor
  · intro h i hi ⟨q1, q2⟩
    have := b_and x y i
    rw [h, b_0, q1, q2] at this
    cases this
  · intro h
    refine b_ext fun i hi => ?_
    rw [b_and, b_0]
    have := h i hi
    cases q1 : bt x i <;> cases q2 : bt y i <;> simp_all
theorem two_z {x : Int32} {a b : Nat} (ha : a < 32) (hb : b < 32) : x &&& (1 <<< (nI a &&& 31) ||| 1 <<< (nI b &&& 31)) = 0 ↔ hs x (nI a) = false ∧ hs x (nI b) = false := by
  rw [and_z, hs_bt ha, hs_bt hb]
  constructor
  · intro h
    refine ⟨?_, ?_⟩
    · cases q : bt x a with
      | false => rfl
      | true => exact absurd ⟨q, by rw [b_or, bt_sh ha ha, decide_eq_true rfl]; rfl⟩ (h a ha)
    · cases q : bt x b with
      | false => rfl
      | true => exact absurd ⟨q, by rw [b_or, bt_sh hb hb, decide_eq_true rfl, Bool.or_true]⟩ (h b hb)
  · rintro ⟨q1, q2⟩ i hi ⟨p1, p2⟩
    rw [b_or, bt_sh ha hi, bt_sh hb hi, Bool.or_eq_true, decide_eq_true_eq, decide_eq_true_eq] at p2
    rcases p2 with rfl | rfl
    · rw [q1] at p1; cases p1
    · rw [q2] at p1; cases p1
def fws (N : ev_Mem) (S a b : Nat) (st : Int32 × Int32 × Int32) : Int32 × Int32 × Int32 := if hs (N.1 1 9) (nI a) = true ∨ hs (N.1 1 9) (nI b) = true then st else if tot (lsN N (N.1 1 9 ||| (bitI a ||| bitI b))) S ≤ st.2.2 then st else (nI a, nI b, tot (lsN N (N.1 1 9 ||| (bitI a ||| bitI b))) S)
def fwn (N : ev_Mem) (S a : Nat) (st : Int32 × Int32 × Int32) : Nat → Int32 × Int32 × Int32
  | 0 => st
  | k + 1 => fws N S a (a + 1 + k) (fwn N S a st k)
def fwo (N : ev_Mem) (S : Nat) : Nat → Int32 × Int32 × Int32
  | 0 => (-1, -1, -1)
  | a + 1 => fwn N S a (fwo N S a) (25 - a)
theorem fws_m {a b : Nat} {st : Int32 × Int32 × Int32} (h : ¬ st.2.2 < -1) : ¬ (fws N S a b st).2.2 < -1 := by
  unfold fws
  split
  · exact h
  · split
    · exact h
    · rename_i z
      have z := I_nle.mp z
      rw [I_lt] at h z ⊢
      show ¬ (tot (lsN N (N.1 1 9 ||| (bitI a ||| bitI b))) S).toInt < _
      omega
theorem fwn_m {a : Nat} {st : Int32 × Int32 × Int32} (h : ¬ st.2.2 < -1) : ∀ k, ¬ (fwn N S a st k).2.2 < -1
  | 0 => h
  | k + 1 => fws_m (fwn_m h k)
theorem fwo_m : ∀ a, ¬ (fwo N S a).2.2 < -1
  | 0 => by show ¬ (-1 : Int32) < -1; decide
  | a + 1 => fwn_m (fwo_m a) _
theorem or_up2 {x : Int32} {a b : Nat} (h : upto x (2 ^ 26 - 1)) (ha : a < 26) (hb : b < 26) : upto (x ||| (bitI a ||| bitI b)) (2 ^ 26 - 1) := by
  have e : x ||| (bitI a ||| bitI b) = x ||| bitI a ||| bitI b := b_ext fun i _ => by rw [b_or, b_or, b_or, b_or, Bool.or_assoc]
  rw [e]
  exact or_up (or_up h ha) hb
theorem op_few (h : RX B M N) (x : Int32) : OP 200 mX10_few mX11_few [.int x] B M N := by
  obtain ⟨W, S, T, Wk, Sk, Tk, h1, h2, h3, h4, h5, h6⟩ := id h
  obtain ⟨hsd, hS⟩ := RX_sd h1 h4
  have el : N.1 1 9 = M.1 43 0 := hsd.lo
  have hlu : upto (N.1 1 9) (2 ^ 26 - 1) := by rw [el]; exact hsd.lu
  refine op_ro (v := some (.int (if x = 0 then (fwo N S 26).1 else (fwo N S 26).2.1))) h ?_ ?_
  · refine Cl_of rfl (Nat.le_of_ble_eq_true rfl) rfl (gX10_few_0 (d := 199) fun M1 e1 => ?_)
    have lp : ∀ a, a ≤ 26 → ∀ M2, qfr M M2 → (M2.1 86 8 = -1 ∨ heldI M2 N W) → Ev LX 200 mX10_few 17 [some (.ref 0), some (.int x), some (.int (fwo N S a).1), some (.int (fwo N S a).2.1), some (.int (fwo N S a).2.2), some (.int (nI a)), none, none, none] [] M2 (fun r M2 => r = some (.int (if x = 0 then (fwo N S 26).1 else (fwo N S 26).2.1)) ∧ xq M M2) := by
      refine dn ?_ (fun a ha ih => ?_)
      · intro M2 hq hh
        exact gX10_few_17 ⟨fun _ => ⟨fun z => ⟨by rw [if_pos z], xq_q hq⟩, fun z => ⟨by rw [if_neg z], xq_q hq⟩⟩, fun z => absurd (nI_le (a := 26) (b := 26) (Nat.le_refl _) (by omega)) z⟩
      · intro M2 hq hh
        refine gX10_few_17 ⟨fun z => absurd z (nI_ge (b := 26) ha (by omega)), fun _ => ?_⟩
        have lq : ∀ k, k ≤ 25 - a → ∀ M2, qfr M M2 → (M2.1 86 8 = -1 ∨ heldI M2 N W) → Ev LX 200 mX10_few 30 [some (.ref 0), some (.int x), some (.int (fwn N S a (fwo N S a) k).1), some (.int (fwn N S a (fwo N S a) k).2.1), some (.int (fwn N S a (fwo N S a) k).2.2), some (.int (nI a)), some (.int (nI (a + 1 + k))), none, none] [] M2 (fun r M2 => r = some (.int (if x = 0 then (fwo N S 26).1 else (fwo N S 26).2.1)) ∧ xq M M2) := by
          refine dn ?_ (fun k hk ih2 => ?_)
          · intro M2 hq hh
            refine gX10_few_30 (d := 199) ⟨fun _ => ?_, fun z => absurd (nI_le (a := 26) (by omega) (by omega)) z⟩
            rw [nI_1]; exact ih M2 hq hh
          · intro M2 hq hh
            rw [fwn] at ih2
            refine gX10_few_30 (d := 199) ⟨fun z => absurd z (nI_ge (b := 26) (by omega) (by omega)), fun _ v1 ev => ?_⟩
            rw [hq.1 43 (by omega), ← el, ev, two_z (by omega) (by omega)]
            refine ⟨fun z => ?_, fun z => ?_⟩
            · have z2 : ¬ (hs (N.1 1 9) (nI a) = true ∨ hs (N.1 1 9) (nI (a + 1 + k)) = true) := by rw [z.1, z.2]; decide
              unfold fws at ih2
              rw [if_neg z2] at ih2
              refine ⟨_, totX (d := 193) (lo2 := N.1 1 9 ||| (bitI a ||| bitI (a + 1 + k))) hsd hS (or_up2 hlu ha (by omega)) hq hh, fun zr M3 q3 => ?_⟩
              rw [q3.1]
              refine gX10_few_78 ⟨fun y => ?_, fun y => ?_⟩
              · rw [if_pos y] at ih2
                rw [nI_1]; exact ih2 M3 q3.2.1 (Or.inr q3.2.2)
              · rw [if_neg y] at ih2
                rw [nI_1]; exact ih2 M3 q3.2.1 (Or.inr q3.2.2)
            · have z2 : hs (N.1 1 9) (nI a) = true ∨ hs (N.1 1 9) (nI (a + 1 + k)) = true := by
                cases q1 : hs (N.1 1 9) (nI a) with
                | true => exact Or.inl rfl
                | false => cases q2 : hs (N.1 1 9) (nI (a + 1 + k)) with
                  | true => exact Or.inr rfl
                  | false => exact absurd ⟨q1, q2⟩ z
              unfold fws at ih2
              rw [if_pos z2] at ih2
              rw [nI_1]; exact ih2 M2 hq hh
        rw [nI_1]
        exact lq 0 (by omega) M2 hq hh
    exact lp 0 (by omega) M1 (qfr_u (by rw [e1]; exact ufr_86 (Or.inr rfl))) (Or.inl (by rw [e1, wr_same]))
  · refine Cl_of rfl (Nat.le_of_ble_eq_true rfl) rfl (gX11_few_0 ?_)
    have lp : ∀ a, a ≤ 26 → ∀ N2, me N N2 → Ev LM 200 mX11_few 10 [some (.ref 0), some (.int x), some (.int (fwo N S a).1), some (.int (fwo N S a).2.1), some (.int (fwo N S a).2.2), some (.int (nI a)), none, none] [] N2 (fun r N2 => r = some (.int (if x = 0 then (fwo N S 26).1 else (fwo N S 26).2.1)) ∧ pe N N2) := by
      refine dn ?_ (fun a ha ih => ?_)
      · intro N2 hq
        exact gX11_few_10 ⟨fun _ => ⟨fun z => ⟨by rw [if_pos z], me_pe hq⟩, fun z => ⟨by rw [if_neg z], me_pe hq⟩⟩, fun z => absurd (nI_le (a := 26) (b := 26) (Nat.le_refl _) (by omega)) z⟩
      · intro N2 hq
        refine gX11_few_10 ⟨fun z => absurd z (nI_ge (b := 26) ha (by omega)), fun _ => ?_⟩
        have lq : ∀ k, k ≤ 25 - a → ∀ N2, me N N2 → Ev LM 200 mX11_few 23 [some (.ref 0), some (.int x), some (.int (fwn N S a (fwo N S a) k).1), some (.int (fwn N S a (fwo N S a) k).2.1), some (.int (fwn N S a (fwo N S a) k).2.2), some (.int (nI a)), some (.int (nI (a + 1 + k))), none] [] N2 (fun r N2 => r = some (.int (if x = 0 then (fwo N S 26).1 else (fwo N S 26).2.1)) ∧ pe N N2) := by
          refine dn ?_ (fun k hk ih2 => ?_)
          · intro N2 hq
            refine gX11_few_23 (d := 198) ⟨fun _ => ?_, fun z => absurd (nI_le (a := 26) (by omega) (by omega)) z⟩
            rw [nI_1]; exact ih N2 hq
          · intro N2 hq
            have hm := fwn_m (N := N) (S := S) (a := a) (fwo_m (N := N) (S := S) a) k
            rw [fwn] at ih2
            unfold fws at ih2
            refine gX11_few_23 (d := 198) ⟨fun z => absurd z (nI_ge (b := 26) (by omega) (by omega)), fun _ => ?_⟩
            rw [hq 1 (by omega)]
            refine ⟨fun z => ⟨fun y => absurd y hm, fun _ => ?_⟩, fun z => ⟨fun z2 => ?_, fun z2 => ?_⟩⟩
            · rw [if_pos (Or.inl z)] at ih2
              rw [nI_1]; exact ih2 N2 hq
            · rw [if_neg (by rw [z, z2]; decide)] at ih2
              refine ⟨_, totM (d := 193) (x := bitI a ||| bitI (a + 1 + k)) hsd hS (or_up2 hlu ha (by omega)) hq, fun zr N3 q3 => ?_⟩
              rw [q3.1]
              refine gX11_few_65 ⟨fun y => ?_, fun y => ?_⟩
              · rw [if_neg (I_nle.mpr y)] at ih2
                rw [nI_1]; exact ih2 N3 q3.2
              · rw [if_pos (I_nlt.mp y)] at ih2
                rw [nI_1]; exact ih2 N3 q3.2
            · rw [if_pos (Or.inr z2)] at ih2
              refine gX11_few_65 ⟨fun y => absurd y hm, fun y => ?_⟩
              rw [nI_1]; exact ih2 N2 hq
        rw [nI_1]
        exact lq 0 (by omega) N2 hq
    exact lp 0 (by omega) N me.rf
end
