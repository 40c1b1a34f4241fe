/-! CALLS: lot, letters -/
section
variable {d B : Nat} {M N : ev_Mem} {W T S s f : Nat} {lo : Int32}
/-- the letters q that are seen, those of the least look among them -/
def lotS (q : Nat → Prop) (lk : Nat → Nat) (far set least : Int32) : Prop := ((∀ l, l < 26 → ¬ q l) ∧ set = 0 ∧ least = far) ∨ ∃ m, m ≤ 9 ∧ least = nI m ∧ (∃ l, l < 26 ∧ q l ∧ lk l = m) ∧ (∀ l, l < 26 → q l → m ≤ lk l) ∧ ∀ l, l < 32 → (bt set l = true ↔ l < 26 ∧ q l ∧ lk l = m)
theorem lotS_cg {q q2 : Nat → Prop} {lk : Nat → Nat} {far set least : Int32} (hq : ∀ l, l < 26 → (q l ↔ q2 l)) (h : lotS q lk far set least) : lotS q2 lk far set least := by
  rcases h with ⟨h1, h2, h3⟩ | ⟨m, h1, h2, ⟨l, h3, h4, h5⟩, h6, h7⟩
  · exact Or.inl ⟨fun l hl z => h1 l hl ((hq l hl).mpr z), h2, h3⟩
  · refine Or.inr ⟨m, h1, h2, ⟨l, h3, (hq l h3).mp h4, h5⟩, fun l hl z => h6 l hl ((hq l hl).mpr z), fun l hl => ?_⟩
    rw [h7 l hl]
    exact ⟨fun ⟨a, b, c⟩ => ⟨a, (hq l a).mp b, c⟩, fun ⟨a, b, c⟩ => ⟨a, (hq l a).mpr b, c⟩⟩
theorem lotS_add {q : Nat → Prop} {lk : Nat → Nat} {F a : Nat} {set least : Int32} (ha : a < 26) (h9 : lk a ≤ 9) (hF : 10 ≤ F) (hF2 : F < 2 ^ 31) (h : lotS q lk (nI F) set least) :
    (least ≤ nI (lk a) → nI (lk a) = least → lotS (fun l => q l ∨ l = a) lk (nI F) (set ||| (1 <<< (nI a &&& 31))) least) ∧ (least ≤ nI (lk a) → ¬ nI (lk a) = least → lotS (fun l => q l ∨ l = a) lk (nI F) set least) ∧ (¬ least ≤ nI (lk a) → lotS (fun l => q l ∨ l = a) lk (nI F) ((0 : Int32) ||| (1 <<< (nI a &&& 31))) (nI (lk a))) := by
  have new : (∀ l, l < 26 → q l → lk a < lk l) → lotS (fun l => q l ∨ l = a) lk (nI F) ((0 : Int32) ||| (1 <<< (nI a &&& 31))) (nI (lk a)) := fun hn => by
    refine Or.inr ⟨lk a, h9, rfl, ⟨a, ha, Or.inr rfl, rfl⟩, fun l hl z => ?_, fun l hl => ?_⟩
    · rcases z with z | z
      · exact Nat.le_of_lt (hn l hl z)
      · rw [z]; exact Nat.le_refl _
    · rw [b_or, b_0, Bool.false_or, bt_sh (by omega) hl, decide_eq_true_eq]
      constructor
      · rintro rfl; exact ⟨ha, Or.inr rfl, rfl⟩
      · rintro ⟨h1, h2 | h2, h3⟩
        · have := hn l h1 h2; omega
        · exact h2
  rcases h with ⟨h1, h2, h3⟩ | ⟨m, h1, h2, ⟨l0, h3, h4, h5⟩, h6, h7⟩
  · have ng : ¬ least ≤ nI (lk a) := by rw [h3]; exact nI_ge (by omega) hF2
    exact ⟨fun z => absurd z ng, fun z => absurd z ng, fun _ => new (fun l hl z => absurd z (h1 l hl))⟩
  · have lp : least ≤ nI (lk a) → m ≤ lk a := fun z => by rw [h2] at z; exact (nI_leI (by omega) (by omega)).mp z
    refine ⟨fun z e => ?_, fun z e => ?_, fun z => new (fun l hl hq => ?_)⟩
    · have em : lk a = m := by rw [h2] at e; exact (nI_eq (by omega) (by omega)).mp e
      refine Or.inr ⟨m, h1, h2, ⟨l0, h3, Or.inl h4, h5⟩, fun l hl y => ?_, fun l hl => ?_⟩
      · rcases y with y | y
        · exact h6 l hl y
        · rw [y]; omega
      · rw [b_or, bt_sh (by omega) hl, Bool.or_eq_true, decide_eq_true_eq, h7 l hl]
        constructor
        · rintro (⟨x1, x2, x3⟩ | rfl)
          · exact ⟨x1, Or.inl x2, x3⟩
          · exact ⟨ha, Or.inr rfl, em⟩
        · rintro ⟨x1, x2 | x2, x3⟩
          · exact Or.inl ⟨x1, x2, x3⟩
          · exact Or.inr x2
    · have nm : lk a ≠ m := fun q => e (by rw [q, h2])
      have := lp z
      refine Or.inr ⟨m, h1, h2, ⟨l0, h3, Or.inl h4, h5⟩, fun l hl y => ?_, fun l hl => ?_⟩
      · rcases y with y | y
        · exact h6 l hl y
        · rw [y]; omega
      · rw [h7 l hl]
        constructor
        · rintro ⟨x1, x2, x3⟩; exact ⟨x1, Or.inl x2, x3⟩
        · rintro ⟨x1, x2 | x2, x3⟩
          · exact ⟨x1, x2, x3⟩
          · rw [x2] at x3; exact absurd x3 nm
    · have : ¬ m ≤ lk a := fun y => z (by rw [h2]; exact nI_le y (by omega))
      have := h6 l hl hq
      omega
theorem lotS_un {q : Nat → Prop} {lk : Nat → Nat} {f1 f2 s1 s2 l1 l2 : Int32} (h1 : lotS q lk f1 s1 l1) (h2 : lotS q lk f2 s2 l2) : s1 = s2 ∧ upto s1 (2 ^ 26 - 1) := by
  rcases h1 with ⟨a1, a2, a3⟩ | ⟨m, a1, a2, ⟨l0, a3, a4, a5⟩, a6, a7⟩
  · rcases h2 with ⟨b1, b2, b3⟩ | ⟨m2, b1, b2, ⟨l0, b3, b4, b5⟩, b6, b7⟩
    · exact ⟨a2.trans b2.symm, by rw [a2]; exact up_0⟩
    · exact absurd b4 (a1 l0 b3)
  · rcases h2 with ⟨b1, b2, b3⟩ | ⟨m2, b1, b2, ⟨l3, b3, b4, b5⟩, b6, b7⟩
    · exact absurd a4 (b1 l0 a3)
    · have : m = m2 := by
        have h1 := a6 l3 b3 b4
        have h2 := b6 l0 a3 a4
        omega
      subst this
      refine ⟨b_ext fun i hi => ?_, ?_⟩
      · have := a7 i hi
        rw [← b7 i hi] at this
        cases e : bt s1 i <;> cases e2 : bt s2 i <;> simp_all
      · obtain ⟨n, hn, rfl⟩ := wb_of32 s1
        have : n < 2 ^ 26 := Nat.lt_pow_two_of_testBit n fun i hi => by
          rcases Nat.lt_or_ge i 32 with q | q
          · cases e : n.testBit i with
            | false => rfl
            | true =>
              rw [← bt_nI q] at e
              have := ((a7 i q).mp e).1
              omega
          · exact Nat.testBit_lt_two_pow (Nat.lt_of_lt_of_le hn (Nat.pow_le_pow_right (by omega) q))
        exact ⟨n, by omega, rfl⟩
/-- the bit of a rank -/
def slt (t r : Nat) : Nat → Nat → Int32
  | _, 0 => -1
  | i, k + 1 => if t.testBit i = true ∧ fa_cnt (fun i => t.testBit i) i = r then nI i else slt t r (i + 1) k
theorem kX10_bitOfRank {t r : Nat} (hr : r < 2 ^ 31) : Cl LX (d + 1) mX10_bitOfRank [.int (nI t), .int (nI r)] M (ev_R (some (.int (slt t r 0 26))) M) := by
  refine Cl_of rfl (Nat.le_of_ble_eq_true rfl) rfl (gX10_bitOfRank_0 ?_)
  have lp : ∀ k i, i + k = 26 → Ev LX (d + 1) mX10_bitOfRank 4 [some (.int (nI t)), some (.int (nI r)), some (.int (nI (fa_cnt (fun i => t.testBit i) i))), some (.int (nI i))] [] M (ev_R (some (.int (slt t r i k))) M) := by
    intro k
    induction k with
    | zero =>
      intro i hi
      exact gX10_bitOfRank_4 ⟨fun _ => ⟨rfl, rfl⟩, fun z => absurd (nI_le (a := 26) (by omega) (by omega)) z⟩
    | succ k ih =>
      intro i hi
      have ih := ih (i + 1) (by omega)
      have c26 := fa_cnt_le (fun i => t.testBit i) i
      rw [slt]
      refine gX10_bitOfRank_4 ⟨fun z => absurd z (nI_ge (b := 26) (by omega) (by omega)), fun _ => ?_⟩
      rw [hs_nI (by omega)]
      refine ⟨fun z => ?_, fun z => ⟨fun y => ?_, fun y => ?_⟩⟩
      · rw [if_neg (by rw [z]; exact fun q => by cases q.1), nI_1]
        rw [fa_cnt_no (p := fun i => t.testBit i) z] at ih; exact ih
      · rw [if_neg (fun q => y (by rw [q.2])), nI_1, nI_1]
        rw [fa_cnt_yes (p := fun i => t.testBit i) z] at ih; exact ih
      · rw [if_pos ⟨z, (nI_eq (by omega) hr).mp y⟩]; exact ⟨rfl, rfl⟩
  exact lp 26 0 (by omega)
theorem lotM {t r : Nat} (hr : r < fa_cnt (fun i => t.testBit i) 26) : ∀ k i, i + k = 26 → fa_cnt (fun i => t.testBit i) i ≤ r → Ev LM (d + 1) mX11_lot 151 [none, none, some (.int (nI t)), none, some (.int (nI (r - fa_cnt (fun i => t.testBit i) i))), some (.int (nI i))] [] N (ev_R (some (.int (slt t r i k))) N) := by
  have h26 := fa_cnt_le (fun i => t.testBit i) 26
  intro k
  induction k with
  | zero =>
    intro i hi hc
    obtain rfl : i = 26 := by omega
    omega
  | succ k ih =>
    intro i hi hc
    rw [slt]
    refine gX11_lot_151 ?_
    rw [hs_nI (by omega)]
    refine ⟨fun z => ⟨fun _ => ?_, fun y => bb z y⟩, fun z => ⟨fun y => ?_, fun y => ⟨fun x => bb z x, fun _ => ?_⟩⟩⟩
    · rw [if_neg (by rw [z]; exact fun q => by cases q.1), nI_1, show nI (r - fa_cnt (fun i => t.testBit i) i) - 0 = nI (r - fa_cnt (fun i => t.testBit i) i) from Int32.sub_zero _]
      have e : fa_cnt (fun i => t.testBit i) (i + 1) = fa_cnt (fun i => t.testBit i) i := fa_cnt_no (p := fun i => t.testBit i) z
      have := ih (i + 1) (by omega) (by omega)
      rw [e] at this; exact this
    · have : r - fa_cnt (fun i => t.testBit i) i ≤ 0 := (nI_leI (b := 0) (by omega) (by omega)).mp y
      rw [if_pos ⟨z, by omega⟩]; exact ⟨rfl, rfl⟩
    · have h0 : ¬ r - fa_cnt (fun i => t.testBit i) i ≤ 0 := fun q => y (nI_le (b := 0) q (by omega))
      have e : fa_cnt (fun i => t.testBit i) (i + 1) = fa_cnt (fun i => t.testBit i) i + 1 := fa_cnt_yes (p := fun i => t.testBit i) z
      rw [if_neg (fun q => by omega), nI_1, show (1 : Int32) = nI 1 from rfl, pk_sub (by omega)]
      have := ih (i + 1) (by omega) (by omega)
      rw [e, show r - (fa_cnt (fun i => t.testBit i) i + 1) = r - fa_cnt (fun i => t.testBit i) i - 1 by omega] at this
      exact this
def lkN (N : ev_Mem) (l : Nat) : Nat := (N.1 1 (399 + 2 * l + 1)).toNatClampNeg
theorem op_lot (h : RX B M N) (x : Int32) : OP 200 mX10_lot mX11_lot [.int x] B M N := by
  obtain ⟨W, S, T, Wk, Sk, Tk, h1, h2, h3, h4, h5, h6⟩ := id h
  obtain ⟨hsd, hS⟩ := RX_sd h1 h4
  have h24 := hsd.w24
  have el : N.1 1 9 = M.1 43 0 := hsd.lo
  obtain ⟨ex, xn, hxn, exn⟩ := h1.1.2.2.1.1.2.2.2.2
  have ex : M.1 43 4 = N.1 1 11 := ex
  have exn : N.1 1 11 = nI xn := exn
  have lk9 : ∀ l, l < 26 → N.1 1 (399 + 2 * l + 1) = nI (lkN N l) ∧ lkN N l ≤ 9 := fun l hl => by
    obtain ⟨n, hn, e⟩ := (hsd.md l hl).2.2.2
    unfold lkN
    rw [e, nI_clamp (by omega)]
    exact ⟨rfl, hn⟩
  by_cases hx : ∃ w, w < W ∧ x = nI w
  · obtain ⟨w, hw, rfl⟩ := hx
    have zm := wd_t h24 hsd.mw ⟨w, hw, rfl⟩
    have zn := wd_t h24 hsd.nw ⟨w, hw, rfl⟩
    obtain ⟨l1, l9, l3, l29, ll⟩ := sd_ln hsd hw
    let P : Nat → Prop := fun l => hs (M.1 43 0) (nI l) = true ∧ mdl (M.1 43 0) (N.1 1 (399 + 2 * l)) = true
    let qX : Nat → Nat → Prop := fun i l => (∃ j, j < i ∧ aw N w (4 + j) = nI l) ∧ P l
    let qM : Nat → Nat → Prop := fun k l => l < k ∧ bt (ltM N (nI w)) l = true ∧ P l
    have hqq : ∀ l, l < 26 → (qX (lnW N w) l ↔ qM 26 l) := fun l hl => by
      show ((∃ j, j < lnW N w ∧ aw N w (4 + j) = nI l) ∧ P l) ↔ (l < 26 ∧ bt (ltM N (nI w)) l = true ∧ P l)
      rw [ltM_bt hsd hw (by omega)]
      exact ⟨fun ⟨a, b⟩ => ⟨hl, a, b⟩, fun ⟨_, a, b⟩ => ⟨a, b⟩⟩
    have em : ∀ l, l < 26 → mnd (M.1 48) (M.1 43 0) (nI l) = mdl (M.1 43 0) (N.1 1 (399 + 2 * l)) := fun l hl => by
      have md := hsd.md l hl
      have := mnd_mdl (mo := M.1 48) (s := M.1 43 0) (l := nI l) (by
        rw [nI_clamp (by omega), md.1]
        rcases md.2.1 with q | q
        · exact Or.inl q
        · exact Or.inr (upto_in q (by omega)))
      rw [this, nI_clamp (by omega), md.1]
    -- the model's set
    have mset : ∃ set least, lotS (qM 26) (lkN N) 10 set least ∧ ∀ Q : Option Value → ev_Mem → Prop, Ev LM 200 mX11_lot 18 [some (.ref 0), some (.int (nI w)), some (.int set), some (.int least), some (.int (nI 26)), none] [] N Q → Ev LM 200 mX11_lot 18 [some (.ref 0), some (.int (nI w)), some (.int 0), some (.int 10), some (.int (nI 0)), none] [] N Q := by
      have lp : ∀ k, k ≤ 26 → ∃ set least, lotS (qM k) (lkN N) 10 set least ∧ ∀ Q : Option Value → ev_Mem → Prop, Ev LM 200 mX11_lot 18 [some (.ref 0), some (.int (nI w)), some (.int set), some (.int least), some (.int (nI k)), none] [] N Q → Ev LM 200 mX11_lot 18 [some (.ref 0), some (.int (nI w)), some (.int 0), some (.int 10), some (.int (nI 0)), none] [] N Q := by
        intro k
        induction k with
        | zero => exact fun _ => ⟨0, 10, Or.inl ⟨fun l hl z => absurd z.1 (by omega), rfl, rfl⟩, fun Q hq => hq⟩
        | succ k ih =>
          intro hk
          obtain ⟨set, least, hL, hE⟩ := ih (by omega)
          have k26 : k < 26 := by omega
          have i1 := am_in k26
          have i2 := al_in k26
          have a1 := am_at (M := N) k26
          have a2 := al_at (M := N) k26
          obtain ⟨ek, e9⟩ := lk9 k k26
          obtain ⟨A1, A2, A3⟩ := lotS_add (F := 10) k26 e9 (by omega) (by omega) hL
          have same : ¬ (bt (ltM N (nI w)) k = true ∧ P k) → lotS (qM (k + 1)) (lkN N) 10 set least := fun hn => by
            refine lotS_cg (fun l hl => ?_) hL
            constructor
            · rintro ⟨z1, z2⟩; exact ⟨by omega, z2⟩
            · rintro ⟨z1, z2⟩
              by_cases e : l = k
              · rw [e] at z2; exact absurd z2 hn
              · exact ⟨by omega, z2⟩
          have grow : (bt (ltM N (nI w)) k = true ∧ P k) → ∀ l, l < 26 → ((qM k l ∨ l = k) ↔ qM (k + 1) l) := fun hp l hl => by
            constructor
            · rintro (⟨z1, z2⟩ | z)
              · exact ⟨by omega, z2⟩
              · rw [z]; exact ⟨by omega, hp⟩
            · rintro ⟨z1, z2⟩
              by_cases e : l = k
              · exact Or.inr e
              · exact Or.inl ⟨by omega, z2⟩
          by_cases hP : bt (ltM N (nI w)) k = true ∧ P k
          · have hb : hs (ltM N (nI w)) (nI k) = true := by rw [hs_bt (by omega)]; exact hP.1
            by_cases g1 : nI (lkN N k) ≤ least
            · by_cases g2 : least ≤ nI (lkN N k)
              · have e : nI (lkN N k) = least := by rw [I_eq]; rw [I_le] at g1 g2; omega
                refine ⟨_, least, lotS_cg (grow hP) (A1 g2 e), fun Q hq => hE Q ?_⟩
                refine gX11_lot_18 (d := 197) ⟨fun z => absurd z (nI_ge (b := 26) k26 (by omega)), fun _ => ⟨sd_wm hsd hw, fun z => bb z hb, fun _ => ?_⟩⟩
                rw [el, a1, a2, ek]
                refine ⟨fun z => bb z hP.2.1, fun _ => ⟨i1, fun z => bb z hP.2.2, fun _ => ⟨i2, fun _ => ⟨i2, fun _ => ⟨i2, fun v2 e2 v3 e3 => ?_⟩, fun z => absurd g2 z⟩, fun z => absurd g1 z⟩⟩⟩
                rw [nI_1, e2, e3, e]; exact hq
              · refine ⟨_, _, lotS_cg (grow hP) (A3 g2), fun Q hq => hE Q ?_⟩
                refine gX11_lot_18 (d := 197) ⟨fun z => absurd z (nI_ge (b := 26) k26 (by omega)), fun _ => ⟨sd_wm hsd hw, fun z => bb z hb, fun _ => ?_⟩⟩
                rw [el, a1, a2, ek]
                refine ⟨fun z => bb z hP.2.1, fun _ => ⟨i1, fun z => bb z hP.2.2, fun _ => ⟨i2, fun _ => ⟨i2, fun z => absurd z g2, fun _ => ⟨i2, fun v2 e2 v3 e3 => ?_⟩⟩, fun z => absurd g1 z⟩⟩⟩
                rw [nI_1, e2, e3]; exact hq
            · have g2 : least ≤ nI (lkN N k) := by rw [I_le]; rw [I_le] at g1; omega
              have g3 : ¬ nI (lkN N k) = least := fun e => g1 (by rw [e]; exact Int32.le_refl _)
              refine ⟨_, _, lotS_cg (grow hP) (A2 g2 g3), fun Q hq => hE Q ?_⟩
              refine gX11_lot_18 (d := 197) ⟨fun z => absurd z (nI_ge (b := 26) k26 (by omega)), fun _ => ⟨sd_wm hsd hw, fun z => bb z hb, fun _ => ?_⟩⟩
              rw [el, a1, a2, ek]
              refine ⟨fun z => bb z hP.2.1, fun _ => ⟨i1, fun z => bb z hP.2.2, fun _ => ⟨i2, fun z => absurd z g1, fun _ => ?_⟩⟩⟩
              rw [nI_1]; exact hq
          · refine ⟨set, least, same hP, fun Q hq => hE Q ?_⟩
            refine gX11_lot_18 (d := 197) ⟨fun z => absurd z (nI_ge (b := 26) k26 (by omega)), fun _ => ⟨sd_wm hsd hw, fun _ => by rw [nI_1]; exact hq, fun hb => ?_⟩⟩
            rw [el, a1]
            refine ⟨fun _ => by rw [nI_1]; exact hq, fun hl => ⟨i1, fun _ => by rw [nI_1]; exact hq, fun hm => ?_⟩⟩
            exact absurd ⟨by rw [← hs_bt (by omega)]; exact hb, hl, hm⟩ hP
      exact lp 26 (by omega)
    -- the class's set
    have cset : ∃ set least, lotS (qX (lnW N w)) (lkN N) 1000000 set least ∧ ∀ Q : Option Value → ev_Mem → Prop, Ev LX 200 mX10_lot 22 [some (.ref 0), some (.int (nI w)), some (.int set), some (.int least), some (.int (nI (lnW N w))), none, none] [] M Q → Ev LX 200 mX10_lot 22 [some (.ref 0), some (.int (nI w)), some (.int 0), some (.int 1000000), some (.int (nI 0)), none, none] [] M Q := by
      have lp : ∀ k, k ≤ lnW N w → ∃ set least, lotS (qX k) (lkN N) 1000000 set least ∧ ∀ Q : Option Value → ev_Mem → Prop, Ev LX 200 mX10_lot 22 [some (.ref 0), some (.int (nI w)), some (.int set), some (.int least), some (.int (nI k)), none, none] [] M Q → Ev LX 200 mX10_lot 22 [some (.ref 0), some (.int (nI w)), some (.int 0), some (.int 1000000), some (.int (nI 0)), none, none] [] M Q := by
        intro k
        induction k with
        | zero => exact fun _ => ⟨0, 1000000, Or.inl ⟨fun l hl z => by obtain ⟨⟨j, hj, _⟩, _⟩ := z; exact absurd hj (by omega), rfl, rfl⟩, fun Q hq => hq⟩
        | succ k ih =>
          intro hk
          obtain ⟨set, least, hL, hE⟩ := ih (by omega)
          have kl : k < lnW N w := by omega
          obtain ⟨e5, a, ha25, ea⟩ := ll k kl
          have a26 : a < 26 := by omega
          obtain ⟨ek, e9⟩ := lk9 a a26
          have e49 : M.1 49 a = nI (lkN N a) := (hsd.md a a26).2.2.1.trans ek
          have va : vp_in (nI a) 26 := vp_in_nI a26 (by omega)
          obtain ⟨A1, A2, A3⟩ := lotS_add (F := 1000000) a26 e9 (by omega) (by omega) hL
          have st : ∀ Q : Option Value → ev_Mem → Prop, _ → Ev LX 200 mX10_lot 22 [some (.ref 0), some (.int (nI w)), some (.int set), some (.int least), some (.int (nI k)), none, none] [] M Q := fun Q (hh : ∀ v1 : Int32, v1 = nI a → _) => gX10_lot_22 (d := 198) ⟨vp_in_nI (by omega) (by omega), fun z => absurd (by rw [nI_clamp (by omega), l29] at z; exact z) (nI_ge kl (by omega)), fun _ => ⟨vp_in_nI (by omega) (by omega), vp_in_nI (by omega) (by omega), fun v1 e1 => hh v1 (by rw [e1, nI_clamp (by omega), nI_clamp (by omega), e5, ea])⟩⟩
          have same : ¬ P a → lotS (qX (k + 1)) (lkN N) 1000000 set least := fun hn => by
            refine lotS_cg (fun l hl => ?_) hL
            constructor
            · rintro ⟨⟨j, hj, ej⟩, z2⟩; exact ⟨⟨j, by omega, ej⟩, z2⟩
            · rintro ⟨⟨j, hj, ej⟩, z2⟩
              by_cases e : j = k
              · rw [e, ea] at ej
                have := (nI_eq (by omega) (by omega)).mp ej
                rw [← this] at z2; exact absurd z2 hn
              · exact ⟨⟨j, by omega, ej⟩, z2⟩
          have grow : P a → ∀ l, l < 26 → ((qX k l ∨ l = a) ↔ qX (k + 1) l) := fun hp l hl => by
            constructor
            · rintro (⟨⟨j, hj, ej⟩, z2⟩ | z)
              · exact ⟨⟨j, by omega, ej⟩, z2⟩
              · rw [z]; exact ⟨⟨k, by omega, ea⟩, hp⟩
            · rintro ⟨⟨j, hj, ej⟩, z2⟩
              by_cases e : j = k
              · rw [e, ea] at ej
                exact Or.inr ((nI_eq (by omega) (by omega)).mp ej).symm
              · exact Or.inl ⟨⟨j, by omega, ej⟩, z2⟩
          by_cases hP : P a
          · by_cases g2 : least ≤ nI (lkN N a)
            · by_cases g3 : nI (lkN N a) = least
              · refine ⟨_, least, lotS_cg (grow hP) (A1 g2 g3), fun Q hq => hE Q (st Q fun v1 e1 => ?_)⟩
                rw [e1, em a a26, nI_clamp (n := a) (by omega), e49]
                refine ⟨fun z => bb z hP.1, fun _ => ⟨va, fun z => bb z hP.2, fun _ => ⟨va, fun _ => ⟨fun z => absurd g3 z, fun _ v2 e2 => ?_⟩, fun z => absurd g2 z⟩⟩⟩
                rw [nI_1, e2]; exact hq
              · refine ⟨_, _, lotS_cg (grow hP) (A2 g2 g3), fun Q hq => hE Q (st Q fun v1 e1 => ?_)⟩
                rw [e1, em a a26, nI_clamp (n := a) (by omega), e49]
                refine ⟨fun z => bb z hP.1, fun _ => ⟨va, fun z => bb z hP.2, fun _ => ⟨va, fun _ => ⟨fun _ => ?_, fun z => absurd z g3⟩, fun z => absurd g2 z⟩⟩⟩
                rw [nI_1]; exact hq
            · refine ⟨_, _, lotS_cg (grow hP) (A3 g2), fun Q hq => hE Q (st Q fun v1 e1 => ?_)⟩
              rw [e1, em a a26, nI_clamp (n := a) (by omega), e49]
              refine ⟨fun z => bb z hP.1, fun _ => ⟨va, fun z => bb z hP.2, fun _ => ⟨va, fun z => absurd z g2, fun _ => ⟨fun z => absurd rfl z, fun _ v2 e2 => ?_⟩⟩⟩⟩
              rw [nI_1, e2]; exact hq
          · refine ⟨set, least, same hP, fun Q hq => hE Q (st Q fun v1 e1 => ?_)⟩
            rw [e1, em a a26]
            refine ⟨fun _ => by rw [nI_1]; exact hq, fun hl => ⟨va, fun _ => by rw [nI_1]; exact hq, fun hm => absurd ⟨hl, hm⟩ hP⟩⟩
      exact lp _ (Nat.le_refl _)
    obtain ⟨s1, z1, L1, E1⟩ := mset
    obtain ⟨s2, z2, L2, E2⟩ := cset
    obtain ⟨es, t, ht, et⟩ := lotS_un L1 (lotS_cg hqq L2)
    rw [← es] at E2
    rw [et] at E1 E2
    have hbc := bc_cnt (t := t) (by omega)
    have c26 := fa_cnt_le (fun i => t.testBit i) 26
    have hz : nI t = 0 ↔ t = 0 := nI_eq (b := 0) (by omega) (by omega)
    have hpos : ¬ t = 0 → 0 < fa_cnt (fun i => t.testBit i) 26 := fun hn => by
      rcases Nat.eq_zero_or_pos (fa_cnt (fun i => t.testBit i) 26) with q | q
      · have hb := cnt_0.mp q
        refine absurd (Nat.eq_of_testBit_eq fun i => ?_) hn
        rw [Nat.zero_testBit]
        rcases Nat.lt_or_ge i 26 with y | y
        · exact hb i y
        · exact tb_26 (by omega) y
      · exact q
    have hrem : ¬ t = 0 → nI xn - nI xn / bc (nI t) * bc (nI t) = nI (xn % fa_cnt (fun i => t.testBit i) 26) := fun hn => by
      rw [hbc]; exact pk_rem (by omega) (hpos hn) (by omega)
    have hnz : ¬ t = 0 → ¬ bc (nI t) = 0 := fun hn => by rw [hbc]; exact nI_ne0 (hpos hn) (by omega)
    refine op_ro (v := some (.int (if t = 0 then -1 else slt t (xn % fa_cnt (fun i => t.testBit i) 26) 0 26))) h ?_ ?_
    · refine Cl_of rfl (Nat.le_of_ble_eq_true rfl) rfl (gX10_lot_0 (d := 199) ⟨⟨W, h24, hsd.mw⟩, fun _ => E2 _ ?_, fun z => bb z zm⟩)
      refine gX10_lot_22 (d := 198) ⟨vp_in_nI (by omega) (by omega), fun _ => ⟨fun z => ?_, fun z => ?_⟩, fun z => absurd ?_ z⟩
      · have tn : ¬ t = 0 := fun q => z (hz.mpr q)
        refine ⟨hnz tn, ?_⟩
        rw [ex, exn, hrem tn]
        have hlt := Nat.mod_lt xn (hpos tn)
        refine ⟨_, kX10_bitOfRank (d := 198) (by omega), fun zr M2 q => ?_⟩
        rw [q.1, q.2]
        exact gX10_lot_150 ⟨by rw [if_neg tn], xq.rf⟩
      · exact gX10_lot_150 ⟨by rw [if_pos (hz.mp z)], xq.rf⟩
      · rw [nI_clamp (by omega), l29]; exact nI_le (Nat.le_refl _) (by omega)
    · refine Cl_of rfl (Nat.le_of_ble_eq_true rfl) rfl (gX11_lot_0 (d := 198) ⟨fun _ => E1 _ ?_, fun z => bb z zn⟩)
      refine gX11_lot_18 (d := 197) ⟨fun _ => ⟨fun z => ?_, fun z => ⟨by rw [if_pos (hz.mp z)], pe.rf⟩⟩, fun z => absurd (nI_le (a := 26) (b := 26) (Nat.le_refl _) (by omega)) z⟩
      have tn : ¬ t = 0 := fun q => z (hz.mpr q)
      refine ⟨hnz tn, fun v1 e1 => ?_⟩
      rw [exn, hrem tn] at e1
      rw [e1]
      have hlt := Nat.mod_lt xn (hpos tn)
      have := lotM (d := 199) (N := N) hlt 26 0 (by omega) (Nat.zero_le _)
      refine Ev.mono this (fun r N2 q => ⟨by rw [q.1, if_neg tn], by rw [q.2]; exact pe.rf⟩)
  · have zm := wd_f h24 hsd.mw hx
    have zn := wd_f h24 hsd.nw hx
    refine op_ro (v := some (.int (-1))) h ?_ ?_
    · exact Cl_of rfl (Nat.le_of_ble_eq_true rfl) rfl (gX10_lot_0 (d := 199) ⟨⟨W, h24, hsd.mw⟩, fun z => bb z zm, fun _ => ⟨rfl, xq.rf⟩⟩)
    · exact Cl_of rfl (Nat.le_of_ble_eq_true rfl) rfl (gX11_lot_0 (d := 198) ⟨fun z => bb z zn, fun _ => ⟨rfl, pe.rf⟩⟩)
end
