/-! pressing keys -/
section
variable {d B : Nat} {M N : ev_Mem} {W T S s f : Nat} {lo : Int32}
def kst9 (u : Nat → Int32) (k : Int32) : Nat → Int32 := if k = -1 then u else if 9999 ≤ u k.toNatClampNeg then u else upd u k.toNatClampNeg (u k.toNatClampNeg + 1)
def wst9 (ky : Nat → Int32) (u : Nat → Int32) : Nat → Nat → Int32
  | 0 => u
  | i + 1 => kst9 (wst9 ky u i) (ky i)
def sst9 (ky : Nat → Nat → Int32) (ln : Nat → Nat) (u : Nat → Int32) : Nat → Nat → Int32
  | 0 => u
  | p + 1 => wst9 (ky p) (sst9 ky ln u p) (ln p)
def kyN (N : ev_Mem) (w i : Nat) : Int32 := kyf (aw N w 0) (fun l => N.1 1 (399 + 2 * l)) (N.1 1 9) (aw N w (4 + i))
def lnW (N : ev_Mem) (w : Nat) : Nat := (aw N w 3).toNatClampNeg
def prN (N : ev_Mem) (s f : Nat) (u : Nat → Int32) : Nat → Int32 := sst9 (fun p => kyN N (hN N s f p)) (fun p => lnW N (hN N s f p)) u (lnN N s)
/-- a key, or none -/
def isK (k : Int32) : Prop := k = -1 ∨ ∃ l, l < 26 ∧ k = nI l
def upR (u : Nat → Int32) (b : Nat) : Prop := ∀ l, l < 26 → upto (u l) b
def eqR (u v : Nat → Int32) : Prop := ∀ l, l < 26 → u l = v l
theorem kst9_up {u : Nat → Int32} {k : Int32} {b : Nat} (h : upR u b) (hk : isK k) : upR (kst9 u k) (b + 1) := by
  intro l hl
  unfold kst9
  split
  · exact upto_mono (h l hl) (by omega)
  · split
    · exact upto_mono (h l hl) (by omega)
    · rename_i z _
      obtain ⟨j, hj, rfl⟩ := hk.resolve_left z
      rw [nI_clamp (by omega)]
      by_cases e : l = j
      · subst e
        rw [upd_eq]
        obtain ⟨n, hn, en⟩ := h l hl
        exact ⟨n + 1, by omega, by rw [en, nI_1]⟩
      · rw [upd_ne e]; exact upto_mono (h l hl) (by omega)
theorem kst9_cap {u : Nat → Int32} {k : Int32} (h : upR u 9999) (hk : isK k) : upR (kst9 u k) 9999 := by
  intro l hl
  unfold kst9
  split
  · exact h l hl
  · split
    · exact h l hl
    · rename_i z y
      obtain ⟨j, hj, rfl⟩ := hk.resolve_left z
      rw [nI_clamp (by omega)] at y ⊢
      by_cases e : l = j
      · subst e
        rw [upd_eq]
        obtain ⟨n, hn, en⟩ := h l hl
        rw [en] at y
        refine ⟨n + 1, ?_, by rw [en, nI_1]⟩
        rcases Nat.lt_or_ge n 9999 with q | q
        · omega
        · exact absurd (nI_le (a := 9999) q (by omega)) y
      · rw [upd_ne e]; exact h l hl
theorem kst9_lt {u : Nat → Int32} {l b : Nat} (h : upR u b) (hb : b < 9999) (hl : l < 26) : kst9 u (nI l) = upd u l (u l + 1) := by
  unfold kst9
  obtain ⟨n, hn, en⟩ := h l hl
  rw [if_neg (nI_nm1 (by omega)), nI_clamp (by omega), if_neg]
  rw [en]; exact nI_ge (b := 9999) (by omega) (by omega)
theorem kst9_eq {u v : Nat → Int32} {k : Int32} (h : eqR u v) (hk : isK k) : eqR (kst9 u k) (kst9 v k) := by
  intro l hl
  unfold kst9
  split
  · exact h l hl
  · rename_i z
    obtain ⟨j, hj, rfl⟩ := hk.resolve_left z
    rw [nI_clamp (by omega), h j hj]
    split
    · exact h l hl
    · by_cases e : l = j
      · subst e; rw [upd_eq, upd_eq]
      · rw [upd_ne e, upd_ne e]; exact h l hl
theorem wst9_up {ky u : Nat → Int32} {b : Nat} (h : upR u b) : ∀ n, (∀ i, i < n → isK (ky i)) → upR (wst9 ky u n) (b + n)
  | 0, _ => h
  | n + 1, hk => kst9_up (wst9_up h n (fun i hi => hk i (by omega))) (hk n (by omega))
theorem wst9_cap {ky u : Nat → Int32} (h : upR u 9999) : ∀ n, (∀ i, i < n → isK (ky i)) → upR (wst9 ky u n) 9999
  | 0, _ => h
  | n + 1, hk => kst9_cap (wst9_cap h n (fun i hi => hk i (by omega))) (hk n (by omega))
theorem wst9_eq {ky u v : Nat → Int32} (h : eqR u v) : ∀ n, (∀ i, i < n → isK (ky i)) → eqR (wst9 ky u n) (wst9 ky v n)
  | 0, _ => h
  | n + 1, hk => kst9_eq (wst9_eq h n (fun i hi => hk i (by omega))) (hk n (by omega))
theorem sst9_up {ky : Nat → Nat → Int32} {ln : Nat → Nat} {u : Nat → Int32} {b : Nat} (h : upR u b) : ∀ n, (∀ p, p < n → ln p ≤ 9 ∧ ∀ i, i < ln p → isK (ky p i)) → upR (sst9 ky ln u n) (b + 9 * n)
  | 0, _ => h
  | n + 1, hk => fun l hl => upto_mono (wst9_up (sst9_up h n (fun p hp => hk p (by omega))) (ln n) (hk n (by omega)).2 l hl) (by have := (hk n (by omega)).1; omega)
theorem sst9_cap {ky : Nat → Nat → Int32} {ln : Nat → Nat} {u : Nat → Int32} (h : upR u 9999) : ∀ n, (∀ p, p < n → ln p ≤ 9 ∧ ∀ i, i < ln p → isK (ky p i)) → upR (sst9 ky ln u n) 9999
  | 0, _ => h
  | n + 1, hk => wst9_cap (sst9_cap h n (fun p hp => hk p (by omega))) (ln n) (hk n (by omega)).2
theorem sst9_eq {ky : Nat → Nat → Int32} {ln : Nat → Nat} {u v : Nat → Int32} (h : eqR u v) : ∀ n, (∀ p, p < n → ln p ≤ 9 ∧ ∀ i, i < ln p → isK (ky p i)) → eqR (sst9 ky ln u n) (sst9 ky ln v n)
  | 0, _ => h
  | n + 1, hk => wst9_eq (sst9_eq h n (fun p hp => hk p (by omega))) (ln n) (hk n (by omega)).2
theorem sd_ln (h : sdR M N W T lo) {w : Nat} (hw : w < W) : 1 ≤ lnW N w ∧ lnW N w ≤ 9 ∧ aw N w 3 = nI (lnW N w) ∧ M.1 29 w = nI (lnW N w) ∧ ∀ i, i < lnW N w → M.1 (5 + w) i = aw N w (4 + i) ∧ upto (aw N w (4 + i)) 25 := by
  obtain ⟨⟨r1, -⟩, -, n, n1, n9, en, rl⟩ := h.wr w hw
  have e : aw N w 3 = nI n := en
  unfold lnW
  rw [e, nI_clamp (by omega)]
  refine ⟨n1, n9, rfl, r1.trans en, fun i hi => ?_⟩
  have := rl i hi
  rw [show 39 + 13 * w + 4 + i = 39 + 13 * w + (4 + i) by omega] at this
  exact this
theorem sd_ky (h : sdR M N W T lo) {w i : Nat} (hw : w < W) (hi : i < lnW N w) : kyf (M.1 30 w) (M.1 48) lo (M.1 (5 + w) i) = kyN N w i ∧ isK (kyN N w i) := by
  obtain ⟨e, l, hl, el⟩ := (sd_ln h hw).2.2.2.2 i hi
  have e30 : M.1 30 w = aw N w 0 := (h.wr w hw).1.2.1
  have md := h.md l (by omega)
  refine ⟨?_, ?_⟩
  · unfold kyN
    rw [e, e30, h.lo, el]
    unfold kyf
    rw [nI_clamp (by omega), md.1]
  · unfold kyN
    rw [el]
    unfold kyf
    rw [nI_clamp (by omega)]
    split
    · split
      · rcases md.2.1 with q | ⟨j, hj, q⟩
        · exact Or.inl q
        · exact Or.inr ⟨j, by omega, q⟩
      · exact Or.inl rfl
    · exact Or.inr ⟨l, by omega, rfl⟩
theorem sd_kp (h : sdR M N W T lo) (hb : bN N s = some f) : ∀ p, p < lnN N s → lnW N (hN N s f p) ≤ 9 ∧ ∀ i, i < lnW N (hN N s f p) → isK (kyN N (hN N s f p) i) := fun p hp => by
  have := hN_lt hb p hp
  rw [sd_wN h] at this
  exact ⟨(sd_ln h this).2.1, fun i hi => (sd_ky h this hi).2⟩
/-- a memory with another row -/
def rowM (M : ev_Mem) (c : Nat) (u : Nat → Int32) : ev_Mem := (fun a b => if a = c then u b else M.1 a b, M.2)
theorem rowM_s {c : Nat} {u : Nat → Int32} : (rowM M c u).1 c = u := funext fun b => if_pos rfl
theorem rowM_n {c k : Nat} {u : Nat → Int32} (h : k ≠ c) : (rowM M c u).1 k = M.1 k := funext fun b => if_neg h
theorem rowM_id {c : Nat} : rowM M c (M.1 c) = M := by
  refine Prod.ext (funext fun a => funext fun b => ?_) rfl
  show (if a = c then M.1 c b else M.1 a b) = M.1 a b
  split
  · rename_i e; rw [e]
  · rfl
theorem rowM_w {c j : Nat} {u : Nat → Int32} {v : Int32} : ev_wr (rowM M c u) c j v = rowM M c (upd u j v) := by
  refine Prod.ext (funext fun a => funext fun b => ?_) rfl
  show (if a = c ∧ b = j then v else if a = c then u b else M.1 a b) = if a = c then upd u j v b else M.1 a b
  by_cases e : a = c
  · rw [if_pos e, if_pos e]
    by_cases q : b = j
    · rw [if_pos ⟨e, q⟩, q, upd_eq]
    · rw [if_neg (fun z => q z.2), upd_ne q]
  · rw [if_neg e, if_neg e, if_neg (fun z => e z.1)]
theorem press119 {Mi : ev_Mem} (h : sdR M N W T lo) (hb : bN N s = some f) (hM : ∀ k, k < 82 → k ≠ 119 → Mi.1 k = M.1 k) (h3 : Mi.1 86 3 = lo) (hsp : spN N Mi s f) (hn5 : lnN N s ≤ 5) :
    Cl LX (d + 3) mX6_press [.ref 86, .ref 119] Mi (ev_R none (rowM Mi 119 (prN N s f (Mi.1 119)))) := by
  have hW := sd_wN h
  have h24 := h.w24
  refine Cl_of rfl (Nat.le_of_ble_eq_true rfl) rfl (gX6_pressp_0 ?_)
  have lp : ∀ p, p ≤ lnN N s → Ev LX (d + 3) mX6_press 2 [some (.ref 86), some (.ref 119), some (.int (nI p)), none, none, none] [] (rowM Mi 119 (sst9 (fun p => kyN N (hN N s f p)) (fun p => lnW N (hN N s f p)) (Mi.1 119) p)) (ev_R none (rowM Mi 119 (prN N s f (Mi.1 119)))) := by
    refine dn ?_ (fun p hp ih => ?_)
    · refine gX6_pressp_2 ⟨fun _ => ⟨rfl, rfl⟩, fun z => absurd ?_ z⟩
      rw [rowM_n (by omega), hsp.2.1]; exact nI_le (Nat.le_refl _) (by omega)
    · refine gX6_pressp_2 ⟨fun z => ?_, fun _ => ⟨vp_in_nI (by omega) (by omega), ?_⟩⟩
      · rw [rowM_n (by omega), hsp.2.1] at z; exact absurd z (nI_ge hp (by omega))
      · rw [nI_clamp (by omega), rowM_n (c := 119) (k := 99) (by omega), hsp.2.2.1 p hp]
        have hwW := hN_lt hb p hp
        rw [hW] at hwW
        rw [sst9] at ih
        generalize hN N s f p = w at hwW ih
        obtain ⟨l1, l9, l3, l29, ll⟩ := sd_ln h hwW
        generalize sst9 (fun p => kyN N (hN N s f p)) (fun p => lnW N (hN N s f p)) (Mi.1 119) p = u at ih
        have lq : ∀ i, i ≤ lnW N w → Ev LX (d + 3) mX6_press 20 [some (.ref 86), some (.ref 119), some (.int (nI p)), some (.int (nI w)), some (.int (nI i)), none] [] (rowM Mi 119 (wst9 (kyN N w) u i)) (ev_R none (rowM Mi 119 (prN N s f (Mi.1 119)))) := by
          refine dn ?_ (fun i hi ih2 => ?_)
          · refine gX6_pressp_20 (d := d + 2) ⟨vp_in_nI (by omega) (by omega), ?_⟩
            rw [nI_clamp (by omega), rowM_n (by omega), hM 29 (by omega) (by omega), l29]
            refine ⟨fun _ => ?_, fun z => absurd (nI_le (Nat.le_refl _) (by omega)) z⟩
            rw [nI_1]; exact ih
          · refine gX6_pressp_20 (d := d + 2) ⟨vp_in_nI (by omega) (by omega), ?_⟩
            rw [nI_clamp (by omega), rowM_n (c := 119) (k := 29) (by omega), hM 29 (by omega) (by omega), l29]
            refine ⟨fun z => absurd z (nI_ge hi (by omega)), fun _ => ?_⟩
            rw [rowM_n (c := 119) (k := 86) (by omega), h3]
            obtain ⟨e5, ll2⟩ := ll i hi
            refine ⟨_, kX5_keyFor (d := d + 1) (w := w) (i := i) (by omega) (by omega) ?_, fun zr M2 q => ?_⟩
            · rw [rowM_n (by omega), hM (5 + w) (by omega) (by omega), e5]
              exact upto_in ll2 (by omega)
            · obtain ⟨ky, kk⟩ := sd_ky h hwW hi
              rw [rowM_n (c := 119) (k := 30) (by omega), rowM_n (c := 119) (k := 48) (by omega), rowM_n (c := 119) (k := 5 + w) (by omega), hM 30 (by omega) (by omega), hM 48 (by omega) (by omega), hM (5 + w) (by omega) (by omega), ky] at q
              rw [q.1, q.2]
              rw [wst9] at ih2
              generalize kyN N w i = k at kk ih2
              generalize wst9 (kyN N w) u i = v at ih2
              refine gX6_pressp_48 ⟨fun z => ?_, fun z => ⟨fun y => ?_, fun y => ⟨?_, fun x => ?_, fun x => ⟨?_, ?_, fun M3 e3 => ?_⟩⟩⟩⟩
              · have k1 : k = -1 := by
                  rcases kk with q | ⟨l, hl, rfl⟩
                  · exact q
                  · exact absurd z (nI_pos (by omega))
                unfold kst9 at ih2
                rw [if_pos k1] at ih2
                rw [nI_1]; exact ih2
              · obtain ⟨l, hl, rfl⟩ := kk.resolve_left (fun q => z (by rw [q]; decide))
                exact absurd y (nI_ge (b := 26) hl (by omega))
              · obtain ⟨l, hl, rfl⟩ := kk.resolve_left (fun q => z (by rw [q]; decide))
                exact vp_in_nI hl (by omega)
              · have k1 : ¬ k = -1 := fun q => z (by rw [q]; decide)
                rw [rowM_s] at x
                unfold kst9 at ih2
                rw [if_neg k1, if_pos x] at ih2
                rw [nI_1]; exact ih2
              · obtain ⟨l, hl, rfl⟩ := kk.resolve_left (fun q => z (by rw [q]; decide))
                exact vp_in_nI hl (by omega)
              · obtain ⟨l, hl, rfl⟩ := kk.resolve_left (fun q => z (by rw [q]; decide))
                exact vp_in_nI hl (by omega)
              · have k1 : ¬ k = -1 := fun q => z (by rw [q]; decide)
                rw [rowM_s] at x
                unfold kst9 at ih2
                rw [if_neg k1, if_neg x] at ih2
                rw [rowM_s, rowM_w] at e3
                rw [nI_1, e3]; exact ih2
        exact lq 0 (by omega)
  have := lp 0 (by omega)
  rw [sst9, rowM_id] at this
  exact this
theorem press44 {Mi : ev_Mem} (h : sdR M N W T lo) (hb : bN N s = some f) (hM : ∀ k, k < 82 → k ≠ 44 → Mi.1 k = M.1 k) (h3 : Mi.1 86 3 = lo) (hsp : spN N Mi s f) (hn5 : lnN N s ≤ 5) :
    Cl LX (d + 3) mX6_press [.ref 86, .ref 44] Mi (ev_R none (rowM Mi 44 (prN N s f (Mi.1 44)))) := by
  have hW := sd_wN h
  have h24 := h.w24
  refine Cl_of rfl (Nat.le_of_ble_eq_true rfl) rfl (gX6_pressu_0 ?_)
  have lp : ∀ p, p ≤ lnN N s → Ev LX (d + 3) mX6_press 2 [some (.ref 86), some (.ref 44), some (.int (nI p)), none, none, none] [] (rowM Mi 44 (sst9 (fun p => kyN N (hN N s f p)) (fun p => lnW N (hN N s f p)) (Mi.1 44) p)) (ev_R none (rowM Mi 44 (prN N s f (Mi.1 44)))) := by
    refine dn ?_ (fun p hp ih => ?_)
    · refine gX6_pressu_2 ⟨fun _ => ⟨rfl, rfl⟩, fun z => absurd ?_ z⟩
      rw [rowM_n (by omega), hsp.2.1]; exact nI_le (Nat.le_refl _) (by omega)
    · refine gX6_pressu_2 ⟨fun z => ?_, fun _ => ⟨vp_in_nI (by omega) (by omega), ?_⟩⟩
      · rw [rowM_n (by omega), hsp.2.1] at z; exact absurd z (nI_ge hp (by omega))
      · rw [nI_clamp (by omega), rowM_n (c := 44) (k := 99) (by omega), hsp.2.2.1 p hp]
        have hwW := hN_lt hb p hp
        rw [hW] at hwW
        rw [sst9] at ih
        generalize hN N s f p = w at hwW ih
        obtain ⟨l1, l9, l3, l29, ll⟩ := sd_ln h hwW
        generalize sst9 (fun p => kyN N (hN N s f p)) (fun p => lnW N (hN N s f p)) (Mi.1 44) p = u at ih
        have lq : ∀ i, i ≤ lnW N w → Ev LX (d + 3) mX6_press 20 [some (.ref 86), some (.ref 44), some (.int (nI p)), some (.int (nI w)), some (.int (nI i)), none] [] (rowM Mi 44 (wst9 (kyN N w) u i)) (ev_R none (rowM Mi 44 (prN N s f (Mi.1 44)))) := by
          refine dn ?_ (fun i hi ih2 => ?_)
          · refine gX6_pressu_20 (d := d + 2) ⟨vp_in_nI (by omega) (by omega), ?_⟩
            rw [nI_clamp (by omega), rowM_n (by omega), hM 29 (by omega) (by omega), l29]
            refine ⟨fun _ => ?_, fun z => absurd (nI_le (Nat.le_refl _) (by omega)) z⟩
            rw [nI_1]; exact ih
          · refine gX6_pressu_20 (d := d + 2) ⟨vp_in_nI (by omega) (by omega), ?_⟩
            rw [nI_clamp (by omega), rowM_n (c := 44) (k := 29) (by omega), hM 29 (by omega) (by omega), l29]
            refine ⟨fun z => absurd z (nI_ge hi (by omega)), fun _ => ?_⟩
            rw [rowM_n (c := 44) (k := 86) (by omega), h3]
            obtain ⟨e5, ll2⟩ := ll i hi
            refine ⟨_, kX5_keyFor (d := d + 1) (w := w) (i := i) (by omega) (by omega) ?_, fun zr M2 q => ?_⟩
            · rw [rowM_n (by omega), hM (5 + w) (by omega) (by omega), e5]
              exact upto_in ll2 (by omega)
            · obtain ⟨ky, kk⟩ := sd_ky h hwW hi
              rw [rowM_n (c := 44) (k := 30) (by omega), rowM_n (c := 44) (k := 48) (by omega), rowM_n (c := 44) (k := 5 + w) (by omega), hM 30 (by omega) (by omega), hM 48 (by omega) (by omega), hM (5 + w) (by omega) (by omega), ky] at q
              rw [q.1, q.2]
              rw [wst9] at ih2
              generalize kyN N w i = k at kk ih2
              generalize wst9 (kyN N w) u i = v at ih2
              refine gX6_pressu_48 ⟨fun z => ?_, fun z => ⟨fun y => ?_, fun y => ⟨?_, fun x => ?_, fun x => ⟨?_, ?_, fun M3 e3 => ?_⟩⟩⟩⟩
              · have k1 : k = -1 := by
                  rcases kk with q | ⟨l, hl, rfl⟩
                  · exact q
                  · exact absurd z (nI_pos (by omega))
                unfold kst9 at ih2
                rw [if_pos k1] at ih2
                rw [nI_1]; exact ih2
              · obtain ⟨l, hl, rfl⟩ := kk.resolve_left (fun q => z (by rw [q]; decide))
                exact absurd y (nI_ge (b := 26) hl (by omega))
              · obtain ⟨l, hl, rfl⟩ := kk.resolve_left (fun q => z (by rw [q]; decide))
                exact vp_in_nI hl (by omega)
              · have k1 : ¬ k = -1 := fun q => z (by rw [q]; decide)
                rw [rowM_s] at x
                unfold kst9 at ih2
                rw [if_neg k1, if_pos x] at ih2
                rw [nI_1]; exact ih2
              · obtain ⟨l, hl, rfl⟩ := kk.resolve_left (fun q => z (by rw [q]; decide))
                exact vp_in_nI hl (by omega)
              · obtain ⟨l, hl, rfl⟩ := kk.resolve_left (fun q => z (by rw [q]; decide))
                exact vp_in_nI hl (by omega)
              · have k1 : ¬ k = -1 := fun q => z (by rw [q]; decide)
                rw [rowM_s] at x
                unfold kst9 at ih2
                rw [if_neg k1, if_neg x] at ih2
                rw [rowM_s, rowM_w] at e3
                rw [nI_1, e3]; exact ih2
        exact lq 0 (by omega)
  have := lp 0 (by omega)
  rw [sst9, rowM_id] at this
  exact this
end
