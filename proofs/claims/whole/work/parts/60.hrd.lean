/-! what is heard and said, in the model's terms -/
section
variable {d : Nat} {M N : ev_Mem} {W T : Nat} {lo : Int32}
def lnN (N : ev_Mem) (s : Nat) : Nat := (N.1 1 (351 + 6 * s)).toNatClampNeg
def wN (N : ev_Mem) : Nat := (N.1 1 0).toNatClampNeg
def cN (N : ev_Mem) (s : Nat) : Nat → Nat → Nat := cpN N (snN N) (wN N) s (lnN N s)
def bN (N : ev_Mem) (s : Nat) : Option Nat := bst (cN N s (lnN N s - 1)) (wN N)
def hN (N : ev_Mem) (s f : Nat) : Nat → Nat := chs (cN N s) (fun w => aw N w 0) (wN N) (lnN N s) f
def senR (M N : ev_Mem) (S : Nat) : Prop := S ≤ 8 ∧ M.1 3 8 = nI S ∧ N.1 1 1 = nI S ∧ ∀ s, s < S → sRel M (N.1 1) s
theorem btw_cong {kd kd2 : Nat → Int32} {w v : Nat} (hw : kd w = kd2 w) (hv : kd v = kd2 v) : btw kd w v = btw kd2 w v := by unfold btw; rw [hw, hv]
theorem bsv_cong {f g : Nat → Nat} {n : Nat} (h : ∀ i, i < n → f i = g i) : bsv f n = bsv g n := by
  unfold bsv
  rw [bst_cong h]
  cases e : bst g n with
  | none => rfl
  | some m => exact h m (bst_lt e).1
theorem cpk_cong {kd kd2 se se2 : Nat → Int32} {sn : Nat → Nat} {W : Nat} {row row2 : Nat → Int32} {n : Nat} (hn : 1 ≤ n) (hk : ∀ w, w < W → kd w = kd2 w) (hs : ∀ w, w < W → se w = se2 w) (hr : ∀ q, q < n → row q = row2 q) : ∀ k, ∀ w, w < W → cpk kd se sn W row n k w = cpk kd2 se2 sn W row2 n k w
  | 0, w, hw => by rw [cpk, cpk, hs w hw, hr (n - 1) (by omega)]
  | k + 1, w, hw => by
    have ih := cpk_cong (sn := sn) hn hk hs hr k
    have e : bsv (fun v => cpk kd se sn W row n k v + btw kd w v) W = bsv (fun v => cpk kd2 se2 sn W row2 n k v + btw kd2 w v) W := bsv_cong fun v hv => by rw [ih v hv, btw_cong (hk w hw) (hk v hv)]
    rw [cpk, cpk, hs w hw, hr _ (by omega), e]
theorem chs_cong {C C2 : Nat → Nat → Nat} {kd kd2 : Nat → Int32} {W n f : Nat} (hC : ∀ k w, w < W → C k w = C2 k w) (hk : ∀ w, w < W → kd w = kd2 w) : ∀ p, (∀ q, q < p → chs C kd W n f q < W) → chs C kd W n f p = chs C2 kd2 W n f p
  | 0, _ => rfl
  | p + 1, h => by
    have e1 := chs_cong hC hk p (fun q hq => h q (by omega))
    have e2 := h p (by omega)
    rw [chs, chs, ← e1]
    exact congrArg (fun o => Option.getD o 0) (bst_cong fun v hv => by rw [hC _ v hv, btw_cong (hk _ e2) (hk v hv)])
theorem senR_cg {M2 : ev_Mem} {S : Nat} (hM : ∀ k, k < 43 → M2.1 k = M.1 k) (h : senR M N S) : senR M2 N S := by
  obtain ⟨h1, h2, h3, h4⟩ := h
  exact ⟨h1, by rw [hM 3 (by omega)]; exact h2, h3, fun s hs => sRel_cg (by omega) (fun k _ _ => (hM k (by omega)).symm) (fun _ _ _ => rfl) (h4 s hs)⟩
/-- a sentence that was spoken, in the class's cells -/
def spN (N M2 : ev_Mem) (s f : Nat) : Prop := M2.1 86 14 = nI (cN N s (lnN N s - 1) f) ∧ M2.1 86 13 = nI (lnN N s) ∧ (∀ p, p < lnN N s → M2.1 99 p = nI (hN N s f p)) ∧ M2.1 86 15 = smI (fun p => mS N (nI (hN N s f p))) (lnN N s) ∧ M2.1 86 16 = smI (fun p => aw N (hN N s f p) 3) (lnN N s) ∧ M2.1 86 17 = smI (fun p => if aw N (hN N s f p) 0 = 2 then 3 else 2) (lnN N s)
theorem sen_n {S s : Nat} (h : senR M N S) (hs : s < S) : 1 ≤ lnN N s ∧ lnN N s ≤ 5 ∧ N.1 1 (351 + 6 * s) = nI (lnN N s) ∧ M.1 42 s = nI (lnN N s) ∧ ∀ i, i < lnN N s → M.1 (34 + s) i = N.1 1 (351 + 6 * s + 1 + i) := by
  obtain ⟨h1, n, h2, h3, h4, h5⟩ := h.2.2.2 s hs
  unfold lnN
  rw [h4, nI_clamp (by omega)]
  exact ⟨h2, h3, rfl, by rw [h1, h4], fun i hi => (h5 i hi).1⟩
theorem sd_wN (h : sdR M N W T lo) : wN N = W := by
  have := h.w24
  unfold wN
  rw [h.nw, nI_clamp (by omega)]
theorem hN_lt {s f : Nat} (hb : bN N s = some f) : ∀ p, p < lnN N s → hN N s f p < wN N := by
  obtain ⟨h1, h2⟩ := bst_lt hb
  exact fun p hp => (chs_ok (kd := fun w => aw N w 0) (se := fun w => aw N w 1) (sn := snN N) (row := fun q => N.1 1 (351 + 6 * s + 1 + q)) (n := lnN N s) h1 h2 p hp).1
theorem speakN {Mi : ev_Mem} {S s : Nat} (h : sdR M N W T lo) (hS : senR M N S) (hs : s < S) (hM : ∀ k, k < 82 → Mi.1 k = M.1 k) (h3 : Mi.1 86 3 = lo) (hsu : supO Mi N W) :
    Cl LX (d + 4) mX6_speak [.ref 86, .int (nI s)] Mi (fun z M2 => ofx Mi M2 ∧ ((bN N s = none ∧ z = some (.int 0)) ∨ ∃ f, bN N s = some f ∧ z = some (.int 1) ∧ spN N M2 s f)) := by
  have hi := sdR_cg hM h
  have hSi := senR_cg (fun k hk => hM k (by omega)) hS
  obtain ⟨n1, n5, nn, n42, nr⟩ := sen_n hSi hs
  have eW := sd_wN h
  have kd : ∀ w, w < W → Mi.1 30 w = aw N w 0 := fun w hw => (hi.wr w hw).1.2.1
  have se : ∀ w, w < W → Mi.1 31 w = aw N w 1 := fun w hw => (hi.wr w hw).1.2.2.1
  have len : ∀ w, w < W → Mi.1 29 w = aw N w 3 := fun w hw => (hi.wr w hw).1.1
  have eC : ∀ k w, w < W → cpX Mi (snN N) W s (lnN N s) k w = cN N s k w := fun k w hw => by
    unfold cN cpX cpN
    rw [eW]
    exact cpk_cong n1 kd se nr k w hw
  have eB : bst (cpX Mi (snN N) W s (lnN N s) (lnN N s - 1)) W = bN N s := by
    unfold bN
    rw [eW]
    exact bst_cong fun w hw => eC _ w hw
  have := hS.1
  refine Cl.mono (kX6_speak (d := d) (by omega) n1 n5 n42 hi.mw hi.w24 (supO_sn hsu) (fun w hw => sd_wd hi hw)) (fun z M2 q => ⟨q.1, ?_⟩)
  rcases q.2 with ⟨q1, q2⟩ | ⟨f, q1, q2, q3⟩
  · exact Or.inl ⟨by rw [← eB]; exact q1, q2⟩
  · refine Or.inr ⟨f, by rw [← eB]; exact q1, q2, ?_⟩
    obtain ⟨hfW, hfF⟩ := bst_lt q1
    have hok := chs_ok (kd := Mi.1 30) (se := Mi.1 31) (sn := snN N) (row := Mi.1 (34 + s)) (n := lnN N s) hfW hfF
    have eH : ∀ p, p < lnN N s → chX Mi (snN N) W s (lnN N s) f p = hN N s f p := fun p hp => by
      unfold chX hN
      rw [eW]
      exact chs_cong eC kd p (fun q hq => (hok q (by omega)).1)
    have hW : ∀ p, p < lnN N s → hN N s f p < W := fun p hp => by rw [← eH p hp]; exact (hok p hp).1
    obtain ⟨r1, r2, r3, r4, r5, r6⟩ := q3
    refine ⟨by rw [r1, eC _ f hfW], r2, fun p hp => by rw [r3 p hp, eH p hp], ?_, ?_, ?_⟩
    · rw [r4, h3]
      exact smI_cg fun p hp => by rw [eH p hp, sd_xS hi (hW p hp)]
    · rw [r5]
      exact smI_cg fun p hp => by rw [eH p hp, len _ (hW p hp)]
    · rw [r6]
      exact smI_cg fun p hp => by rw [eH p hp, kd _ (hW p hp)]
theorem costN {Mi : ev_Mem} {S s : Nat} (h : sdR M N W T lo) (hS : senR M N S) (hs : s < S) (hM : ∀ k, k < 82 → Mi.1 k = M.1 k) (hsu : supO Mi N W) :
    Cl LX (d + 3) mX6_costOf [.ref 86, .int (nI s)] Mi (fun z M2 => pfr Mi M2 ∧ z = some (.int (nI (bsv (cN N s (lnN N s - 1)) (wN N))))) := by
  have hi := sdR_cg hM h
  have hSi := senR_cg (fun k hk => hM k (by omega)) hS
  obtain ⟨n1, n5, nn, n42, nr⟩ := sen_n hSi hs
  have eW := sd_wN h
  have := hS.1
  have eB : bsv (cpX Mi (snN N) W s (lnN N s) (lnN N s - 1)) W = bsv (cN N s (lnN N s - 1)) (wN N) := by
    rw [eW]
    refine bsv_cong fun w hw => ?_
    unfold cN cpX cpN
    rw [eW]
    exact cpk_cong n1 (fun w hw => (hi.wr w hw).1.2.1) (fun w hw => (hi.wr w hw).1.2.2.1) nr _ w hw
  exact Cl.mono (kX6_costOf (d := d) (by omega) n1 n5 n42 hi.mw hi.w24 (supO_sn hsu)) (fun z M2 q => ⟨q.2.1, by rw [q.1, eB]⟩)
theorem cN_1 {N2 : ev_Mem} {s : Nat} (h1 : N2.1 1 = N.1 1) (h4 : N2.1 4 = N.1 4) : cN N2 s = cN N s := by
  have e : snN N2 = snN N := funext fun w => by unfold snN; rw [sfw_1 h1 h4]
  unfold cN cpN wN lnN
  rw [aw_1 h1, h1, e]
/-- the model's least of a sentence, its words laid down, where it is laid down how all sound -/
theorem leastN {Ni : ev_Mem} {S s : Nat} (h : sdR M N W T lo) (hS : senR M N S) (hs : s < S) (h1 : Ni.1 1 = N.1 1) (h11 : ∀ w, w < W → Ni.1 11 w = sfw N w) :
    Cl LM (d + 4) mX11_leastOf [.ref 0, .int (nI s)] Ni (fun r N2 => ofr Ni N2 ∧ ((bN N s = none ∧ r = some (.int (-1))) ∨ ∃ f, bN N s = some f ∧ r = some (.int (nI (cN N s (lnN N s - 1) f))) ∧ ∀ p, p < lnN N s → N2.1 13 p = nI (hN N s f p))) := by
  obtain ⟨n1, n5, nn, n42, nr⟩ := sen_n hS hs
  have eW := sd_wN h
  have := hS.1
  have e : cpN Ni (snN N) W s (lnN N s) = cN N s := by unfold cN cpN; rw [eW, aw_1 h1, h1]
  refine Cl.mono (kX11_leastOf (d := d) (N := Ni) (sn := snN N) (by omega) n1 n5 (by rw [h1]; exact nn) (by rw [h1]; exact h.nw) h.w24 (fun w hw => by rw [h11 w hw]; exact sfw_sn)) (fun r N2 q => ⟨q.1, ?_⟩)
  unfold bN hN
  rw [← e, eW, ← aw_1 h1]
  exact q.2
end
