/-! THE LAW: the judgement of its body -/
def R_law : String := "WithoutELaw"
def lw_P (b : Addr) (xs : List Int32) (args : Array Value) (s : State) : Prop := args = #[.ref b] ∧ s.IntsAt b xs ∧ xs.length ≤ 3584 ∧ (Jvm.Cond.and given_1 narrow_1).before args s = true
def lw_Q (_ : Array Value) (s : State) (o : Outcome) (t : State) : Prop := o = .returned (some (.int 1)) ∧ Framed s o t [] 600000 7302249
def lw_Z (below : List Frame) (a : Array Value) (s : State) : State → Prop := fun t => ∃ o, t.status = .running ∧ Ended t below o ∧ lw_Q a s o t
/-- the law's own end, with 1 on the stack, nothing written that was there before, its room as the claim has it -/
theorem lw_ret {p : Program} {l : Launch} {e : Env} {s : State} {m : MethodId} {below : List Frame} {meth : Method} {c : Code} {b : Nat} (hx : p.tables.exec = Jvm.exec) (hb : c.code = code) (hr : meth.sig.returnType = ret) (hlocks : meth.locks = false) {pc : Nat} {H : Heap} {ls : Array Slot} (hdg : decode code pc = .ok (.ireturn, 1)) : W p l e room_1 s m #[Value.ref b] below meth c H [] 600000 7302249 (lw_Z below #[Value.ref b] s) (F0 m pc ls [.int 1]) := by
  intro T hT X
  obtain ⟨fs, hret, hrun, hended, hW, hframe⟩ := X.leave (v := some (.int 1)) (hlocks := hlocks) (fun h => by rw [hr] at h; cases h)
  have hmeth' : T.vm.method? m = some meth := X.method'
  refine ⟨T.setFrames fs, ?_, .returned (some (.int 1)), hrun, hended, rfl, ⟨_, rfl⟩, hW, hframe⟩
  jvm_step X.here [X.here.top, hx, hb, hdg, hmeth', hr, ret, narrow_b1]
  (try refine ⟨rfl, ?_⟩); (try refine ⟨rfl, ?_⟩)
  first | (intro acts; rw [hret _ acts rfl rfl rfl]) | rw [hret _ _ rfl rfl rfl]
  exact Steps.refl _
/-- what holds at the law's entry: the machine, the code, the tables' words (any of lw_tbl by 'hts w (by decide +kernel)'), the script of L ints xs at the cell b, what the Statement gives of the start (any of its parts by flat_of_before) -/
def lw_At (p : Program) (s : State) (m : MethodId) (meth : Method) (c : Code) (b L : Nat) (xs : Nat → Int32) : Prop :=
  p.tables.exec = Jvm.exec ∧ c.code = code ∧ meth.sig.returnType = ret ∧ c.maxLocals = 4 ∧ s.vm.findClass R_law = some m.cls ∧ (∀ w ∈ lw_tbl, w.before #[Value.ref b] s = true) ∧ va_X b L xs s s.heap ∧ b < s.heap.size ∧ meth.locks = false ∧ (Jvm.Cond.and given_1 narrow_1).before #[Value.ref b] s = true
theorem vOK.i {y : ev_Y} {v : Option Value} (h : vOK y v) (hy : y.2.2.2 ≠ some .long) : ∃ w, v = some (.int w) := h.elim (fun q => q.2) (fun q => absurd q.1 hy)
theorem vOK.j {y : ev_Y} {v : Option Value} (h : vOK y v) (hy : y.2.2.2 = some .long) : ∃ w, v = some (.long w) := h.elim (fun q => absurd hy q.1) (fun q => q.2)
/-- the law's own references: 0 the class's, 1 the model's, 2 the script -/
def lw_ad (b : Nat) (ax am : Nat → Nat) : Nat → Nat
  | 0 => ax 0
  | 1 => am 0
  | _ => b
/-- what stays as it is -/
def lw_X (p : Program) (s : State) (m : MethodId) (meth : Method) (c : Code) (b L : Nat) (xs : Nat → Int32) (D : va_G) (ax am : Nat → Nat) (ids : Nat → ClassId) : Prop :=
  lw_At p s m meth c b L xs ∧ va_K D ev_cl (ev_tys ids) s ∧ ev_J LX ax ∧ ev_J LM am ∧ (∀ k, k < LX.length → s.heap.size ≤ ax k) ∧ (∀ k, k < LM.length → s.heap.size ≤ am k) ∧ (∀ i j, i < LX.length → j < LM.length → ax i ≠ am j) ∧ ev_S ax (ek_A s.heap.size) s ∧ ev_S am (ek_A s.heap.size) s
def Lw (L : Nat) (xs : Nat → Int32) (pc : Nat) (i : Int32) (st : List Value) (M N : ev_Mem) : Prop :=
  ∀ (p : Program) (l : Launch) (e : Env) (s : State) (m : MethodId) (below : List Frame) (meth : Method) (c : Code) (b : Nat) (D : va_G) (ax am : Nat → Nat) (ids : Nat → ClassId) (H : Heap) (locs : List Loc) (ls : Array Slot), lw_X p s m meth c b L xs D ax am ids → va_P D ev_cl (ev_ws LX ax ids M) H → va_P D ev_cl (ev_ws LM am ids N) H → va_S (ek_A s.heap.size) s.heap H locs → lv_has ls 4 [(0, .ref b), (1, .ref (ax 0)), (2, .ref (am 0)), (3, .int i)] →
    W p l e room_1 s m #[Value.ref b] below meth c H locs 142 17751 (lw_Z below #[Value.ref b] s) (F0 m pc ls (st.map (ev_cv (lw_ad b ax am))))
section
variable {L pc : Nat} {xs : Nat → Int32} {i : Int32} {st : List Value} {M N : ev_Mem}
theorem Lw.sk {st2 : List Value} (h : st = st2) (k : Lw L xs pc i st2 M N) : Lw L xs pc i st M N := by subst h; exact k
theorem lw_aload_0 (hd : decode code pc = .ok (.aload_n 0, 1)) (k : Lw L xs (pc + 1) i (.ref 2 :: st) M N) : Lw L xs pc i st M N := fun p l e s m below meth c b D ax am ids H locs ls X hP hN hS hl => lv_aload_n X.1.1 X.1.2.1 hd rfl (lv_at hl 0 rfl) (k p l e s m below meth c b D ax am ids H locs ls X hP hN hS hl)
theorem lw_aload_1 (hd : decode code pc = .ok (.aload_n 1, 1)) (k : Lw L xs (pc + 1) i (.ref 0 :: st) M N) : Lw L xs pc i st M N := fun p l e s m below meth c b D ax am ids H locs ls X hP hN hS hl => lv_aload_n X.1.1 X.1.2.1 hd rfl (lv_at hl 1 rfl) (k p l e s m below meth c b D ax am ids H locs ls X hP hN hS hl)
theorem lw_aload_2 (hd : decode code pc = .ok (.aload_n 2, 1)) (k : Lw L xs (pc + 1) i (.ref 1 :: st) M N) : Lw L xs pc i st M N := fun p l e s m below meth c b D ax am ids H locs ls X hP hN hS hl => lv_aload_n X.1.1 X.1.2.1 hd rfl (lv_at hl 2 rfl) (k p l e s m below meth c b D ax am ids H locs ls X hP hN hS hl)
theorem lw_iload (hd : decode code pc = .ok (.iload_n 3, 1)) (k : Lw L xs (pc + 1) i (.int i :: st) M N) : Lw L xs pc i st M N := fun p l e s m below meth c b D ax am ids H locs ls X hP hN hS hl => lv_iload_n X.1.1 X.1.2.1 hd rfl (lv_at hl 3 rfl) (k p l e s m below meth c b D ax am ids H locs ls X hP hN hS hl)
theorem lw_iconst {n : Int} {v : Int32} (hd : decode code pc = .ok (.iconst n, 1)) (hv : Int32.ofInt n = v) (k : Lw L xs (pc + 1) i (.int v :: st) M N) : Lw L xs pc i st M N := fun p l e s m below meth c b D ax am ids H locs ls X hP hN hS hl => lv_iconst X.1.1 X.1.2.1 hd hv (k p l e s m below meth c b D ax am ids H locs ls X hP hN hS hl)
theorem lw_bipush {n : Int} {v : Int32} (hd : decode code pc = .ok (.bipush n, 2)) (hv : (Int8.ofInt n).toInt32 = v) (k : Lw L xs (pc + 2) i (.int v :: st) M N) : Lw L xs pc i st M N := fun p l e s m below meth c b D ax am ids H locs ls X hP hN hS hl => lv_bipush X.1.1 X.1.2.1 hd hv (k p l e s m below meth c b D ax am ids H locs ls X hP hN hS hl)
theorem lw_iadd {x z : Int32} (hd : decode code pc = .ok (.iadd, 1)) (k : Lw L xs (pc + 1) i (.int (x + z) :: st) M N) : Lw L xs pc i (.int z :: .int x :: st) M N := fun p l e s m below meth c b D ax am ids H locs ls X hP hN hS hl => lv_iadd X.1.1 X.1.2.1 hd (k p l e s m below meth c b D ax am ids H locs ls X hP hN hS hl)
theorem lw_isub {x z : Int32} (hd : decode code pc = .ok (.isub, 1)) (k : Lw L xs (pc + 1) i (.int (x - z) :: st) M N) : Lw L xs pc i (.int z :: .int x :: st) M N := fun p l e s m below meth c b D ax am ids H locs ls X hP hN hS hl => lv_isub X.1.1 X.1.2.1 hd (k p l e s m below meth c b D ax am ids H locs ls X hP hN hS hl)
theorem lw_iand {x z : Int32} (hd : decode code pc = .ok (.iand, 1)) (k : Lw L xs (pc + 1) i (.int (x &&& z) :: st) M N) : Lw L xs pc i (.int z :: .int x :: st) M N := fun p l e s m below meth c b D ax am ids H locs ls X hP hN hS hl => lv_iand X.1.1 X.1.2.1 hd (k p l e s m below meth c b D ax am ids H locs ls X hP hN hS hl)
theorem lw_lcmp {x z : Int64} (hd : decode code pc = .ok (.lcmp, 1)) (k : Lw L xs (pc + 1) i (.int (lg_cmp x z) :: st) M N) : Lw L xs pc i (.long z :: .long x :: st) M N := fun p l e s m below meth c b D ax am ids H locs ls X hP hN hS hl => W.lcmp X.1.1 X.1.2.1 hd (k p l e s m below meth c b D ax am ids H locs ls X hP hN hS hl)
theorem lw_goto {off : Int} {tgt : Nat} (hd : decode code pc = .ok (.goto off, 3)) (ht : (pc : Int) + off = (tgt : Int)) (k : Lw L xs tgt i st M N) : Lw L xs pc i st M N := fun p l e s m below meth c b D ax am ids H locs ls X hP hN hS hl => lv_goto X.1.1 X.1.2.1 hd ht (k p l e s m below meth c b D ax am ids H locs ls X hP hN hS hl)
theorem lw_if_eq {off : Int} {tgt : Nat} {x : Int32} (hd : decode code pc = .ok (.ifCond .eq off, 3)) (ht : (pc : Int) + off = (tgt : Int)) (kt : x = 0 → Lw L xs tgt i st M N) (kf : ¬ x = 0 → Lw L xs (pc + 3) i st M N) : Lw L xs pc i (.int x :: st) M N := fun p l e s m below meth c b D ax am ids H locs ls X hP hN hS hl => lv_if_eq X.1.1 X.1.2.1 hd ht (fun h => kt h p l e s m below meth c b D ax am ids H locs ls X hP hN hS hl) (fun h => kf h p l e s m below meth c b D ax am ids H locs ls X hP hN hS hl)
theorem lw_icmp_eq {off : Int} {tgt : Nat} {x z : Int32} (hd : decode code pc = .ok (.if_icmp .eq off, 3)) (ht : (pc : Int) + off = (tgt : Int)) (kt : x = z → Lw L xs tgt i st M N) (kf : ¬ x = z → Lw L xs (pc + 3) i st M N) : Lw L xs pc i (.int z :: .int x :: st) M N := fun p l e s m below meth c b D ax am ids H locs ls X hP hN hS hl => lv_icmp_eq X.1.1 X.1.2.1 hd ht (fun h => kt h p l e s m below meth c b D ax am ids H locs ls X hP hN hS hl) (fun h => kf h p l e s m below meth c b D ax am ids H locs ls X hP hN hS hl)
theorem lw_icmp_gt {off : Int} {tgt : Nat} {x z : Int32} (hd : decode code pc = .ok (.if_icmp .gt off, 3)) (ht : (pc : Int) + off = (tgt : Int)) (kt : z < x → Lw L xs tgt i st M N) (kf : ¬ z < x → Lw L xs (pc + 3) i st M N) : Lw L xs pc i (.int z :: .int x :: st) M N := fun p l e s m below meth c b D ax am ids H locs ls X hP hN hS hl => lv_icmp_gt X.1.1 X.1.2.1 hd ht (fun h => kt h p l e s m below meth c b D ax am ids H locs ls X hP hN hS hl) (fun h => kf h p l e s m below meth c b D ax am ids H locs ls X hP hN hS hl)
theorem lw_bA {b sz : Nat} (h : b < sz) : ¬ ek_A sz b := Nat.not_le.mpr h
theorem lw_iaload {I : Nat} (hd : decode code pc = .ok (.iaload, 1)) (hI : I < L) (hL : L ≤ 3584) (k : Lw L xs (pc + 1) i (.int (xs I) :: st) M N) : Lw L xs pc i (.int (nI I) :: .ref 2 :: st) M N := fun p l e s m below meth c b D ax am ids H locs ls X hP hN hS hl => va_sld X.1.1 X.1.2.1 X.1.2.2.2.2.2.2.1 X.1.2.2.2.2.2.2.2.1 (lw_bA X.1.2.2.2.2.2.2.2.1) hS (vp_in_nI hI (by omega)) hd (by rw [nI_clamp (show I < 2 ^ 31 by omega)]; exact k p l e s m below meth c b D ax am ids H locs ls X hP hN hS hl)
theorem lw_alen (hd : decode code pc = .ok (.arraylength, 1)) (k : Lw L xs (pc + 1) i (.int (nI L) :: st) M N) : Lw L xs pc i (.ref 2 :: st) M N := fun p l e s m below meth c b D ax am ids H locs ls X hP hN hS hl => va_slen X.1.1 X.1.2.1 X.1.2.2.2.2.2.2.1 X.1.2.2.2.2.2.2.2.1 (lw_bA X.1.2.2.2.2.2.2.2.1) hS hd (k p l e s m below meth c b D ax am ids H locs ls X hP hN hS hl)
/-- an argument out of the script -/
theorem lw_arg {I k : Nat} {n : Int} (h0 : decode code pc = .ok (.aload_n 0, 1)) (h1 : decode code (pc + 1) = .ok (.iload_n 3, 1)) (h2 : decode code (pc + 1 + 1) = .ok (.iconst n, 1)) (h3 : decode code (pc + 1 + 1 + 1) = .ok (.iadd, 1)) (h4 : decode code (pc + 1 + 1 + 1 + 1) = .ok (.iaload, 1)) (hv : Int32.ofInt n = nI k) (hI : I + 7 ≤ L) (hL : L ≤ 3584) (hk : k < 7) (kk : Lw L xs (pc + 5) (nI I) (.int (xs (I + k)) :: st) M N) : Lw L xs pc (nI I) st M N := by
  refine lw_aload_0 h0 (lw_iload h1 (lw_iconst h2 hv (lw_iadd h3 ?_)))
  rw [nI_add]
  exact lw_iaload h4 (by omega) hL kk
theorem lw_argb {I k : Nat} {n : Int} (h0 : decode code pc = .ok (.aload_n 0, 1)) (h1 : decode code (pc + 1) = .ok (.iload_n 3, 1)) (h2 : decode code (pc + 1 + 1) = .ok (.bipush n, 2)) (h3 : decode code (pc + 1 + 1 + 2) = .ok (.iadd, 1)) (h4 : decode code (pc + 1 + 1 + 2 + 1) = .ok (.iaload, 1)) (hv : (Int8.ofInt n).toInt32 = nI k) (hI : I + 7 ≤ L) (hL : L ≤ 3584) (hk : k < 7) (kk : Lw L xs (pc + 6) (nI I) (.int (xs (I + k)) :: st) M N) : Lw L xs pc (nI I) st M N := by
  refine lw_aload_0 h0 (lw_iload h1 (lw_bipush h2 hv (lw_iadd h3 ?_)))
  rw [nI_add]
  exact lw_iaload h4 (by omega) hL kk
theorem lw_bool {x : Int32} {o1 o2 : Int} (h0 : decode code pc = .ok (.ifCond .eq o1, 3)) (h1 : decode code (pc + 3) = .ok (.iconst 1, 1)) (h2 : decode code (pc + 3 + 1) = .ok (.goto o2, 3)) (h3 : decode code (pc + 7) = .ok (.iconst 0, 1)) (e1 : (pc : Int) + o1 = ((pc + 7 : Nat) : Int)) (e2 : ((pc + 3 + 1 : Nat) : Int) + o2 = ((pc + 8 : Nat) : Int)) (kk : Lw L xs (pc + 8) i (.int (if x = 0 then 0 else 1) :: st) M N) : Lw L xs pc i (.int x :: st) M N := by
  refine lw_if_eq h0 e1 (fun z => lw_iconst h3 rfl ?_) (fun z => lw_iconst h1 rfl (lw_goto h2 e2 ?_))
  · rw [if_pos z] at kk; exact kk
  · rw [if_neg z] at kk; exact kk
theorem lw_eqi {x : Int32} {off : Int} {tgt : Nat} (hd : decode code pc = .ok (.if_icmp .eq off, 3)) (ht : (pc : Int) + off = (tgt : Int)) (k : Lw L xs tgt i st M N) : Lw L xs pc i (.int x :: .int x :: st) M N := lw_icmp_eq hd ht (fun _ => k) (fun z => absurd rfl z)
theorem lg_cmp_rfl (x : Int64) : lg_cmp x x = 0 := by
  unfold lg_cmp
  rw [if_neg (fun h => absurd h (Int64.lt_irrefl)), if_pos rfl]
theorem lw_eql {x : Int64} {off : Int} {tgt : Nat} (h0 : decode code pc = .ok (.lcmp, 1)) (hd : decode code (pc + 1) = .ok (.ifCond .eq off, 3)) (ht : ((pc + 1 : Nat) : Int) + off = (tgt : Int)) (k : Lw L xs tgt i st M N) : Lw L xs pc i (.long x :: .long x :: st) M N := by
  refine lw_lcmp h0 ?_
  rw [lg_cmp_rfl]
  exact lw_if_eq hd ht (fun _ => k) (fun z => absurd rfl z)
/-- the next seven numbers -/
theorem lw_next {I : Nat} {off : Int} {tgt : Nat} (h0 : decode code pc = .ok (.iinc 3 7, 3)) (h1 : decode code (pc + 3) = .ok (.goto off, 3)) (ht : ((pc + 3 : Nat) : Int) + off = (tgt : Int)) (k : Lw L xs tgt (nI (I + 7)) st M N) : Lw L xs pc (nI I) st M N := fun p l e s m below meth c b D ax am ids H locs ls X hP hN hS hl =>
  lv_iinc (v := nI (I + 7)) (lv' := [(3, .int (nI (I + 7))), (0, .ref b), (1, .ref (ax 0)), (2, .ref (am 0))]) X.1.1 X.1.2.1 h0 hl (k := 3) rfl (nI_add I 7) (by decide) rfl (fun ls hl => lv_goto X.1.1 X.1.2.1 h1 ht (k p l e s m below meth c b D ax am ids H locs ls X hP hN hS (lv_sub hl [1, 2, 3, 0] rfl)))
theorem lw_sub7 {I : Nat} (hL : L ≤ 3584) (hI : I ≤ 4000) : (nI L - 7 < nI I) ↔ ¬ I + 7 ≤ L := by
  by_cases h : 7 ≤ L
  · obtain ⟨K, rfl⟩ : ∃ K, L = K + 7 := ⟨L - 7, by omega⟩
    have e : nI (K + 7) - 7 = nI K := by
      rw [← nI_add, Int32.sub_eq_add_neg, Int32.add_assoc, show nI 7 + -7 = (0 : Int32) by decide, Int32.add_zero]
    rw [e, nI_ltI (by omega) (by omega)]
    omega
  · have e : nI L - 7 < 0 := by
      have : L = 0 ∨ L = 1 ∨ L = 2 ∨ L = 3 ∨ L = 4 ∨ L = 5 ∨ L = 6 := by omega
      rcases this with rfl | rfl | rfl | rfl | rfl | rfl | rfl <;> decide
    exact ⟨fun _ => by omega, fun _ => Int32.lt_of_lt_of_le e (nI_pos' (by omega))⟩
/-- the loop's head -/
theorem lw_head {I : Nat} {n off : Int} {tgt : Nat} (h0 : decode code pc = .ok (.iload_n 3, 1)) (h1 : decode code (pc + 1) = .ok (.aload_n 0, 1)) (h2 : decode code (pc + 1 + 1) = .ok (.arraylength, 1)) (h3 : decode code (pc + 1 + 1 + 1) = .ok (.bipush 7, 2)) (h4 : decode code (pc + 1 + 1 + 1 + 2) = .ok (.isub, 1)) (h5 : decode code (pc + 1 + 1 + 1 + 2 + 1) = .ok (.if_icmp .gt off, 3)) (ht : ((pc + 1 + 1 + 1 + 2 + 1 : Nat) : Int) + off = (tgt : Int)) (hL : L ≤ 3584) (hI : I ≤ 4000) (kt : ¬ I + 7 ≤ L → Lw L xs tgt (nI I) st M N) (kf : I + 7 ≤ L → Lw L xs (pc + 9) (nI I) st M N) : Lw L xs pc (nI I) st M N := by
  refine lw_iload h0 (lw_aload_0 h1 (lw_alen h2 (lw_bipush (v := 7) h3 (by decide) (lw_isub h4 (lw_icmp_gt h5 ht (fun z => kt ((lw_sub7 hL hI).mp z)) (fun z => kf (Decidable.not_not.mp (fun y => z ((lw_sub7 hL hI).mpr y)))))))))
theorem lw_and (x : Int32) : ∃ q, q < 64 ∧ x &&& 63 = nI q := by
  have e : (x &&& 63).toBitVec.toNat = x.toBitVec.toNat % 64 := by
    rw [Int32.toBitVec_and, BitVec.toNat_and, show (63 : Int32).toBitVec.toNat = 2 ^ 6 - 1 from by decide, Nat.and_two_pow_sub_one_eq_mod]
  refine ⟨x.toBitVec.toNat % 64, Nat.mod_lt _ (by decide), ?_⟩
  apply Int32.toBitVec_inj.mp
  apply BitVec.eq_of_toNat_eq
  rw [e]
  show _ = (BitVec.ofNat 32 _).toNat
  rw [BitVec.toNat_ofNat]
  omega
/-- the choice of the call -/
theorem lw_pick {I : Nat} (h0 : decode code pc = .ok (.aload_n 0, 1)) (h1 : decode code (pc + 1) = .ok (.iload_n 3, 1)) (h2 : decode code (pc + 1 + 1) = .ok (.iaload, 1)) (h3 : decode code (pc + 1 + 1 + 1) = .ok (.bipush 63, 2)) (h4 : decode code (pc + 1 + 1 + 1 + 2) = .ok (.iand, 1)) (hI : I + 7 ≤ L) (hL : L ≤ 3584) (kk : ∀ q, q < 64 → Lw L xs (pc + 6) (nI I) (.int (nI q) :: st) M N) : Lw L xs pc (nI I) st M N := by
  refine lw_aload_0 h0 (lw_iload h1 (lw_iaload h2 (by omega) hL (lw_bipush (v := 63) h3 (by decide) (lw_iand h4 ?_))))
  obtain ⟨q, hq, e⟩ := lw_and (xs I)
  rw [e]
  exact kk q hq
theorem lw_tin {dflt lo hi : Int} {offs : Array Int} {len : Nat} {q : Nat} {off : Int} {tgt : Nat} (hd : decode code pc = .ok (.tableswitch dflt lo hi offs, len)) (h1 : ¬ (nI q).toInt < lo) (h2 : ¬ hi < (nI q).toInt) (ho : offs[((nI q).toInt - lo).toNat]? = some off) (ht : (pc : Int) + off = (tgt : Int)) (k : Lw L xs tgt i st M N) : Lw L xs pc i (.int (nI q) :: st) M N := fun p l e s m below meth c b D ax am ids H locs ls X hP hN hS hl => lv_tableIn X.1.1 X.1.2.1 hd h1 h2 ho ht (k p l e s m below meth c b D ax am ids H locs ls X hP hN hS hl)
theorem lw_tout {dflt lo hi : Int} {offs : Array Int} {len : Nat} {q : Nat} {tgt : Nat} (hd : decode code pc = .ok (.tableswitch dflt lo hi offs, len)) (h1 : hi < (q : Int)) (hq : q < 64) (ht : (pc : Int) + dflt = (tgt : Int)) (k : Lw L xs tgt i st M N) : Lw L xs pc i (.int (nI q) :: st) M N := fun p l e s m below meth c b D ax am ids H locs ls X hP hN hS hl => lv_tableOut X.1.1 X.1.2.1 hd (Or.inr (by rw [nI_toInt (by omega)]; exact h1)) ht (k p l e s m below meth c b D ax am ids H locs ls X hP hN hS hl)
/-- the end -/
theorem lw_fin (h0 : decode code pc = .ok (.iconst 1, 1)) (h1 : decode code (pc + 1) = .ok (.ireturn, 1)) : Lw L xs pc i [] M N := fun p l e s m below meth c b D ax am ids H locs ls X hP hN hS hl => by
  refine lv_iconst (v := 1) X.1.1 X.1.2.1 h0 (by decide) ?_
  refine va_forget (fun q hq => hS.2.2 q hq) ?_
  refine W.widen (k := 600000) (n := 7302249) (by decide) (by decide) ?_
  exact lw_ret X.1.1 X.1.2.1 X.1.2.2.1 X.1.2.2.2.2.2.2.2.2.1 h1
theorem lw_kept {Lc : List ev_C} {Ld : List ev_C} {D : va_G} {ac am : Nat → Nat} {ids : Nat → ClassId} {N : ev_Mem} {H H1 : Heap} (hne : ∀ i j, i < Lc.length → j < Ld.length → ac i ≠ am j) (hN : va_P D ev_cl (ev_ws Ld am ids N) H) (hJ : ev_J Ld am) (hk : ∀ q : Nat, q < H.size → ¬ ev_A Lc ac q → H1[q]? = H[q]?) : va_P D ev_cl (ev_ws Ld am ids N) H1 := by
  intro k q hq
  have h0 := hN k q hq
  obtain ⟨j, hj, ej⟩ := (ev_D (L := Ld) (ad := am) (ids := ids) (M := N) hJ).2 k q hq
  refine h0.kept (hk q.1 h0.lt ?_)
  rintro ⟨a, ha, ea⟩
  exact hne a j ha hj (ea.symm.trans ej)
/-- a call of the class's -/
theorem lw_callX {idx n : Nat} {z : ev_Y} {Q2 : Option Value → ev_Mem → Prop} (as : List Value) (hd : decode code pc = .ok (.invokevirtual idx, 3)) (hw : ev_LV "WithoutELaw" idx z n) (hC : ev_cl[10]? = some (z.1.cls, TX10, 18)) (hn : as.length = n) (hi : ∀ ad ad2 : Nat → Nat, as.map (ev_cv ad) = as.map (ev_cv ad2)) (hst : (st.map fun v => v.category).sum ≤ 8) (hc : Cl LX 200 z (.ref 0 :: as) M Q2) (kk : ∀ (r : Option Value) (M' : ev_Mem), Q2 r M' → (∀ ad ad2 : Nat → Nat, r.map (ev_cv ad) = r.map (ev_cv ad2)) ∧ Lw L xs (pc + 3) i (r.toList ++ st) M' N) : Lw L xs pc i (as.reverse ++ .ref 0 :: st) M N := by
  intro p l e s m below meth c b D ax am ids H locs ls X hP hN hS hl T hT X1
  have X0 := X
  obtain ⟨⟨hx, hb, hr, hml, hown, hts0, hX, hbl, hlk, hgv⟩, hK, hJ, hJ2, hax, ham, hne, hSx, hSm⟩ := X
  have hts : ∀ w ∈ ev_T, w.before #[Value.ref b] s = true := fun w hw => hts0 w (List.mem_filter.mp hw).1
  have hsub : ∀ q, ev_A LX ax q → ek_A s.heap.size q := fun q hq => by
    obtain ⟨k, hk, e⟩ := hq
    show s.heap.size ≤ q
    rw [e]
    exact hax k hk
  obtain ⟨⟨w1, w2, w3, w4⟩, w5, w6, w7⟩ := hw
  have cb := callB_of (R := room_1) (rm := ev_rm 200) (own := "WithoutELaw") (index := idx) (mc := 0) (ms := 0) n hts (ev_good z w2) rfl rfl rfl (hts _ w1) (hts _ w5) w3 ⟨by show 200 + 1 ≤ 2048; decide, by show _ + 64 * 200 ≤ 84000; omega⟩
  have hrun := va_runV (p := p) (l := l) (e := e) (R := room_1) (below := below) (meth := meth) (H := H) (locs := locs) (cells := 142) (slots := 17751) (g := F0 m pc ls ((as.reverse ++ .ref 0 :: st).map (ev_cv (lw_ad b ax am)))) (As := as.map (ev_cv ax)) (rest := st.map (ev_cv (lw_ad b ax am))) (b := ax 0) (C := z.1.cls) ⟨hx, hb, hml, hown, hts⟩ (hc l D ax ids) ⟨cb, hts _ w6, hts _ w7⟩ ⟨ev_blind, va_recv hK hP hC (ev_at (L := LX) (k := 0) rfl), fun U hU hW => ⟨rfl, by rw [hU]; exact hP, va_K.moved hW.alike hK, hJ, ev_Sn (ev_Sgo hW hU hS hSx) hsub (fun _ _ => rfl)⟩⟩ rfl (by rw [List.length_map]; exact hn) hl.1 (by show List.map _ _ = _; rw [List.map_append, List.map_reverse, hi _ ax]; rfl) (ev_room hst) hd ⟨by decide, by decide⟩
  obtain ⟨v, st₀, t, T', L1, h0, X', hL, e1, e2, ⟨⟨r, M', hv, hq, hP1⟩, hz, hk⟩, stp⟩ := hrun T hT X1
  cases hv
  rw [h0] at hz hk
  have hk' : ∀ q : Nat, q < H.size → ¬ ev_A LX ax q → T'.heap[q]? = H[q]? := fun q h1 h2 => by rw [e1]; exact hk q h1 h2
  have hS1 : va_S (ek_A s.heap.size) s.heap T'.heap (locs ++ L1) := ⟨Nat.le_trans hS.1 (by rw [e1]; exact hz), fun q h1 h2 => by rw [hk' q (Nat.lt_of_lt_of_le h1 hS.1) (fun y => h2 (hsub q y))]; exact hS.2.1 q h1 h2, fun q hq' => by
    rcases List.mem_append.mp hq' with h | h
    · exact hS.2.2 q h
    · exact hsub _ (hL q h)⟩
  obtain ⟨t2, a1, b1⟩ := (kk r M' hq).2 p l e s m below meth c b D ax am ids T'.heap (locs ++ L1) ls X0 (by rw [e1]; exact hP1) (lw_kept hne hN hJ2 hk') hS1 hl T' rfl X'
  refine ⟨t2, stp t2 ?_, b1⟩
  have e9 : (r.map (ev_cv ax)).toList ++ st.map (ev_cv (lw_ad b ax am)) = (r.toList ++ st).map (ev_cv (lw_ad b ax am)) := by rw [(kk r M' hq).1 ax (lw_ad b ax am)]; cases r <;> rfl
  rw [e9]
  exact a1
/-- a call of the model's -/
theorem lw_callM {idx n : Nat} {z : ev_Y} {Q2 : Option Value → ev_Mem → Prop} (as : List Value) (hd : decode code pc = .ok (.invokevirtual idx, 3)) (hw : ev_LV "WithoutELaw" idx z n) (hC : ev_cl[11]? = some (z.1.cls, TX11, 35)) (hn : as.length = n) (hi : ∀ ad ad2 : Nat → Nat, as.map (ev_cv ad) = as.map (ev_cv ad2)) (hst : (st.map fun v => v.category).sum ≤ 8) (hc : Cl LM 200 z (.ref 0 :: as) N Q2) (kk : ∀ (r : Option Value) (N' : ev_Mem), Q2 r N' → (∀ ad ad2 : Nat → Nat, r.map (ev_cv ad) = r.map (ev_cv ad2)) ∧ Lw L xs (pc + 3) i (r.toList ++ st) M N') : Lw L xs pc i (as.reverse ++ .ref 1 :: st) M N := by
  intro p l e s m below meth c b D ax am ids H locs ls X hP hN hS hl T hT X1
  have X0 := X
  obtain ⟨⟨hx, hb, hr, hml, hown, hts0, hX, hbl, hlk, hgv⟩, hK, hJ, hJ2, hax, ham, hne, hSx, hSm⟩ := X
  have hts : ∀ w ∈ ev_T, w.before #[Value.ref b] s = true := fun w hw => hts0 w (List.mem_filter.mp hw).1
  have hsub : ∀ q, ev_A LM am q → ek_A s.heap.size q := fun q hq => by
    obtain ⟨k, hk, e⟩ := hq
    show s.heap.size ≤ q
    rw [e]
    exact ham k hk
  obtain ⟨⟨w1, w2, w3, w4⟩, w5, w6, w7⟩ := hw
  have cb := callB_of (R := room_1) (rm := ev_rm 200) (own := "WithoutELaw") (index := idx) (mc := 0) (ms := 0) n hts (ev_good z w2) rfl rfl rfl (hts _ w1) (hts _ w5) w3 ⟨by show 200 + 1 ≤ 2048; decide, by show _ + 64 * 200 ≤ 84000; omega⟩
  have hrun := va_runV (p := p) (l := l) (e := e) (R := room_1) (below := below) (meth := meth) (H := H) (locs := locs) (cells := 142) (slots := 17751) (g := F0 m pc ls ((as.reverse ++ .ref 1 :: st).map (ev_cv (lw_ad b ax am)))) (As := as.map (ev_cv am)) (rest := st.map (ev_cv (lw_ad b ax am))) (b := am 0) (C := z.1.cls) ⟨hx, hb, hml, hown, hts⟩ (hc l D am ids) ⟨cb, hts _ w6, hts _ w7⟩ ⟨ev_blind, va_recv hK hN hC (ev_at (L := LM) (k := 0) rfl), fun U hU hW => ⟨rfl, by rw [hU]; exact hN, va_K.moved hW.alike hK, hJ2, ev_Sn (ev_Sgo hW hU hS hSm) hsub (fun _ _ => rfl)⟩⟩ rfl (by rw [List.length_map]; exact hn) hl.1 (by show List.map _ _ = _; rw [List.map_append, List.map_reverse, hi _ am]; rfl) (ev_room hst) hd ⟨by decide, by decide⟩
  obtain ⟨v, st₀, t, T', L1, h0, X', hL, e1, e2, ⟨⟨r, N', hv, hq, hP1⟩, hz, hk⟩, stp⟩ := hrun T hT X1
  cases hv
  rw [h0] at hz hk
  have hk' : ∀ q : Nat, q < H.size → ¬ ev_A LM am q → T'.heap[q]? = H[q]? := fun q h1 h2 => by rw [e1]; exact hk q h1 h2
  have hS1 : va_S (ek_A s.heap.size) s.heap T'.heap (locs ++ L1) := ⟨Nat.le_trans hS.1 (by rw [e1]; exact hz), fun q h1 h2 => by rw [hk' q (Nat.lt_of_lt_of_le h1 hS.1) (fun y => h2 (hsub q y))]; exact hS.2.1 q h1 h2, fun q hq' => by
    rcases List.mem_append.mp hq' with h | h
    · exact hS.2.2 q h
    · exact hsub _ (hL q h)⟩
  obtain ⟨t2, a1, b1⟩ := (kk r N' hq).2 p l e s m below meth c b D ax am ids T'.heap (locs ++ L1) ls X0 (lw_kept (fun i j a d z => hne j i d a z.symm) hP hJ hk') (by rw [e1]; exact hP1) hS1 hl T' rfl X'
  refine ⟨t2, stp t2 ?_, b1⟩
  have e9 : (r.map (ev_cv am)).toList ++ st.map (ev_cv (lw_ad b ax am)) = (r.toList ++ st).map (ev_cv (lw_ad b ax am)) := by rw [(kk r N' hq).1 am (lw_ad b ax am)]; cases r <;> rfl
  rw [e9]
  exact a1
end
