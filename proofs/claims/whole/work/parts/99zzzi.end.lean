/-! THE LAW from its entry -/
theorem kd_10 : ∀ j, j < 18 → defaultValue (tyX10 j) = vp_V [.null, .null, .null, .null, .null, .null, .null, .null, .null, .null, .null, .null, .null, .null, .null, .null, .int 0, .int 0] j := fun j hj => match j, hj with
  | 0, _ => rfl
  | 1, _ => rfl
  | 2, _ => rfl
  | 3, _ => rfl
  | 4, _ => rfl
  | 5, _ => rfl
  | 6, _ => rfl
  | 7, _ => rfl
  | 8, _ => rfl
  | 9, _ => rfl
  | 10, _ => rfl
  | 11, _ => rfl
  | 12, _ => rfl
  | 13, _ => rfl
  | 14, _ => rfl
  | 15, _ => rfl
  | 16, _ => rfl
  | 17, _ => rfl
  | k + 18, h => absurd h (by omega)
theorem kd_11 : ∀ j, j < 35 → defaultValue (tyX11 j) = vp_V [.null, .null, .null, .null, .null, .int 0, .int 0, .int 0, .int 0, .int 0, .int 0, .int 0, .long 0, .int 0, .int 0, .int 0, .null, .int 0, .int 0, .int 0, .int 0, .null, .null, .null, .null, .null, .null, .null, .null, .null, .null, .null, .int 0, .null, .null] j := fun j hj => match j, hj with
  | 0, _ => rfl
  | 1, _ => rfl
  | 2, _ => rfl
  | 3, _ => rfl
  | 4, _ => rfl
  | 5, _ => rfl
  | 6, _ => rfl
  | 7, _ => rfl
  | 8, _ => rfl
  | 9, _ => rfl
  | 10, _ => rfl
  | 11, _ => rfl
  | 12, _ => rfl
  | 13, _ => rfl
  | 14, _ => rfl
  | 15, _ => rfl
  | 16, _ => rfl
  | 17, _ => rfl
  | 18, _ => rfl
  | 19, _ => rfl
  | 20, _ => rfl
  | 21, _ => rfl
  | 22, _ => rfl
  | 23, _ => rfl
  | 24, _ => rfl
  | 25, _ => rfl
  | 26, _ => rfl
  | 27, _ => rfl
  | 28, _ => rfl
  | 29, _ => rfl
  | 30, _ => rfl
  | 31, _ => rfl
  | 32, _ => rfl
  | 33, _ => rfl
  | 34, _ => rfl
  | k + 35, h => absurd h (by omega)
theorem kl_X10_init : ek_LB mX10_init 0 := ⟨⟨(ev_t1 1 rfl rfl), (ev_t1 25 rfl rfl), ⟨by decide, by decide, by decide +kernel⟩, by decide⟩, rfl, rfl, (ev_t1 24 rfl rfl)⟩
theorem kl_X11_init : ek_LB mX11_init 0 := ⟨⟨(ev_t1 13 rfl rfl), (ev_t6 18 rfl rfl), ⟨by decide, by decide, by decide +kernel⟩, by decide⟩, rfl, rfl, (ev_t6 17 rfl rfl)⟩
theorem kn_law_7 : ek_NW "WithoutELaw" 7 10 [.null, .null, .null, .null, .null, .null, .null, .null, .null, .null, .null, .null, .null, .null, .null, .null, .int 0, .int 0] := ⟨RX10, TX10, 18, tyX10, rfl, lw_10, tyX10_ok, (ev_t1 21 rfl rfl), (ev_t1 22 rfl rfl), (ev_t1 1 rfl rfl), kd_10, rfl⟩
theorem kn_law_10 : ek_NW "WithoutELaw" 10 11 [.null, .null, .null, .null, .null, .int 0, .int 0, .int 0, .int 0, .int 0, .int 0, .int 0, .long 0, .int 0, .int 0, .int 0, .null, .int 0, .int 0, .int 0, .int 0, .null, .null, .null, .null, .null, .null, .null, .null, .null, .null, .null, .int 0, .null, .null] := ⟨RX11, TX11, 35, tyX11, rfl, lw_11, tyX11_ok, (ev_t6 14 rfl rfl), (ev_t6 15 rfl rfl), (ev_t1 13 rfl rfl), kd_11, rfl⟩
section
variable {p : Program} {l : Launch} {e : Env} {s : State} {m : MethodId} {below : List Frame} {meth : Method} {c : Code} {b L : Nat} {xs : Nat → Int32} {D : va_G} {ids : Nat → ClassId} {ad : Nat → Nat} {H : Heap} {locs : List Loc} {ls : Array Slot} {st : List Value} {kc ks : Nat} {pc : Nat} {Q : State → Prop} {es gs : List va_E}
/-- an object made by the law -/
theorem lw_new (C0 : lw_At p s m meth c b L xs) (hB : ek_B D ids ad s.heap.size s) (hPW : PW D s.heap.size es H) (hS : va_S (ek_A s.heap.size) s.heap H locs) {idx ci : Nat} {f0 : List Value} (hd : decode code pc = .ok (.new idx, 3)) (hw : ek_NW "WithoutELaw" idx ci f0) (hk : kc = es.length) (hC : kc + 1 ≤ 142) (hS' : ks + f0.length ≤ 17751) (k : ∀ H1 : Heap, PW D s.heap.size (es ++ [.inr (ci, f0)]) H1 → va_S (ek_A s.heap.size) s.heap H1 locs → W p l e room_1 s m #[Value.ref b] below meth c H1 locs (kc + 1) (ks + f0.length) Q (F0 m (pc + 3) ls (.ref (s.heap.size + es.length) :: st))) : W p l e room_1 s m #[Value.ref b] below meth c H locs kc ks Q (F0 m pc ls st) := by
  obtain ⟨hx, hb, hr, hml, hown, hts0, hX, hbl, hlk, hgv⟩ := C0
  have hts := sta_T hts0
  obtain ⟨cC, T, N, ty, w1, w2, w3, w4, w5, w6, w7, rfl⟩ := hw
  have hz0 := hPW.2
  have r3 : room_1.cells = 600000 := rfl
  have r4 : room_1.slots = 7302249 := rfl
  refine va_new hx hb hts w2 ty w3 hown (hts _ w4) (hts _ w5) (hts _ w6) hB.1 hPW.1 wE_D (ek_self hS) (fun q hq => by show s.heap.size ≤ q; omega) w1 w7 (by omega) (by omega) hd (fun q H1 hP1 hD1 hS1 => ?_)
  refine w_sz (fun hz => ?_)
  obtain ⟨rfl, hPW1⟩ := ek_push hPW hP1 hD1 (by omega)
  exact k H1 hPW1 (ek_tr hS hS1)
/-- a constructor called by the law -/
theorem lw_cons (C0 : lw_At p s m meth c b L xs) (hB : ek_B D ids ad s.heap.size s) {e0 : va_E} (hPW : PW D s.heap.size (es ++ [e0]) H) (hS : va_S (ek_A s.heap.size) s.heap H locs) (hl : ls.size = 4) {idx d C2 S2 : Nat} {z : ev_Y} (hd : decode code pc = .ok (.invokespecial idx, 3)) (hw : ek_LB z 0) (hm : Cond.methodLink "WithoutELaw" idx z.1 ∈ ev_T) (hst : (st.map fun v => v.category).sum ≤ 8) (hdd : d ≤ 100) (hC : kc + C2 ≤ 142) (hS' : ks + S2 ≤ 17751) (hc : Ck ids ad s.heap.size d C2 S2 z [] (s.heap.size + es.length) e0 gs) (kk : ∀ (H1 : Heap) (locs1 : List Loc), PW D s.heap.size (es ++ gs) H1 → va_S (ek_A s.heap.size) s.heap H1 locs1 → W p l e room_1 s m #[Value.ref b] below meth c H1 locs1 (kc + C2) (ks + S2) Q (F0 m (pc + 3) ls st)) : W p l e room_1 s m #[Value.ref b] below meth c H locs kc ks Q (F0 m pc ls (.ref (s.heap.size + es.length) :: st)) := by
  obtain ⟨hx, hb, hr, hml, hown, hts0, hX, hbl, hlk, hgv⟩ := C0
  have hts := sta_T hts0
  obtain ⟨⟨w1, w2, w3, w4⟩, w5, w6, w7⟩ := hw
  have hz0 := hPW.2
  rw [List.length_append, List.length_singleton] at hz0
  have hc' := hc l D
  rw [w6] at hc'
  have cb := callB_of (R := room_1) (rm := { frames := d, cells := C2, slots := S2, locals := 64 * d }) (own := "WithoutELaw") (index := idx) (mc := C2) (ms := S2) 0 hts (by have := ev_good z w2; rw [w6] at this; exact this) rfl rfl rfl (hts _ w1) (hts _ hm) w3 ⟨by show d + 1 ≤ 2048; omega, by show _ + 64 * d ≤ 84000; omega⟩
  have r3 : room_1.cells = 600000 := rfl
  have r4 : room_1.slots = 7302249 := rfl
  have hr := va_runI (l := l) (e := e) (below := below) (meth := meth) (locs := locs) (cells := kc) (slots := ks) (g := F0 m pc ls (.ref (s.heap.size + es.length) :: st)) (As := []) (rest := st) (b := s.heap.size + es.length) ⟨hx, hb, hml, hown, hts⟩ hc' ⟨cb, w5, hts _ w7⟩ (ek_pre hB (Nat.le_refl _) hPW hS) rfl rfl hl rfl (lv_room hst) hd ⟨by omega, by omega⟩
  refine va_callv hr hS (fun q _ z => by have : s.heap.size + es.length ≤ q := z; show s.heap.size ≤ q; omega) (fun q z => by have : s.heap.size + es.length ≤ q := z; show s.heap.size ≤ q; omega) (fun u t H1 locs1 ht hvm _ hB1 hz1 hk1 hS1 => ?_)
  have hB1 : PW D (s.heap.size + es.length) gs t.heap := hB1
  rw [ht] at hB1
  refine kk H1 locs1 ⟨?_, ?_⟩ hS1
  · rw [wE_app]
    refine va_P.app (fun i x hi => ?_) hB1.1
    have hi' : (wE s.heap.size (es ++ [e0]))[i]? = some x := by
      rw [wE_app, List.getElem?_append_left (List.getElem?_eq_some_iff.mp hi).1]
      exact hi
    have hx1 := hPW.1 i x hi'
    have hx2 := (wE_ta hi).2
    have hx3 := (List.getElem?_eq_some_iff.mp hi).1
    rw [wE_len] at hx3
    exact hx1.kept (hk1 x.1 hx1.lt (fun z => by have : s.heap.size + es.length ≤ x.1 := z; omega))
  · rw [hB1.2, List.length_append]; omega
end
theorem eX10_len (ids : Nat → ClassId) (h0 : Nat) : (eX10_init ids h0).length = 122 := by unfold eX10_init; rw [List.length_cons, ltX20]
set_option maxHeartbeats 4000000 in
theorem whole_start {p : Program} {e : Env} {s : State} {m : MethodId} {below : List Frame} {meth : Method} {c : Code} (l : Launch) {b L : Nat} {xs : Nat → Int32} (hL : L ≤ 3584) (C0 : lw_At p s m meth c b L xs) : W p l e room_1 s m #[Value.ref b] below meth c s.heap [] 0 0 (lw_Z below #[Value.ref b] s) (entryFrame m ([Value.ref b] : List Value).toArray 4) := by
  obtain ⟨hx, hb, hr, hml, hown, hts, hX, hbl, hlocks, hgv⟩ := id C0
  obtain ⟨D, hC⟩ := sta_C hts
  obtain ⟨ids, hI, hAA⟩ := sta_I hts
  obtain ⟨ad, hSt⟩ := sta_S hts hgv
  have hK : va_K D ev_cl (ev_tys ids) s := ⟨hC, hI⟩
  have hB : ek_B D ids ad s.heap.size s := ⟨hK, sta_M hts, hSt, hAA, va_AO.of (hts _ (tq1 211 rfl))⟩
  have hS : va_S (ek_A s.heap.size) s.heap s.heap [] := va_S.rf
  have hPW : PW D s.heap.size [] s.heap := ⟨fun k q h => by simp [wE] at h, rfl⟩
  have hl := lv_entry ([.ref b]) (n := 4) (Nat.le_of_ble_eq_true rfl)
  rw [lg_entry_eq]
  generalize (lg_sl ([.ref b]) ++ List.replicate (4 - (lg_sl ([.ref b])).length) Slot.unset).toArray = ls at hl ⊢
  have hl : lv_has ls 4 [(0, .ref b)] := hl
  refine lw_new C0 hB hPW hS d_law_0 kn_law_7 rfl (by decide) (by decide) (fun H hPW hS => ?_)
  refine lv_dup hx hb d_law_3 rfl ?_
  refine lw_cons (es := []) (gs := eX10_init ids s.heap.size) (d := 3) (C2 := 121) (S2 := 5901) C0 hB hPW hS hl.1 d_law_4 kl_X10_init (ev_t1 23 rfl rfl) (Nat.le_of_ble_eq_true rfl) (by decide) (by decide) (by decide) (kX10_init (d := 0)) (fun H locs hPW hS => ?_)
  refine lv_astore_n (lv' := [(1, .ref (s.heap.size + 0)), (0, .ref b)]) hx hb d_law_7 rfl hl (by decide) rfl (fun ls hl => ?_)
  have hPW : PW D s.heap.size (eX10_init ids s.heap.size) H := hPW
  refine lw_new (kc := 122) (ks := 5919) C0 hB hPW hS d_law_8 kn_law_10 (eX10_len ids s.heap.size).symm (by decide) (by decide) (fun H hPW hS => ?_)
  refine lv_dup hx hb d_law_11 rfl ?_
  refine lw_cons (es := eX10_init ids s.heap.size) (gs := eM ids (s.heap.size + (eX10_init ids s.heap.size).length) (zfA 26) zgA) (d := 1) (C2 := 19) (S2 := 11797) C0 hB hPW hS hl.1 d_law_12 kl_X11_init (ev_t6 16 rfl rfl) (Nat.le_of_ble_eq_true rfl) (by decide) (by decide) (by decide) (kX11_init (d := 0)) (fun H locs hPW hS => ?_)
  rw [eX10_len] at hPW ⊢
  refine lv_astore_n (lv' := [(2, .ref (s.heap.size + 122)), (1, .ref (s.heap.size + 0)), (0, .ref b)]) hx hb d_law_15 rfl hl (by decide) rfl (fun ls hl => ?_)
  refine lv_iconst (v := nI 0) hx hb d_law_16 (by decide) ?_
  refine lv_istore_n (lv' := [(3, .int (nI 0)), (2, .ref (s.heap.size + 122)), (1, .ref (s.heap.size + 0)), (0, .ref b)]) hx hb d_law_17 rfl hl (by decide) rfl (fun ls hl => ?_)
  have hlo : ∀ (i : Nat) (x : va_E), (eX10_init ids s.heap.size)[i]? = some x → va_at D ev_cl (s.heap.size + i, x) H := fun i x hi => hPW.at' (by rw [List.getElem?_append_left (List.getElem?_eq_some_iff.mp hi).1]; exact hi)
  have hhi : ∀ (i : Nat) (x : va_E), (eM ids (s.heap.size + 122) (zfA 26) zgA)[i]? = some x → va_at D ev_cl (s.heap.size + 122 + i, x) H := fun i x hi => by
    have := hPW.at' (i := 122 + i) (e := x) (by rw [List.getElem?_append_right (by rw [eX10_len]; omega), eX10_len, Nat.add_sub_cancel_left]; exact hi)
    rw [Nat.add_assoc]
    exact this
  refine lw_loop hL (L + 1) 0 0 M0 (mN (zfA 26) zgA) (by omega) (by omega) (by omega) RX_0 p l e s m below meth c b D (ek_ad s.heap.size pX ad) (ek_ad (s.heap.size + 122) (fun k => k) ad) ids H locs ls ⟨C0, hK, xi_J, mi_J, fun k hk => ?_, fun k hk => ?_, fun i j hi hj => ?_, ev_Sn hSt (fun _ h => h) (fun k hk => if_neg (by omega)), ev_Sn hSt (fun _ h => h) (fun k hk => if_neg (by omega))⟩ (xi_P hlo) (mi_P hhi) hS (lv_sub hl [3, 2, 1, 0] rfl)
  · have hk : k < 122 := hk
    rw [show ek_ad s.heap.size pX ad k = s.heap.size + pX k from if_pos (by omega)]
    omega
  · have hk : k < 20 := hk
    rw [show ek_ad (s.heap.size + 122) (fun k => k) ad k = s.heap.size + 122 + k from if_pos (by omega)]
    omega
  · have hi : i < 122 := hi
    have hj : j < 20 := hj
    have := (pX_q i hi).2
    rw [show ek_ad s.heap.size pX ad i = s.heap.size + pX i from if_pos (by omega), show ek_ad (s.heap.size + 122) (fun k => k) ad j = s.heap.size + 122 + j from if_pos (by omega)]
    omega
set_option maxHeartbeats 4000000 in
theorem lw_walk (l : Launch) (b : Addr) (xs : List Int32) : MetFree l x (headSpec (Jvm.Cond.code x code maxLocals ret :: tables_1) room_1) (lw_P b xs) (fun _ _ _ _ _ => True) lw_Q := by
  refine MetFree.of_bodyS (code := code) (maxLocals := maxLocals) (ret := ret) (by decide) ?_ ?_
  · intro args s m h hn
    obtain ⟨meth, c, h1, h2, h3, h4, h5, h6, -, -⟩ := Cond.code_spec hn (atoms_spec (ws := Jvm.Cond.code x code maxLocals ret :: tables_1) h _ List.mem_cons_self)
    exact ⟨meth, c, h1, h2, h3, h4, h5, h6⟩
  · intro p e s m args below meth c s₁ B hml0 hP _
    obtain ⟨rfl, hx, hbd, hgv⟩ := hP
    obtain ⟨scr, harrAt, hlist, hof, hsmall⟩ := hx
    obtain ⟨hcb, hkn, -, -⟩ := State.arrayAt?_spec harrAt
    have hown : s.vm.findClass R_law = some m.cls := findClass_of_methodNamed B.named
    have hts0 : ∀ c ∈ (Jvm.Cond.code x code maxLocals ret :: tables_1), c.before #[Value.ref b] s = true := atoms_spec (ws := Jvm.Cond.code x code maxLocals ret :: tables_1) B.pre
    have hts : ∀ w ∈ lw_tbl, w.before #[Value.ref b] s = true := k2_hts_sels lw_privs (fun w hw => hts0 w (List.mem_cons_of_mem _ hw)) lw_privs_ok
    have hml : c.maxLocals = 4 := B.maxLocals_eq (hts0 _ List.mem_cons_self)
    have X₀ : Stand p l e room_1 s m #[Value.ref b] below meth c s₁ [] 0 0 := Stand.of_body B
    have hh0 : s₁.heap = s.heap := by rw [B.state]; rfl
    have hsz : scr.slots.size = xs.length := by rw [← Array.length_toList, hlist, List.length_map]
    have hval : ∀ j : Nat, j < xs.length → scr.slots[j]? = some (.int (xs.getD j 0)) := fun j hj => by
      rw [← Array.getElem?_toList, hlist]
      simp [hj]
    have hbl : b < s.heap.size := (Array.getElem?_eq_some_iff.mp hcb).1
    have hX : va_X b xs.length (fun j => xs.getD j 0) s s.heap := ⟨scr, hcb, hof, hkn, hsz, hval⟩
    have K : W p l e room_1 s m #[Value.ref b] below meth c s₁.heap [] 0 0 (lw_Z below #[Value.ref b] s) (entryFrame m ([Value.ref b] : List Value).toArray 4) := by
      rw [hh0]
      exact whole_start l hbd ⟨B.exec, B.bytes, B.returns, hml, hown, hts, hX, hbl, B.notSynchronized, hgv⟩
    obtain ⟨t, a1, o, b1, b2, b3⟩ := K s₁ rfl X₀
    exact ⟨t, o, a1, b1, b2, b3⟩
theorem lw_pre_spec {args : Array Value} {s : State} (h : (Jvm.Cond.and given_1 narrow_1).before args s = true) (hr : rest_1_c.before args s = true) : ∃ (b : Addr) (xs : List Int32), lw_P b xs args s := by
  have hs := flat_of_before _ h
  have hq := flat_of_before _ hr
  have hc : (Cond.count 1).before args s = true := hs _ (by decide +kernel)
  have harr : (Cond.arrayOf (.arg 0) .int).before args s = true := hs _ (by decide +kernel)
  have hle : (Cond.le (.length (.arg 0)) (.int 3584)).before args s = true := hs _ (by decide +kernel)
  have hlen : (Cond.isInt (.length (.arg 0))).before args s = true := hq _ (by decide +kernel)
  have hall : (Cond.all (.arg 0) (.isInt (.elem (.arg 0) (.index 0)))).before args s = true := hq _ (by decide +kernel)
  obtain ⟨b, xs, hb, hx⟩ := State.ints_of_pre rfl harr hlen hall
  have hsm : xs.length < 2 ^ 31 := hx.choose_spec.2.2.2
  have hev : (Term.length (.arg 0)).eval args s none [] s = some (.int xs.length.toInt32) := hx.length_eval hb
  have hv := Cond.le_ints hev (show (Term.int 3584).eval args s none [] s = some (.int 3584) from rfl)
  have hd : xs.length.toInt32 ≤ 3584 := by
    simpa [Cond.before, Cond.holds, hv] using hle
  have hN : xs.length ≤ 3584 := (Int32.ofNat_le_ofNat hsm (by decide)).mp (show Int32.ofNat xs.length ≤ Int32.ofNat 3584 from hd)
  exact ⟨b, xs, Cond.one_arg hc (show args[0]? = some (.ref b) from hb), hx, hN, h⟩
theorem lw_comes (l : Launch) : Comes l x (Jvm.Cond.code x code maxLocals ret :: tables_1) room_1 (fun tb e args s => Calls_1 tb e args s ∧ rest_1 tb e args s ∧ Pre_1 tb e args s)
    (fun _ _ args s o t => lw_Q args s o t) := by
  intro p e ha hc hk s m args below hf hfit hheap happ hpre
  obtain ⟨b, xs, hP⟩ := lw_pre_spec hpre.2.2 hpre.2.1
  obtain ⟨k, o, h1, h2, h3, hQ⟩ := lw_walk l b xs p e ha hc hk s m args below hf ((Spec.applies_iff_loose hf).mp happ).1 hP trivial
  exact ⟨k, o, h1, h2, h3, hQ⟩
theorem lw_frame {s t : State} {o : Outcome} {args : Array Value} (h : Framed s o t [] 600000 7302249) :
    Framed s o t (fieldLocs frame_1_writes args s ++ arrayLocs frame_1_arrays args s ++ staticLocs frame_1_statics s) 600000 7302249 := h
theorem lw_limb (L : Cond) (hL : ∀ (args : Array Value) (s t : State), L.after args s (.returned (some (.int 1))) t = true) :
    ArmFor flags0 classFile x code maxLocals ret World_1 tables_1 room_1 Calls_1 rest_1 Pre_1
      (fun tb e a s o t => postC L tb e a s o t ∧ Framed s o t (fieldLocs frame_1_writes a s ++ arrayLocs frame_1_arrays a s ++ staticLocs frame_1_statics s) 600000 7302249) := by
  intro l _ _ _ p e ha hc hk s m args below hf hfit hheap happ hpre
  obtain ⟨k, o, h1, h2, h3, rfl, hF⟩ := lw_comes l p e ha hc hk s m args below hf hfit hheap happ hpre
  exact ⟨k, _, h1, h2, h3, hL args s _, lw_frame hF⟩
theorem i_vc : Claimed_1_1 ∧ Claimed_1_2 := ⟨lw_limb limb_1_1 (fun args s t => by simp [limb_1_1, Cond.after, Cond.holds, Cond.value]), lw_limb limb_1_2 (fun args s t => Cond.after_iff.mpr (by
  first | (rw [show limb_1_2 = Cond.eq .result (.int 1) from rfl, Cond.eq_ints (x := 1) (y := 1) rfl rfl]; simp; done) | (simp [limb_1_2, Cond.value, Term.eval]; done)))⟩

