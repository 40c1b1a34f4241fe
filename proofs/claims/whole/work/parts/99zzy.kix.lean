/-! MAKING OBJECTS: the whole -/
section
theorem ek_lst {t g : List va_E} {hd x : va_E} {n : Nat} (ht : t.length = n) (hg : g[0]? = some x) : (hd :: (t ++ g))[n + 1]? = some x := by
  rw [List.getElem?_cons_succ, List.getElem?_append_right (by omega), ht, Nat.sub_self]
  exact hg
theorem ek_pr {t g : List va_E} {hd x : va_E} {k : Nat} (h : (hd :: t)[k]? = some x) : (hd :: (t ++ g))[k]? = some x := by
  rw [← List.cons_append, List.getElem?_append_left (List.getElem?_eq_some_iff.mp h).1]
  exact h
theorem ek_sl {t : List va_E} {hd x y : va_E} {n : Nat} (ht : t.length = n) : (hd :: (t ++ [x])).set (n + 1) y = hd :: (t ++ [y]) := by
  subst ht
  simp
theorem ek_sp {t t2 g : List va_E} {hd y : va_E} {k : Nat} (h : (hd :: t).set k y = hd :: t2) (hk : k < t.length + 1) : (hd :: (t ++ g)).set k y = hd :: (t2 ++ g) := by
  rw [← List.cons_append, List.set_append_left k y (by rw [List.length_cons]; exact hk), h, List.cons_append]
variable {ids : Nat → ClassId} {ad : Nat → Nat} {b0 d C S : Nat} {y : ev_Y} {pc : Nat} {ls : List (Option Value)} {st st0 : List Value} {h0 : Nat} {es es0 : List va_E} {kc ks : Nat} {fs : List va_E}
theorem ek_cQI {idx n C2 S2 : Nat} {z : ev_Y} {e0 : va_E} {gs : List va_E} (as : List Value) (q : Nat) (hd : decode y.2.1 pc = .ok (.invokespecial idx, 3)) (hw : ek_LB z n) (hm : Cond.methodLink y.1.cls idx z.1 ∈ ev_T) (hn : as.length = n) (hst : (st.map fun v => v.category).sum ≤ 8) (hC : kc + C2 ≤ C) (hS' : ks + S2 ≤ S) (hg : gs.length = C2 + 1) (hs : st0 = as.reverse ++ .ref q :: st) (he : es0 = es ++ [e0]) (hq : h0 + es.length = q) (hc : Ck ids ad b0 d C2 S2 z as q e0 gs) (kk : Ek ids ad b0 (d + 1) C S y (pc + 3) ls st h0 (es ++ gs) (kc + C2) (ks + S2) fs) : Ek ids ad b0 (d + 1) C S y pc ls st0 h0 es0 kc ks fs := by
  subst hs he hq
  exact ek_callI as hd hw hm hn hst hC hS' hg hc kk
theorem ek_cQN {idx n C2 S2 : Nat} {z : ev_Y} {e0 : va_E} {gs : List va_E} (as : List Value) (q : Nat) (hd : decode y.2.1 pc = .ok (.invokespecial idx, 3)) (hw : ek_LB z n) (hm : Cond.methodLinkNest y.1.cls idx z.1 "WithoutE" ∈ ek_N) (hn : as.length = n) (hst : (st.map fun v => v.category).sum ≤ 8) (hC : kc + C2 ≤ C) (hS' : ks + S2 ≤ S) (hg : gs.length = C2 + 1) (hs : st0 = as.reverse ++ .ref q :: st) (he : es0 = es ++ [e0]) (hq : h0 + es.length = q) (hc : Ck ids ad b0 d C2 S2 z as q e0 gs) (kk : Ek ids ad b0 (d + 1) C S y (pc + 3) ls st h0 (es ++ gs) (kc + C2) (ks + S2) fs) : Ek ids ad b0 (d + 1) C S y pc ls st0 h0 es0 kc ks fs := by
  subst hs he hq
  exact ek_callN as hd hw hm hn hst hC hS' hg hc kk
theorem ek_aaQ {i n iv ci J : Nat} {f : Nat → Option Nat} {j : Int32} {f0 : List Value} {T : u_T} {N : Nat} (hd : decode y.2.1 pc = .ok (.aastore, 1)) (he : es[i]? = some (.inl (ids 4, n, .inr (.inr (.inr (.inr f)))))) (hv : es[iv]? = some (.inr (ci, f0))) (hc : ev_cl[ci]? = some ("WithoutE$Text", T, N)) (hj : vp_in j n) (hJ : j.toNatClampNeg = J) (h2 : es.set i (.inl (ids 4, n, .inr (.inr (.inr (.inr (va_up f J (some (h0 + iv)))))))) = es0) (k : Ek ids ad b0 d C S y (pc + 1) ls st h0 es0 kc ks fs) : Ek ids ad b0 d C S y pc ls (.ref (h0 + iv) :: .int j :: .ref (h0 + i) :: st) h0 es kc ks fs := by
  subst hJ h2
  exact ek_aast hd he hv hc hj k
theorem lX7 : (eX7_init ids h0).length = 2 := rfl
theorem lX0 : (eX0_init ids h0).length = 40 := rfl
theorem lX9 : (eX9_init ids h0).length = 4 := rfl
theorem lX3 : (eX3_init ids h0).length = 13 := rfl
theorem lX8 : (eX8_init ids h0).length = 5 := rfl
theorem lX4 {a1 : Nat} : (eX4_init ids h0 a1).length = 1 := rfl
theorem lX5 {a1 a2 : Nat} : (eX5_init ids h0 a1 a2).length = 1 := rfl
theorem lX1 {a1 a2 : Nat} : (eX1_init ids h0 a1 a2).length = 3 := rfl
theorem lX6 {a1 a2 a3 : Nat} : (eX6_init ids h0 a1 a2 a3).length = 14 := rfl
end
theorem dX10_init_0 : decode cX10_init 0 = .ok (.aload_n 0, 1) := by decide +kernel
theorem dX10_init_1 : decode cX10_init 1 = .ok (.invokespecial 1, 3) := by decide +kernel
theorem dX10_init_4 : decode cX10_init 4 = .ok (.aload_n 0, 1) := by decide +kernel
theorem dX10_init_5 : decode cX10_init 5 = .ok (.new 7, 3) := by decide +kernel
theorem dX10_init_8 : decode cX10_init 8 = .ok (.dup, 1) := by decide +kernel
theorem dX10_init_9 : decode cX10_init 9 = .ok (.invokespecial 9, 3) := by decide +kernel
theorem dX10_init_12 : decode cX10_init 12 = .ok (.putfield 10, 3) := by decide +kernel
theorem dX10_init_15 : decode cX10_init 15 = .ok (.aload_n 0, 1) := by decide +kernel
theorem dX10_init_16 : decode cX10_init 16 = .ok (.new 16, 3) := by decide +kernel
theorem dX10_init_19 : decode cX10_init 19 = .ok (.dup, 1) := by decide +kernel
theorem dX10_init_20 : decode cX10_init 20 = .ok (.invokespecial 18, 3) := by decide +kernel
theorem dX10_init_23 : decode cX10_init 23 = .ok (.putfield 19, 3) := by decide +kernel
theorem dX10_init_26 : decode cX10_init 26 = .ok (.aload_n 0, 1) := by decide +kernel
theorem dX10_init_27 : decode cX10_init 27 = .ok (.new 23, 3) := by decide +kernel
theorem dX10_init_30 : decode cX10_init 30 = .ok (.dup, 1) := by decide +kernel
theorem dX10_init_31 : decode cX10_init 31 = .ok (.invokespecial 25, 3) := by decide +kernel
theorem dX10_init_34 : decode cX10_init 34 = .ok (.putfield 26, 3) := by decide +kernel
theorem dX10_init_37 : decode cX10_init 37 = .ok (.aload_n 0, 1) := by decide +kernel
theorem dX10_init_38 : decode cX10_init 38 = .ok (.new 30, 3) := by decide +kernel
theorem dX10_init_41 : decode cX10_init 41 = .ok (.dup, 1) := by decide +kernel
theorem dX10_init_42 : decode cX10_init 42 = .ok (.invokespecial 32, 3) := by decide +kernel
theorem dX10_init_45 : decode cX10_init 45 = .ok (.putfield 33, 3) := by decide +kernel
theorem dX10_init_48 : decode cX10_init 48 = .ok (.aload_n 0, 1) := by decide +kernel
theorem dX10_init_49 : decode cX10_init 49 = .ok (.iconst 4, 1) := by decide +kernel
theorem dX10_init_50 : decode cX10_init 50 = .ok (.anewarray 37, 3) := by decide +kernel
theorem dX10_init_53 : decode cX10_init 53 = .ok (.putfield 39, 3) := by decide +kernel
theorem dX10_init_56 : decode cX10_init 56 = .ok (.aload_n 0, 1) := by decide +kernel
theorem dX10_init_57 : decode cX10_init 57 = .ok (.new 43, 3) := by decide +kernel
theorem dX10_init_60 : decode cX10_init 60 = .ok (.dup, 1) := by decide +kernel
theorem dX10_init_61 : decode cX10_init 61 = .ok (.aload_n 0, 1) := by decide +kernel
theorem dX10_init_62 : decode cX10_init 62 = .ok (.getfield 10, 3) := by decide +kernel
theorem dX10_init_65 : decode cX10_init 65 = .ok (.invokespecial 45, 3) := by decide +kernel
theorem dX10_init_68 : decode cX10_init 68 = .ok (.putfield 48, 3) := by decide +kernel
theorem dX10_init_71 : decode cX10_init 71 = .ok (.aload_n 0, 1) := by decide +kernel
theorem dX10_init_72 : decode cX10_init 72 = .ok (.new 23, 3) := by decide +kernel
theorem dX10_init_75 : decode cX10_init 75 = .ok (.dup, 1) := by decide +kernel
theorem dX10_init_76 : decode cX10_init 76 = .ok (.invokespecial 25, 3) := by decide +kernel
theorem dX10_init_79 : decode cX10_init 79 = .ok (.putfield 52, 3) := by decide +kernel
theorem dX10_init_82 : decode cX10_init 82 = .ok (.aload_n 0, 1) := by decide +kernel
theorem dX10_init_83 : decode cX10_init 83 = .ok (.new 30, 3) := by decide +kernel
theorem dX10_init_86 : decode cX10_init 86 = .ok (.dup, 1) := by decide +kernel
theorem dX10_init_87 : decode cX10_init 87 = .ok (.invokespecial 32, 3) := by decide +kernel
theorem dX10_init_90 : decode cX10_init 90 = .ok (.putfield 55, 3) := by decide +kernel
theorem dX10_init_93 : decode cX10_init 93 = .ok (.aload_n 0, 1) := by decide +kernel
theorem dX10_init_94 : decode cX10_init 94 = .ok (.iconst 3, 1) := by decide +kernel
theorem dX10_init_95 : decode cX10_init 95 = .ok (.newarray .int, 2) := by decide +kernel
theorem dX10_init_97 : decode cX10_init 97 = .ok (.putfield 58, 3) := by decide +kernel
theorem dX10_init_100 : decode cX10_init 100 = .ok (.aload_n 0, 1) := by decide +kernel
theorem dX10_init_101 : decode cX10_init 101 = .ok (.bipush 9, 2) := by decide +kernel
theorem dX10_init_103 : decode cX10_init 103 = .ok (.newarray .int, 2) := by decide +kernel
theorem dX10_init_105 : decode cX10_init 105 = .ok (.putfield 62, 3) := by decide +kernel
theorem dX10_init_108 : decode cX10_init 108 = .ok (.aload_n 0, 1) := by decide +kernel
theorem dX10_init_109 : decode cX10_init 109 = .ok (.bipush 26, 2) := by decide +kernel
theorem dX10_init_111 : decode cX10_init 111 = .ok (.newarray .int, 2) := by decide +kernel
theorem dX10_init_113 : decode cX10_init 113 = .ok (.putfield 65, 3) := by decide +kernel
theorem dX10_init_116 : decode cX10_init 116 = .ok (.aload_n 0, 1) := by decide +kernel
theorem dX10_init_117 : decode cX10_init 117 = .ok (.bipush 8, 2) := by decide +kernel
theorem dX10_init_119 : decode cX10_init 119 = .ok (.newarray .int, 2) := by decide +kernel
theorem dX10_init_121 : decode cX10_init 121 = .ok (.putfield 68, 3) := by decide +kernel
theorem dX10_init_124 : decode cX10_init 124 = .ok (.aload_n 0, 1) := by decide +kernel
theorem dX10_init_125 : decode cX10_init 125 = .ok (.bipush 8, 2) := by decide +kernel
theorem dX10_init_127 : decode cX10_init 127 = .ok (.newarray .int, 2) := by decide +kernel
theorem dX10_init_129 : decode cX10_init 129 = .ok (.putfield 71, 3) := by decide +kernel
theorem dX10_init_132 : decode cX10_init 132 = .ok (.iconst 0, 1) := by decide +kernel
theorem dX10_init_133 : decode cX10_init 133 = .ok (.istore_n 1, 1) := by decide +kernel
theorem dX10_init_134 : decode cX10_init 134 = .ok (.iload_n 1, 1) := by decide +kernel
theorem dX10_init_135 : decode cX10_init 135 = .ok (.iconst 4, 1) := by decide +kernel
theorem dX10_init_136 : decode cX10_init 136 = .ok (.if_icmp .ge 22, 3) := by decide +kernel
theorem dX10_init_139 : decode cX10_init 139 = .ok (.aload_n 0, 1) := by decide +kernel
theorem dX10_init_140 : decode cX10_init 140 = .ok (.getfield 39, 3) := by decide +kernel
theorem dX10_init_143 : decode cX10_init 143 = .ok (.iload_n 1, 1) := by decide +kernel
theorem dX10_init_144 : decode cX10_init 144 = .ok (.new 37, 3) := by decide +kernel
theorem dX10_init_147 : decode cX10_init 147 = .ok (.dup, 1) := by decide +kernel
theorem dX10_init_148 : decode cX10_init 148 = .ok (.invokespecial 74, 3) := by decide +kernel
theorem dX10_init_151 : decode cX10_init 151 = .ok (.aastore, 1) := by decide +kernel
theorem dX10_init_152 : decode cX10_init 152 = .ok (.iinc 1 1, 3) := by decide +kernel
theorem dX10_init_155 : decode cX10_init 155 = .ok (.goto (-21), 3) := by decide +kernel
theorem dX10_init_158 : decode cX10_init 158 = .ok (.aload_n 0, 1) := by decide +kernel
theorem dX10_init_159 : decode cX10_init 159 = .ok (.new 75, 3) := by decide +kernel
theorem dX10_init_162 : decode cX10_init 162 = .ok (.dup, 1) := by decide +kernel
theorem dX10_init_163 : decode cX10_init 163 = .ok (.aload_n 0, 1) := by decide +kernel
theorem dX10_init_164 : decode cX10_init 164 = .ok (.getfield 19, 3) := by decide +kernel
theorem dX10_init_167 : decode cX10_init 167 = .ok (.aload_n 0, 1) := by decide +kernel
theorem dX10_init_168 : decode cX10_init 168 = .ok (.getfield 33, 3) := by decide +kernel
theorem dX10_init_171 : decode cX10_init 171 = .ok (.invokespecial 77, 3) := by decide +kernel
theorem dX10_init_174 : decode cX10_init 174 = .ok (.putfield 80, 3) := by decide +kernel
theorem dX10_init_177 : decode cX10_init 177 = .ok (.aload_n 0, 1) := by decide +kernel
theorem dX10_init_178 : decode cX10_init 178 = .ok (.new 84, 3) := by decide +kernel
theorem dX10_init_181 : decode cX10_init 181 = .ok (.dup, 1) := by decide +kernel
theorem dX10_init_182 : decode cX10_init 182 = .ok (.aload_n 0, 1) := by decide +kernel
theorem dX10_init_183 : decode cX10_init 183 = .ok (.getfield 19, 3) := by decide +kernel
theorem dX10_init_186 : decode cX10_init 186 = .ok (.aload_n 0, 1) := by decide +kernel
theorem dX10_init_187 : decode cX10_init 187 = .ok (.getfield 26, 3) := by decide +kernel
theorem dX10_init_190 : decode cX10_init 190 = .ok (.invokespecial 86, 3) := by decide +kernel
theorem dX10_init_193 : decode cX10_init 193 = .ok (.putfield 89, 3) := by decide +kernel
theorem dX10_init_196 : decode cX10_init 196 = .ok (.aload_n 0, 1) := by decide +kernel
theorem dX10_init_197 : decode cX10_init 197 = .ok (.new 93, 3) := by decide +kernel
theorem dX10_init_200 : decode cX10_init 200 = .ok (.dup, 1) := by decide +kernel
theorem dX10_init_201 : decode cX10_init 201 = .ok (.aload_n 0, 1) := by decide +kernel
theorem dX10_init_202 : decode cX10_init 202 = .ok (.getfield 19, 3) := by decide +kernel
theorem dX10_init_205 : decode cX10_init 205 = .ok (.aload_n 0, 1) := by decide +kernel
theorem dX10_init_206 : decode cX10_init 206 = .ok (.getfield 80, 3) := by decide +kernel
theorem dX10_init_209 : decode cX10_init 209 = .ok (.aload_n 0, 1) := by decide +kernel
theorem dX10_init_210 : decode cX10_init 210 = .ok (.getfield 89, 3) := by decide +kernel
theorem dX10_init_213 : decode cX10_init 213 = .ok (.invokespecial 95, 3) := by decide +kernel
theorem dX10_init_216 : decode cX10_init 216 = .ok (.putfield 98, 3) := by decide +kernel
theorem dX10_init_219 : decode cX10_init 219 = .ok (.return_, 1) := by decide +kernel
def tX1 (ids : Nat → ClassId) (h0 : Nat) (f : Nat → Option Nat) : List va_E := [] ++ eX7_init ids (h0 + 1)
theorem ltX1 {ids : Nat → ClassId} {h0 : Nat} {f : Nat → Option Nat} : (tX1 ids h0 f).length = 2 := by unfold tX1; rw [List.length_append, List.length_nil]; rfl
def tX2 (ids : Nat → ClassId) (h0 : Nat) (f : Nat → Option Nat) : List va_E := tX1 ids h0 f ++ eX0_init ids (h0 + 3)
theorem ltX2 {ids : Nat → ClassId} {h0 : Nat} {f : Nat → Option Nat} : (tX2 ids h0 f).length = 42 := by unfold tX2; rw [List.length_append, ltX1]; rfl
def tX3 (ids : Nat → ClassId) (h0 : Nat) (f : Nat → Option Nat) : List va_E := tX2 ids h0 f ++ eX9_init ids (h0 + 43)
theorem ltX3 {ids : Nat → ClassId} {h0 : Nat} {f : Nat → Option Nat} : (tX3 ids h0 f).length = 46 := by unfold tX3; rw [List.length_append, ltX2]; rfl
def tX4 (ids : Nat → ClassId) (h0 : Nat) (f : Nat → Option Nat) : List va_E := tX3 ids h0 f ++ eX3_init ids (h0 + 47)
theorem ltX4 {ids : Nat → ClassId} {h0 : Nat} {f : Nat → Option Nat} : (tX4 ids h0 f).length = 59 := by unfold tX4; rw [List.length_append, ltX3]; rfl
def tX5 (ids : Nat → ClassId) (h0 : Nat) (f : Nat → Option Nat) : List va_E := tX4 ids h0 f ++ [.inl (ids 4, 4, .inr (.inr (.inr (.inr f))))]
theorem ltX5 {ids : Nat → ClassId} {h0 : Nat} {f : Nat → Option Nat} : (tX5 ids h0 f).length = 60 := by unfold tX5; rw [List.length_append, ltX4]; rfl
theorem gT5 {ids : Nat → ClassId} {h0 : Nat} {f : Nat → Option Nat} {hd : va_E} : (hd :: tX5 ids h0 f)[60]? = some (.inl (ids 4, 4, .inr (.inr (.inr (.inr f))))) := ek_lst (t := tX4 ids h0 f) ltX4 rfl
theorem sT5 {ids : Nat → ClassId} {h0 : Nat} {f g : Nat → Option Nat} {hd : va_E} : (hd :: tX5 ids h0 f).set 60 (.inl (ids 4, 4, .inr (.inr (.inr (.inr g))))) = hd :: tX5 ids h0 g := ek_sl (t := tX4 ids h0 f) ltX4
def tX6 (ids : Nat → ClassId) (h0 : Nat) (f : Nat → Option Nat) : List va_E := tX5 ids h0 f ++ eX4_init ids (h0 + 61) ((h0 + 1))
theorem ltX6 {ids : Nat → ClassId} {h0 : Nat} {f : Nat → Option Nat} : (tX6 ids h0 f).length = 61 := by unfold tX6; rw [List.length_append, ltX5]; rfl
theorem gT6 {ids : Nat → ClassId} {h0 : Nat} {f : Nat → Option Nat} {hd : va_E} : (hd :: tX6 ids h0 f)[60]? = some (.inl (ids 4, 4, .inr (.inr (.inr (.inr f))))) := ek_pr (t := tX5 ids h0 f) gT5
theorem sT6 {ids : Nat → ClassId} {h0 : Nat} {f g : Nat → Option Nat} {hd : va_E} : (hd :: tX6 ids h0 f).set 60 (.inl (ids 4, 4, .inr (.inr (.inr (.inr g))))) = hd :: tX6 ids h0 g := ek_sp (t := tX5 ids h0 f) (t2 := tX5 ids h0 g) sT5 (by rw [ltX5]; decide)
def tX7 (ids : Nat → ClassId) (h0 : Nat) (f : Nat → Option Nat) : List va_E := tX6 ids h0 f ++ eX9_init ids (h0 + 62)
theorem ltX7 {ids : Nat → ClassId} {h0 : Nat} {f : Nat → Option Nat} : (tX7 ids h0 f).length = 65 := by unfold tX7; rw [List.length_append, ltX6]; rfl
theorem gT7 {ids : Nat → ClassId} {h0 : Nat} {f : Nat → Option Nat} {hd : va_E} : (hd :: tX7 ids h0 f)[60]? = some (.inl (ids 4, 4, .inr (.inr (.inr (.inr f))))) := ek_pr (t := tX6 ids h0 f) gT6
theorem sT7 {ids : Nat → ClassId} {h0 : Nat} {f g : Nat → Option Nat} {hd : va_E} : (hd :: tX7 ids h0 f).set 60 (.inl (ids 4, 4, .inr (.inr (.inr (.inr g))))) = hd :: tX7 ids h0 g := ek_sp (t := tX6 ids h0 f) (t2 := tX6 ids h0 g) sT6 (by rw [ltX6]; decide)
def tX8 (ids : Nat → ClassId) (h0 : Nat) (f : Nat → Option Nat) : List va_E := tX7 ids h0 f ++ eX3_init ids (h0 + 66)
theorem ltX8 {ids : Nat → ClassId} {h0 : Nat} {f : Nat → Option Nat} : (tX8 ids h0 f).length = 78 := by unfold tX8; rw [List.length_append, ltX7]; rfl
theorem gT8 {ids : Nat → ClassId} {h0 : Nat} {f : Nat → Option Nat} {hd : va_E} : (hd :: tX8 ids h0 f)[60]? = some (.inl (ids 4, 4, .inr (.inr (.inr (.inr f))))) := ek_pr (t := tX7 ids h0 f) gT7
theorem sT8 {ids : Nat → ClassId} {h0 : Nat} {f g : Nat → Option Nat} {hd : va_E} : (hd :: tX8 ids h0 f).set 60 (.inl (ids 4, 4, .inr (.inr (.inr (.inr g))))) = hd :: tX8 ids h0 g := ek_sp (t := tX7 ids h0 f) (t2 := tX7 ids h0 g) sT7 (by rw [ltX7]; decide)
def tX9 (ids : Nat → ClassId) (h0 : Nat) (f : Nat → Option Nat) : List va_E := tX8 ids h0 f ++ [.inl (ids 0, 3, .inl (fun _ => 0))]
theorem ltX9 {ids : Nat → ClassId} {h0 : Nat} {f : Nat → Option Nat} : (tX9 ids h0 f).length = 79 := by unfold tX9; rw [List.length_append, ltX8]; rfl
theorem gT9 {ids : Nat → ClassId} {h0 : Nat} {f : Nat → Option Nat} {hd : va_E} : (hd :: tX9 ids h0 f)[60]? = some (.inl (ids 4, 4, .inr (.inr (.inr (.inr f))))) := ek_pr (t := tX8 ids h0 f) gT8
theorem sT9 {ids : Nat → ClassId} {h0 : Nat} {f g : Nat → Option Nat} {hd : va_E} : (hd :: tX9 ids h0 f).set 60 (.inl (ids 4, 4, .inr (.inr (.inr (.inr g))))) = hd :: tX9 ids h0 g := ek_sp (t := tX8 ids h0 f) (t2 := tX8 ids h0 g) sT8 (by rw [ltX8]; decide)
def tX10 (ids : Nat → ClassId) (h0 : Nat) (f : Nat → Option Nat) : List va_E := tX9 ids h0 f ++ [.inl (ids 0, 9, .inl (fun _ => 0))]
theorem ltX10 {ids : Nat → ClassId} {h0 : Nat} {f : Nat → Option Nat} : (tX10 ids h0 f).length = 80 := by unfold tX10; rw [List.length_append, ltX9]; rfl
theorem gT10 {ids : Nat → ClassId} {h0 : Nat} {f : Nat → Option Nat} {hd : va_E} : (hd :: tX10 ids h0 f)[60]? = some (.inl (ids 4, 4, .inr (.inr (.inr (.inr f))))) := ek_pr (t := tX9 ids h0 f) gT9
theorem sT10 {ids : Nat → ClassId} {h0 : Nat} {f g : Nat → Option Nat} {hd : va_E} : (hd :: tX10 ids h0 f).set 60 (.inl (ids 4, 4, .inr (.inr (.inr (.inr g))))) = hd :: tX10 ids h0 g := ek_sp (t := tX9 ids h0 f) (t2 := tX9 ids h0 g) sT9 (by rw [ltX9]; decide)
def tX11 (ids : Nat → ClassId) (h0 : Nat) (f : Nat → Option Nat) : List va_E := tX10 ids h0 f ++ [.inl (ids 0, 26, .inl (fun _ => 0))]
theorem ltX11 {ids : Nat → ClassId} {h0 : Nat} {f : Nat → Option Nat} : (tX11 ids h0 f).length = 81 := by unfold tX11; rw [List.length_append, ltX10]; rfl
theorem gT11 {ids : Nat → ClassId} {h0 : Nat} {f : Nat → Option Nat} {hd : va_E} : (hd :: tX11 ids h0 f)[60]? = some (.inl (ids 4, 4, .inr (.inr (.inr (.inr f))))) := ek_pr (t := tX10 ids h0 f) gT10
theorem sT11 {ids : Nat → ClassId} {h0 : Nat} {f g : Nat → Option Nat} {hd : va_E} : (hd :: tX11 ids h0 f).set 60 (.inl (ids 4, 4, .inr (.inr (.inr (.inr g))))) = hd :: tX11 ids h0 g := ek_sp (t := tX10 ids h0 f) (t2 := tX10 ids h0 g) sT10 (by rw [ltX10]; decide)
def tX12 (ids : Nat → ClassId) (h0 : Nat) (f : Nat → Option Nat) : List va_E := tX11 ids h0 f ++ [.inl (ids 0, 8, .inl (fun _ => 0))]
theorem ltX12 {ids : Nat → ClassId} {h0 : Nat} {f : Nat → Option Nat} : (tX12 ids h0 f).length = 82 := by unfold tX12; rw [List.length_append, ltX11]; rfl
theorem gT12 {ids : Nat → ClassId} {h0 : Nat} {f : Nat → Option Nat} {hd : va_E} : (hd :: tX12 ids h0 f)[60]? = some (.inl (ids 4, 4, .inr (.inr (.inr (.inr f))))) := ek_pr (t := tX11 ids h0 f) gT11
theorem sT12 {ids : Nat → ClassId} {h0 : Nat} {f g : Nat → Option Nat} {hd : va_E} : (hd :: tX12 ids h0 f).set 60 (.inl (ids 4, 4, .inr (.inr (.inr (.inr g))))) = hd :: tX12 ids h0 g := ek_sp (t := tX11 ids h0 f) (t2 := tX11 ids h0 g) sT11 (by rw [ltX11]; decide)
def tX13 (ids : Nat → ClassId) (h0 : Nat) (f : Nat → Option Nat) : List va_E := tX12 ids h0 f ++ [.inl (ids 0, 8, .inl (fun _ => 0))]
theorem ltX13 {ids : Nat → ClassId} {h0 : Nat} {f : Nat → Option Nat} : (tX13 ids h0 f).length = 83 := by unfold tX13; rw [List.length_append, ltX12]; rfl
theorem gT13 {ids : Nat → ClassId} {h0 : Nat} {f : Nat → Option Nat} {hd : va_E} : (hd :: tX13 ids h0 f)[60]? = some (.inl (ids 4, 4, .inr (.inr (.inr (.inr f))))) := ek_pr (t := tX12 ids h0 f) gT12
theorem sT13 {ids : Nat → ClassId} {h0 : Nat} {f g : Nat → Option Nat} {hd : va_E} : (hd :: tX13 ids h0 f).set 60 (.inl (ids 4, 4, .inr (.inr (.inr (.inr g))))) = hd :: tX13 ids h0 g := ek_sp (t := tX12 ids h0 f) (t2 := tX12 ids h0 g) sT12 (by rw [ltX12]; decide)
def tX14 (ids : Nat → ClassId) (h0 : Nat) (f : Nat → Option Nat) : List va_E := tX13 ids h0 f ++ eX8_init ids (h0 + 84)
theorem ltX14 {ids : Nat → ClassId} {h0 : Nat} {f : Nat → Option Nat} : (tX14 ids h0 f).length = 88 := by unfold tX14; rw [List.length_append, ltX13]; rfl
theorem gT14 {ids : Nat → ClassId} {h0 : Nat} {f : Nat → Option Nat} {hd : va_E} : (hd :: tX14 ids h0 f)[60]? = some (.inl (ids 4, 4, .inr (.inr (.inr (.inr f))))) := ek_pr (t := tX13 ids h0 f) gT13
theorem sT14 {ids : Nat → ClassId} {h0 : Nat} {f g : Nat → Option Nat} {hd : va_E} : (hd :: tX14 ids h0 f).set 60 (.inl (ids 4, 4, .inr (.inr (.inr (.inr g))))) = hd :: tX14 ids h0 g := ek_sp (t := tX13 ids h0 f) (t2 := tX13 ids h0 g) sT13 (by rw [ltX13]; decide)
def tX15 (ids : Nat → ClassId) (h0 : Nat) (f : Nat → Option Nat) : List va_E := tX14 ids h0 f ++ eX8_init ids (h0 + 89)
theorem ltX15 {ids : Nat → ClassId} {h0 : Nat} {f : Nat → Option Nat} : (tX15 ids h0 f).length = 93 := by unfold tX15; rw [List.length_append, ltX14]; rfl
theorem gT15 {ids : Nat → ClassId} {h0 : Nat} {f : Nat → Option Nat} {hd : va_E} : (hd :: tX15 ids h0 f)[60]? = some (.inl (ids 4, 4, .inr (.inr (.inr (.inr f))))) := ek_pr (t := tX14 ids h0 f) gT14
theorem sT15 {ids : Nat → ClassId} {h0 : Nat} {f g : Nat → Option Nat} {hd : va_E} : (hd :: tX15 ids h0 f).set 60 (.inl (ids 4, 4, .inr (.inr (.inr (.inr g))))) = hd :: tX15 ids h0 g := ek_sp (t := tX14 ids h0 f) (t2 := tX14 ids h0 g) sT14 (by rw [ltX14]; decide)
def tX16 (ids : Nat → ClassId) (h0 : Nat) (f : Nat → Option Nat) : List va_E := tX15 ids h0 f ++ eX8_init ids (h0 + 94)
theorem ltX16 {ids : Nat → ClassId} {h0 : Nat} {f : Nat → Option Nat} : (tX16 ids h0 f).length = 98 := by unfold tX16; rw [List.length_append, ltX15]; rfl
theorem gT16 {ids : Nat → ClassId} {h0 : Nat} {f : Nat → Option Nat} {hd : va_E} : (hd :: tX16 ids h0 f)[60]? = some (.inl (ids 4, 4, .inr (.inr (.inr (.inr f))))) := ek_pr (t := tX15 ids h0 f) gT15
theorem sT16 {ids : Nat → ClassId} {h0 : Nat} {f g : Nat → Option Nat} {hd : va_E} : (hd :: tX16 ids h0 f).set 60 (.inl (ids 4, 4, .inr (.inr (.inr (.inr g))))) = hd :: tX16 ids h0 g := ek_sp (t := tX15 ids h0 f) (t2 := tX15 ids h0 g) sT15 (by rw [ltX15]; decide)
def tX17 (ids : Nat → ClassId) (h0 : Nat) (f : Nat → Option Nat) : List va_E := tX16 ids h0 f ++ eX8_init ids (h0 + 99)
theorem ltX17 {ids : Nat → ClassId} {h0 : Nat} {f : Nat → Option Nat} : (tX17 ids h0 f).length = 103 := by unfold tX17; rw [List.length_append, ltX16]; rfl
theorem gT17 {ids : Nat → ClassId} {h0 : Nat} {f : Nat → Option Nat} {hd : va_E} : (hd :: tX17 ids h0 f)[60]? = some (.inl (ids 4, 4, .inr (.inr (.inr (.inr f))))) := ek_pr (t := tX16 ids h0 f) gT16
theorem sT17 {ids : Nat → ClassId} {h0 : Nat} {f g : Nat → Option Nat} {hd : va_E} : (hd :: tX17 ids h0 f).set 60 (.inl (ids 4, 4, .inr (.inr (.inr (.inr g))))) = hd :: tX17 ids h0 g := ek_sp (t := tX16 ids h0 f) (t2 := tX16 ids h0 g) sT16 (by rw [ltX16]; decide)
def tX18 (ids : Nat → ClassId) (h0 : Nat) (f : Nat → Option Nat) : List va_E := tX17 ids h0 f ++ eX5_init ids (h0 + 104) ((h0 + 3)) ((h0 + 47))
theorem ltX18 {ids : Nat → ClassId} {h0 : Nat} {f : Nat → Option Nat} : (tX18 ids h0 f).length = 104 := by unfold tX18; rw [List.length_append, ltX17]; rfl
theorem gT18 {ids : Nat → ClassId} {h0 : Nat} {f : Nat → Option Nat} {hd : va_E} : (hd :: tX18 ids h0 f)[60]? = some (.inl (ids 4, 4, .inr (.inr (.inr (.inr f))))) := ek_pr (t := tX17 ids h0 f) gT17
theorem sT18 {ids : Nat → ClassId} {h0 : Nat} {f g : Nat → Option Nat} {hd : va_E} : (hd :: tX18 ids h0 f).set 60 (.inl (ids 4, 4, .inr (.inr (.inr (.inr g))))) = hd :: tX18 ids h0 g := ek_sp (t := tX17 ids h0 f) (t2 := tX17 ids h0 g) sT17 (by rw [ltX17]; decide)
def tX19 (ids : Nat → ClassId) (h0 : Nat) (f : Nat → Option Nat) : List va_E := tX18 ids h0 f ++ eX1_init ids (h0 + 105) ((h0 + 3)) ((h0 + 43))
theorem ltX19 {ids : Nat → ClassId} {h0 : Nat} {f : Nat → Option Nat} : (tX19 ids h0 f).length = 107 := by unfold tX19; rw [List.length_append, ltX18]; rfl
theorem gT19 {ids : Nat → ClassId} {h0 : Nat} {f : Nat → Option Nat} {hd : va_E} : (hd :: tX19 ids h0 f)[60]? = some (.inl (ids 4, 4, .inr (.inr (.inr (.inr f))))) := ek_pr (t := tX18 ids h0 f) gT18
theorem sT19 {ids : Nat → ClassId} {h0 : Nat} {f g : Nat → Option Nat} {hd : va_E} : (hd :: tX19 ids h0 f).set 60 (.inl (ids 4, 4, .inr (.inr (.inr (.inr g))))) = hd :: tX19 ids h0 g := ek_sp (t := tX18 ids h0 f) (t2 := tX18 ids h0 g) sT18 (by rw [ltX18]; decide)
def tX20 (ids : Nat → ClassId) (h0 : Nat) (f : Nat → Option Nat) : List va_E := tX19 ids h0 f ++ eX6_init ids (h0 + 108) ((h0 + 3)) ((h0 + 104)) ((h0 + 105))
theorem ltX20 {ids : Nat → ClassId} {h0 : Nat} {f : Nat → Option Nat} : (tX20 ids h0 f).length = 121 := by unfold tX20; rw [List.length_append, ltX19]; rfl
theorem gT20 {ids : Nat → ClassId} {h0 : Nat} {f : Nat → Option Nat} {hd : va_E} : (hd :: tX20 ids h0 f)[60]? = some (.inl (ids 4, 4, .inr (.inr (.inr (.inr f))))) := ek_pr (t := tX19 ids h0 f) gT19
theorem sT20 {ids : Nat → ClassId} {h0 : Nat} {f g : Nat → Option Nat} {hd : va_E} : (hd :: tX20 ids h0 f).set 60 (.inl (ids 4, 4, .inr (.inr (.inr (.inr g))))) = hd :: tX20 ids h0 g := ek_sp (t := tX19 ids h0 f) (t2 := tX19 ids h0 g) sT19 (by rw [ltX19]; decide)
def eX10_init (ids : Nat → ClassId) (h0 : Nat) : List va_E := .inr (10, [.ref (h0 + 1), .ref (h0 + 3), .ref (h0 + 43), .ref (h0 + 47), .ref (h0 + 60), .ref (h0 + 61), .ref (h0 + 104), .ref (h0 + 105), .ref (h0 + 108), .ref (h0 + 62), .ref (h0 + 66), .ref (h0 + 79), .ref (h0 + 80), .ref (h0 + 81), .ref (h0 + 82), .ref (h0 + 83), .int 0, .int 0]) :: (tX20 ids h0 (va_up (va_up (va_up (va_up (fun _ => none) 0 (some (h0 + 84))) 1 (some (h0 + 89))) 2 (some (h0 + 94))) 3 (some (h0 + 99))))
set_option maxHeartbeats 40000000 in
set_option maxRecDepth 100000 in
theorem kX10_init {ids : Nat → ClassId} {ad : Nat → Nat} {b0 d h0 : Nat} : Ck ids ad b0 (d + 3) 121 5901 mX10_init [] h0 (.inr (10, [.null, .null, .null, .null, .null, .null, .null, .null, .null, .null, .null, .null, .null, .null, .null, .null, .int 0, .int 0])) (eX10_init ids h0) := by
  refine Ck_of rfl rfl (Nat.le_of_ble_eq_true rfl) (ls := [some (.ref h0), none]) rfl ?_
  refine ek_aload_n (x := h0) dX10_init_0 rfl ?_
  refine ek_objInit dX10_init_1 (ev_t1 26 rfl rfl) (ev_t1 27 rfl rfl) (ev_t1 28 rfl rfl) (by omega) ?_
  refine ek_aload_n (x := h0) dX10_init_4 rfl ?_
  refine ek_new dX10_init_5 kn_WithoutE_7 (Nat.le_of_ble_eq_true rfl) (Nat.le_of_ble_eq_true rfl) ?_
  refine Ek.nm (es2 := (.inr (10, [.null, .null, .null, .null, .null, .null, .null, .null, .null, .null, .null, .null, .null, .null, .null, .null, .int 0, .int 0]) :: ([] ++ [.inr (7, [.null, .int 0])]) : List va_E)) (st2 := [.ref (h0 + 1), .ref h0]) (kc2 := 1) (ks2 := 2) List.cons_append (by simp only [List.length_cons, List.length_append, List.length_nil, ltX1, ltX2, ltX3, ltX4, ltX5, ltX6, ltX7, ltX8, ltX9, ltX10, ltX11, ltX12, ltX13, ltX14, ltX15, ltX16, ltX17, ltX18, ltX19, ltX20]) rfl rfl ?_
  refine ek_dup dX10_init_8 rfl ?_
  refine ek_cQN (es := (.inr (10, [.null, .null, .null, .null, .null, .null, .null, .null, .null, .null, .null, .null, .null, .null, .null, .null, .int 0, .int 0]) :: ([]) : List va_E)) (e0 := .inr (7, [.null, .int 0])) (gs := eX7_init ids (h0 + 1)) (st := [.ref (h0 + 1), .ref h0]) [] (h0 + 1) dX10_init_9 kl_X7_init (List.mem_of_getElem? (i := 0) rfl) rfl (Nat.le_of_ble_eq_true rfl) (Nat.le_of_ble_eq_true rfl) (Nat.le_of_ble_eq_true rfl) rfl rfl List.cons_append.symm (by simp only [List.length_cons, List.length_append, List.length_nil, ltX1, ltX2, ltX3, ltX4, ltX5, ltX6, ltX7, ltX8, ltX9, ltX10, ltX11, ltX12, ltX13, ltX14, ltX15, ltX16, ltX17, ltX18, ltX19, ltX20]) (kX7_init (d := d + 1) (h0 := h0 + 1)) ?_
  refine Ek.nm (es2 := (.inr (10, [.null, .null, .null, .null, .null, .null, .null, .null, .null, .null, .null, .null, .null, .null, .null, .null, .int 0, .int 0]) :: (tX1 ids h0 (fun _ => none)) : List va_E)) (st2 := [.ref (h0 + 1), .ref h0]) (kc2 := 2) (ks2 := 302) List.cons_append rfl rfl rfl ?_
  refine ek_putF (i := 0) dX10_init_12 kf_WithoutE_10 rfl (Nat.le_of_ble_eq_true rfl) rfl rfl ?_
  refine Ek.nm (es2 := (.inr (10, [.ref (h0 + 1), .null, .null, .null, .null, .null, .null, .null, .null, .null, .null, .null, .null, .null, .null, .null, .int 0, .int 0]) :: (tX1 ids h0 (fun _ => none)) : List va_E)) (st2 := []) (kc2 := 2) (ks2 := 302) rfl rfl rfl rfl ?_
  refine ek_aload_n (x := h0) dX10_init_15 rfl ?_
  refine ek_new dX10_init_16 kn_WithoutE_16 (Nat.le_of_ble_eq_true rfl) (Nat.le_of_ble_eq_true rfl) ?_
  refine Ek.nm (es2 := (.inr (10, [.ref (h0 + 1), .null, .null, .null, .null, .null, .null, .null, .null, .null, .null, .null, .null, .null, .null, .null, .int 0, .int 0]) :: (tX1 ids h0 (fun _ => none) ++ [.inr (0, [.null, .null, .null, .null, .null, .int 0, .null, .null, .int 0])]) : List va_E)) (st2 := [.ref (h0 + 3), .ref h0]) (kc2 := 3) (ks2 := 311) List.cons_append (by simp only [List.length_cons, List.length_append, List.length_nil, ltX1, ltX2, ltX3, ltX4, ltX5, ltX6, ltX7, ltX8, ltX9, ltX10, ltX11, ltX12, ltX13, ltX14, ltX15, ltX16, ltX17, ltX18, ltX19, ltX20]) rfl rfl ?_
  refine ek_dup dX10_init_19 rfl ?_
  refine ek_cQN (es := (.inr (10, [.ref (h0 + 1), .null, .null, .null, .null, .null, .null, .null, .null, .null, .null, .null, .null, .null, .null, .null, .int 0, .int 0]) :: (tX1 ids h0 (fun _ => none)) : List va_E)) (e0 := .inr (0, [.null, .null, .null, .null, .null, .int 0, .null, .null, .int 0])) (gs := eX0_init ids (h0 + 3)) (st := [.ref (h0 + 3), .ref h0]) [] (h0 + 3) dX10_init_20 kl_X0_init (List.mem_of_getElem? (i := 1) rfl) rfl (Nat.le_of_ble_eq_true rfl) (Nat.le_of_ble_eq_true rfl) (Nat.le_of_ble_eq_true rfl) rfl rfl List.cons_append.symm (by simp only [List.length_cons, List.length_append, List.length_nil, ltX1, ltX2, ltX3, ltX4, ltX5, ltX6, ltX7, ltX8, ltX9, ltX10, ltX11, ltX12, ltX13, ltX14, ltX15, ltX16, ltX17, ltX18, ltX19, ltX20]) (kX0_init (d := d + 1) (h0 := h0 + 3)) ?_
  refine Ek.nm (es2 := (.inr (10, [.ref (h0 + 1), .null, .null, .null, .null, .null, .null, .null, .null, .null, .null, .null, .null, .null, .null, .null, .int 0, .int 0]) :: (tX2 ids h0 (fun _ => none)) : List va_E)) (st2 := [.ref (h0 + 3), .ref h0]) (kc2 := 42) (ks2 := 703) List.cons_append rfl rfl rfl ?_
  refine ek_putF (i := 0) dX10_init_23 kf_WithoutE_19 rfl (Nat.le_of_ble_eq_true rfl) rfl rfl ?_
  refine Ek.nm (es2 := (.inr (10, [.ref (h0 + 1), .ref (h0 + 3), .null, .null, .null, .null, .null, .null, .null, .null, .null, .null, .null, .null, .null, .null, .int 0, .int 0]) :: (tX2 ids h0 (fun _ => none)) : List va_E)) (st2 := []) (kc2 := 42) (ks2 := 703) rfl rfl rfl rfl ?_
  refine ek_aload_n (x := h0) dX10_init_26 rfl ?_
  refine ek_new dX10_init_27 kn_WithoutE_23 (Nat.le_of_ble_eq_true rfl) (Nat.le_of_ble_eq_true rfl) ?_
  refine Ek.nm (es2 := (.inr (10, [.ref (h0 + 1), .ref (h0 + 3), .null, .null, .null, .null, .null, .null, .null, .null, .null, .null, .null, .null, .null, .null, .int 0, .int 0]) :: (tX2 ids h0 (fun _ => none) ++ [.inr (9, [.int 0, .null, .int 0, .int 0, .int 0, .null, .int 0, .null, .int 0, .int 0])]) : List va_E)) (st2 := [.ref (h0 + 43), .ref h0]) (kc2 := 43) (ks2 := 713) List.cons_append (by simp only [List.length_cons, List.length_append, List.length_nil, ltX1, ltX2, ltX3, ltX4, ltX5, ltX6, ltX7, ltX8, ltX9, ltX10, ltX11, ltX12, ltX13, ltX14, ltX15, ltX16, ltX17, ltX18, ltX19, ltX20]) rfl rfl ?_
  refine ek_dup dX10_init_30 rfl ?_
  refine ek_cQN (es := (.inr (10, [.ref (h0 + 1), .ref (h0 + 3), .null, .null, .null, .null, .null, .null, .null, .null, .null, .null, .null, .null, .null, .null, .int 0, .int 0]) :: (tX2 ids h0 (fun _ => none)) : List va_E)) (e0 := .inr (9, [.int 0, .null, .int 0, .int 0, .int 0, .null, .int 0, .null, .int 0, .int 0])) (gs := eX9_init ids (h0 + 43)) (st := [.ref (h0 + 43), .ref h0]) [] (h0 + 43) dX10_init_31 kl_X9_init (List.mem_of_getElem? (i := 2) rfl) rfl (Nat.le_of_ble_eq_true rfl) (Nat.le_of_ble_eq_true rfl) (Nat.le_of_ble_eq_true rfl) rfl rfl List.cons_append.symm (by simp only [List.length_cons, List.length_append, List.length_nil, ltX1, ltX2, ltX3, ltX4, ltX5, ltX6, ltX7, ltX8, ltX9, ltX10, ltX11, ltX12, ltX13, ltX14, ltX15, ltX16, ltX17, ltX18, ltX19, ltX20]) (kX9_init (d := d + 1) (h0 := h0 + 43)) ?_
  refine Ek.nm (es2 := (.inr (10, [.ref (h0 + 1), .ref (h0 + 3), .null, .null, .null, .null, .null, .null, .null, .null, .null, .null, .null, .null, .null, .null, .int 0, .int 0]) :: (tX3 ids h0 (fun _ => none)) : List va_E)) (st2 := [.ref (h0 + 43), .ref h0]) (kc2 := 46) (ks2 := 2029) List.cons_append rfl rfl rfl ?_
  refine ek_putF (i := 0) dX10_init_34 kf_WithoutE_26 rfl (Nat.le_of_ble_eq_true rfl) rfl rfl ?_
  refine Ek.nm (es2 := (.inr (10, [.ref (h0 + 1), .ref (h0 + 3), .ref (h0 + 43), .null, .null, .null, .null, .null, .null, .null, .null, .null, .null, .null, .null, .null, .int 0, .int 0]) :: (tX3 ids h0 (fun _ => none)) : List va_E)) (st2 := []) (kc2 := 46) (ks2 := 2029) rfl rfl rfl rfl ?_
  refine ek_aload_n (x := h0) dX10_init_37 rfl ?_
  refine ek_new dX10_init_38 kn_WithoutE_30 (Nat.le_of_ble_eq_true rfl) (Nat.le_of_ble_eq_true rfl) ?_
  refine Ek.nm (es2 := (.inr (10, [.ref (h0 + 1), .ref (h0 + 3), .ref (h0 + 43), .null, .null, .null, .null, .null, .null, .null, .null, .null, .null, .null, .null, .null, .int 0, .int 0]) :: (tX3 ids h0 (fun _ => none) ++ [.inr (3, [.null, .null, .int 0, .int 0, .null, .int 0, .null, .null, .int 0, .null, .null, .int 0])]) : List va_E)) (st2 := [.ref (h0 + 47), .ref h0]) (kc2 := 47) (ks2 := 2041) List.cons_append (by simp only [List.length_cons, List.length_append, List.length_nil, ltX1, ltX2, ltX3, ltX4, ltX5, ltX6, ltX7, ltX8, ltX9, ltX10, ltX11, ltX12, ltX13, ltX14, ltX15, ltX16, ltX17, ltX18, ltX19, ltX20]) rfl rfl ?_
  refine ek_dup dX10_init_41 rfl ?_
  refine ek_cQI (es := (.inr (10, [.ref (h0 + 1), .ref (h0 + 3), .ref (h0 + 43), .null, .null, .null, .null, .null, .null, .null, .null, .null, .null, .null, .null, .null, .int 0, .int 0]) :: (tX3 ids h0 (fun _ => none)) : List va_E)) (e0 := .inr (3, [.null, .null, .int 0, .int 0, .null, .int 0, .null, .null, .int 0, .null, .null, .int 0])) (gs := eX3_init ids (h0 + 47)) (st := [.ref (h0 + 47), .ref h0]) [] (h0 + 47) dX10_init_42 kl_X3_init (ev_t1 151 rfl rfl) rfl (Nat.le_of_ble_eq_true rfl) (Nat.le_of_ble_eq_true rfl) (Nat.le_of_ble_eq_true rfl) rfl rfl List.cons_append.symm (by simp only [List.length_cons, List.length_append, List.length_nil, ltX1, ltX2, ltX3, ltX4, ltX5, ltX6, ltX7, ltX8, ltX9, ltX10, ltX11, ltX12, ltX13, ltX14, ltX15, ltX16, ltX17, ltX18, ltX19, ltX20]) (kX3_init (d := d + 1) (h0 := h0 + 47)) ?_
  refine Ek.nm (es2 := (.inr (10, [.ref (h0 + 1), .ref (h0 + 3), .ref (h0 + 43), .null, .null, .null, .null, .null, .null, .null, .null, .null, .null, .null, .null, .null, .int 0, .int 0]) :: (tX4 ids h0 (fun _ => none)) : List va_E)) (st2 := [.ref (h0 + 47), .ref h0]) (kc2 := 59) (ks2 := 2172) List.cons_append rfl rfl rfl ?_
  refine ek_putF (i := 0) dX10_init_45 kf_WithoutE_33 rfl (Nat.le_of_ble_eq_true rfl) rfl rfl ?_
  refine Ek.nm (es2 := (.inr (10, [.ref (h0 + 1), .ref (h0 + 3), .ref (h0 + 43), .ref (h0 + 47), .null, .null, .null, .null, .null, .null, .null, .null, .null, .null, .null, .null, .int 0, .int 0]) :: (tX4 ids h0 (fun _ => none)) : List va_E)) (st2 := []) (kc2 := 59) (ks2 := 2172) rfl rfl rfl rfl ?_
  refine ek_aload_n (x := h0) dX10_init_48 rfl ?_
  refine ek_iconst (v := 4) dX10_init_49 (by decide) ?_
  refine ek_anew (N := 4) dX10_init_50 rfl (ev_t1 210 rfl rfl) (nI_pos (n := 4) (by decide)) (nI_clamp (n := 4) (by decide)) (by decide) (Nat.le_of_ble_eq_true rfl) (Nat.le_of_ble_eq_true rfl) ?_
  refine Ek.nm (es2 := (.inr (10, [.ref (h0 + 1), .ref (h0 + 3), .ref (h0 + 43), .ref (h0 + 47), .null, .null, .null, .null, .null, .null, .null, .null, .null, .null, .null, .null, .int 0, .int 0]) :: (tX5 ids h0 (fun _ => none)) : List va_E)) (st2 := [.ref (h0 + 60), .ref h0]) (kc2 := 60) (ks2 := 2176) List.cons_append (by simp only [List.length_cons, List.length_append, List.length_nil, ltX1, ltX2, ltX3, ltX4, ltX5, ltX6, ltX7, ltX8, ltX9, ltX10, ltX11, ltX12, ltX13, ltX14, ltX15, ltX16, ltX17, ltX18, ltX19, ltX20]) rfl rfl ?_
  refine ek_putF (i := 0) dX10_init_53 kf_WithoutE_39 rfl (Nat.le_of_ble_eq_true rfl) rfl rfl ?_
  refine Ek.nm (es2 := (.inr (10, [.ref (h0 + 1), .ref (h0 + 3), .ref (h0 + 43), .ref (h0 + 47), .ref (h0 + 60), .null, .null, .null, .null, .null, .null, .null, .null, .null, .null, .null, .int 0, .int 0]) :: (tX5 ids h0 (fun _ => none)) : List va_E)) (st2 := []) (kc2 := 60) (ks2 := 2176) rfl rfl rfl rfl ?_
  refine ek_aload_n (x := h0) dX10_init_56 rfl ?_
  refine ek_new dX10_init_57 kn_WithoutE_43 (Nat.le_of_ble_eq_true rfl) (Nat.le_of_ble_eq_true rfl) ?_
  refine Ek.nm (es2 := (.inr (10, [.ref (h0 + 1), .ref (h0 + 3), .ref (h0 + 43), .ref (h0 + 47), .ref (h0 + 60), .null, .null, .null, .null, .null, .null, .null, .null, .null, .null, .null, .int 0, .int 0]) :: (tX5 ids h0 (fun _ => none) ++ [.inr (4, [.null, .null, .int 0, .int 0, .int 0, .int 0, .int 0, .int 0, .int 0])]) : List va_E)) (st2 := [.ref (h0 + 61), .ref h0]) (kc2 := 61) (ks2 := 2185) List.cons_append (by simp only [List.length_cons, List.length_append, List.length_nil, ltX1, ltX2, ltX3, ltX4, ltX5, ltX6, ltX7, ltX8, ltX9, ltX10, ltX11, ltX12, ltX13, ltX14, ltX15, ltX16, ltX17, ltX18, ltX19, ltX20]) rfl rfl ?_
  refine ek_dup dX10_init_60 rfl ?_
  refine ek_aload_n (x := h0) dX10_init_61 rfl ?_
  refine ek_get (i := 0) (v := .ref (h0 + 1)) dX10_init_62 kg_WithoutE_10 rfl rfl ?_
  refine ek_cQI (es := (.inr (10, [.ref (h0 + 1), .ref (h0 + 3), .ref (h0 + 43), .ref (h0 + 47), .ref (h0 + 60), .null, .null, .null, .null, .null, .null, .null, .null, .null, .null, .null, .int 0, .int 0]) :: (tX5 ids h0 (fun _ => none)) : List va_E)) (e0 := .inr (4, [.null, .null, .int 0, .int 0, .int 0, .int 0, .int 0, .int 0, .int 0])) (gs := eX4_init ids (h0 + 61) ((h0 + 1))) (st := [.ref (h0 + 61), .ref h0]) [.ref (h0 + 1)] (h0 + 61) dX10_init_65 kl_X4_init (ev_t1 214 rfl rfl) rfl (Nat.le_of_ble_eq_true rfl) (Nat.le_of_ble_eq_true rfl) (Nat.le_of_ble_eq_true rfl) rfl rfl List.cons_append.symm (by simp only [List.length_cons, List.length_append, List.length_nil, ltX1, ltX2, ltX3, ltX4, ltX5, ltX6, ltX7, ltX8, ltX9, ltX10, ltX11, ltX12, ltX13, ltX14, ltX15, ltX16, ltX17, ltX18, ltX19, ltX20]) (kX4_init (d := d + 1) (h0 := h0 + 61) (a1 := (h0 + 1))) ?_
  refine Ek.nm (es2 := (.inr (10, [.ref (h0 + 1), .ref (h0 + 3), .ref (h0 + 43), .ref (h0 + 47), .ref (h0 + 60), .null, .null, .null, .null, .null, .null, .null, .null, .null, .null, .null, .int 0, .int 0]) :: (tX6 ids h0 (fun _ => none)) : List va_E)) (st2 := [.ref (h0 + 61), .ref h0]) (kc2 := 61) (ks2 := 2185) List.cons_append rfl rfl rfl ?_
  refine ek_putF (i := 0) dX10_init_68 kf_WithoutE_48 rfl (Nat.le_of_ble_eq_true rfl) rfl rfl ?_
  refine Ek.nm (es2 := (.inr (10, [.ref (h0 + 1), .ref (h0 + 3), .ref (h0 + 43), .ref (h0 + 47), .ref (h0 + 60), .ref (h0 + 61), .null, .null, .null, .null, .null, .null, .null, .null, .null, .null, .int 0, .int 0]) :: (tX6 ids h0 (fun _ => none)) : List va_E)) (st2 := []) (kc2 := 61) (ks2 := 2185) rfl rfl rfl rfl ?_
  refine ek_aload_n (x := h0) dX10_init_71 rfl ?_
  refine ek_new dX10_init_72 kn_WithoutE_23 (Nat.le_of_ble_eq_true rfl) (Nat.le_of_ble_eq_true rfl) ?_
  refine Ek.nm (es2 := (.inr (10, [.ref (h0 + 1), .ref (h0 + 3), .ref (h0 + 43), .ref (h0 + 47), .ref (h0 + 60), .ref (h0 + 61), .null, .null, .null, .null, .null, .null, .null, .null, .null, .null, .int 0, .int 0]) :: (tX6 ids h0 (fun _ => none) ++ [.inr (9, [.int 0, .null, .int 0, .int 0, .int 0, .null, .int 0, .null, .int 0, .int 0])]) : List va_E)) (st2 := [.ref (h0 + 62), .ref h0]) (kc2 := 62) (ks2 := 2195) List.cons_append (by simp only [List.length_cons, List.length_append, List.length_nil, ltX1, ltX2, ltX3, ltX4, ltX5, ltX6, ltX7, ltX8, ltX9, ltX10, ltX11, ltX12, ltX13, ltX14, ltX15, ltX16, ltX17, ltX18, ltX19, ltX20]) rfl rfl ?_
  refine ek_dup dX10_init_75 rfl ?_
  refine ek_cQN (es := (.inr (10, [.ref (h0 + 1), .ref (h0 + 3), .ref (h0 + 43), .ref (h0 + 47), .ref (h0 + 60), .ref (h0 + 61), .null, .null, .null, .null, .null, .null, .null, .null, .null, .null, .int 0, .int 0]) :: (tX6 ids h0 (fun _ => none)) : List va_E)) (e0 := .inr (9, [.int 0, .null, .int 0, .int 0, .int 0, .null, .int 0, .null, .int 0, .int 0])) (gs := eX9_init ids (h0 + 62)) (st := [.ref (h0 + 62), .ref h0]) [] (h0 + 62) dX10_init_76 kl_X9_init (List.mem_of_getElem? (i := 2) rfl) rfl (Nat.le_of_ble_eq_true rfl) (Nat.le_of_ble_eq_true rfl) (Nat.le_of_ble_eq_true rfl) rfl rfl List.cons_append.symm (by simp only [List.length_cons, List.length_append, List.length_nil, ltX1, ltX2, ltX3, ltX4, ltX5, ltX6, ltX7, ltX8, ltX9, ltX10, ltX11, ltX12, ltX13, ltX14, ltX15, ltX16, ltX17, ltX18, ltX19, ltX20]) (kX9_init (d := d + 1) (h0 := h0 + 62)) ?_
  refine Ek.nm (es2 := (.inr (10, [.ref (h0 + 1), .ref (h0 + 3), .ref (h0 + 43), .ref (h0 + 47), .ref (h0 + 60), .ref (h0 + 61), .null, .null, .null, .null, .null, .null, .null, .null, .null, .null, .int 0, .int 0]) :: (tX7 ids h0 (fun _ => none)) : List va_E)) (st2 := [.ref (h0 + 62), .ref h0]) (kc2 := 65) (ks2 := 3511) List.cons_append rfl rfl rfl ?_
  refine ek_putF (i := 0) dX10_init_79 kf_WithoutE_52 rfl (Nat.le_of_ble_eq_true rfl) rfl rfl ?_
  refine Ek.nm (es2 := (.inr (10, [.ref (h0 + 1), .ref (h0 + 3), .ref (h0 + 43), .ref (h0 + 47), .ref (h0 + 60), .ref (h0 + 61), .null, .null, .null, .ref (h0 + 62), .null, .null, .null, .null, .null, .null, .int 0, .int 0]) :: (tX7 ids h0 (fun _ => none)) : List va_E)) (st2 := []) (kc2 := 65) (ks2 := 3511) rfl rfl rfl rfl ?_
  refine ek_aload_n (x := h0) dX10_init_82 rfl ?_
  refine ek_new dX10_init_83 kn_WithoutE_30 (Nat.le_of_ble_eq_true rfl) (Nat.le_of_ble_eq_true rfl) ?_
  refine Ek.nm (es2 := (.inr (10, [.ref (h0 + 1), .ref (h0 + 3), .ref (h0 + 43), .ref (h0 + 47), .ref (h0 + 60), .ref (h0 + 61), .null, .null, .null, .ref (h0 + 62), .null, .null, .null, .null, .null, .null, .int 0, .int 0]) :: (tX7 ids h0 (fun _ => none) ++ [.inr (3, [.null, .null, .int 0, .int 0, .null, .int 0, .null, .null, .int 0, .null, .null, .int 0])]) : List va_E)) (st2 := [.ref (h0 + 66), .ref h0]) (kc2 := 66) (ks2 := 3523) List.cons_append (by simp only [List.length_cons, List.length_append, List.length_nil, ltX1, ltX2, ltX3, ltX4, ltX5, ltX6, ltX7, ltX8, ltX9, ltX10, ltX11, ltX12, ltX13, ltX14, ltX15, ltX16, ltX17, ltX18, ltX19, ltX20]) rfl rfl ?_
  refine ek_dup dX10_init_86 rfl ?_
  refine ek_cQI (es := (.inr (10, [.ref (h0 + 1), .ref (h0 + 3), .ref (h0 + 43), .ref (h0 + 47), .ref (h0 + 60), .ref (h0 + 61), .null, .null, .null, .ref (h0 + 62), .null, .null, .null, .null, .null, .null, .int 0, .int 0]) :: (tX7 ids h0 (fun _ => none)) : List va_E)) (e0 := .inr (3, [.null, .null, .int 0, .int 0, .null, .int 0, .null, .null, .int 0, .null, .null, .int 0])) (gs := eX3_init ids (h0 + 66)) (st := [.ref (h0 + 66), .ref h0]) [] (h0 + 66) dX10_init_87 kl_X3_init (ev_t1 151 rfl rfl) rfl (Nat.le_of_ble_eq_true rfl) (Nat.le_of_ble_eq_true rfl) (Nat.le_of_ble_eq_true rfl) rfl rfl List.cons_append.symm (by simp only [List.length_cons, List.length_append, List.length_nil, ltX1, ltX2, ltX3, ltX4, ltX5, ltX6, ltX7, ltX8, ltX9, ltX10, ltX11, ltX12, ltX13, ltX14, ltX15, ltX16, ltX17, ltX18, ltX19, ltX20]) (kX3_init (d := d + 1) (h0 := h0 + 66)) ?_
  refine Ek.nm (es2 := (.inr (10, [.ref (h0 + 1), .ref (h0 + 3), .ref (h0 + 43), .ref (h0 + 47), .ref (h0 + 60), .ref (h0 + 61), .null, .null, .null, .ref (h0 + 62), .null, .null, .null, .null, .null, .null, .int 0, .int 0]) :: (tX8 ids h0 (fun _ => none)) : List va_E)) (st2 := [.ref (h0 + 66), .ref h0]) (kc2 := 78) (ks2 := 3654) List.cons_append rfl rfl rfl ?_
  refine ek_putF (i := 0) dX10_init_90 kf_WithoutE_55 rfl (Nat.le_of_ble_eq_true rfl) rfl rfl ?_
  refine Ek.nm (es2 := (.inr (10, [.ref (h0 + 1), .ref (h0 + 3), .ref (h0 + 43), .ref (h0 + 47), .ref (h0 + 60), .ref (h0 + 61), .null, .null, .null, .ref (h0 + 62), .ref (h0 + 66), .null, .null, .null, .null, .null, .int 0, .int 0]) :: (tX8 ids h0 (fun _ => none)) : List va_E)) (st2 := []) (kc2 := 78) (ks2 := 3654) rfl rfl rfl rfl ?_
  refine ek_aload_n (x := h0) dX10_init_93 rfl ?_
  refine ek_iconst (v := 3) dX10_init_94 (by decide) ?_
  refine ek_newa (t := 0) (N := 3) (a0 := (3, .inl (fun _ => 0))) dX10_init_95 (ev_t1 46 rfl rfl) rfl rfl (fun _ => rfl) (nI_pos (n := 3) (by decide)) (nI_clamp (n := 3) (by decide)) (by decide) (Nat.le_of_ble_eq_true rfl) (Nat.le_of_ble_eq_true rfl) ?_
  refine Ek.nm (es2 := (.inr (10, [.ref (h0 + 1), .ref (h0 + 3), .ref (h0 + 43), .ref (h0 + 47), .ref (h0 + 60), .ref (h0 + 61), .null, .null, .null, .ref (h0 + 62), .ref (h0 + 66), .null, .null, .null, .null, .null, .int 0, .int 0]) :: (tX9 ids h0 (fun _ => none)) : List va_E)) (st2 := [.ref (h0 + 79), .ref h0]) (kc2 := 79) (ks2 := 3657) List.cons_append (by simp only [List.length_cons, List.length_append, List.length_nil, ltX1, ltX2, ltX3, ltX4, ltX5, ltX6, ltX7, ltX8, ltX9, ltX10, ltX11, ltX12, ltX13, ltX14, ltX15, ltX16, ltX17, ltX18, ltX19, ltX20]) rfl rfl ?_
  refine ek_putF (i := 0) dX10_init_97 kf_WithoutE_58 rfl (Nat.le_of_ble_eq_true rfl) rfl rfl ?_
  refine Ek.nm (es2 := (.inr (10, [.ref (h0 + 1), .ref (h0 + 3), .ref (h0 + 43), .ref (h0 + 47), .ref (h0 + 60), .ref (h0 + 61), .null, .null, .null, .ref (h0 + 62), .ref (h0 + 66), .ref (h0 + 79), .null, .null, .null, .null, .int 0, .int 0]) :: (tX9 ids h0 (fun _ => none)) : List va_E)) (st2 := []) (kc2 := 79) (ks2 := 3657) rfl rfl rfl rfl ?_
  refine ek_aload_n (x := h0) dX10_init_100 rfl ?_
  refine ek_bipush (v := 9) dX10_init_101 (by decide) ?_
  refine ek_newa (t := 0) (N := 9) (a0 := (9, .inl (fun _ => 0))) dX10_init_103 (ev_t1 46 rfl rfl) rfl rfl (fun _ => rfl) (nI_pos (n := 9) (by decide)) (nI_clamp (n := 9) (by decide)) (by decide) (Nat.le_of_ble_eq_true rfl) (Nat.le_of_ble_eq_true rfl) ?_
  refine Ek.nm (es2 := (.inr (10, [.ref (h0 + 1), .ref (h0 + 3), .ref (h0 + 43), .ref (h0 + 47), .ref (h0 + 60), .ref (h0 + 61), .null, .null, .null, .ref (h0 + 62), .ref (h0 + 66), .ref (h0 + 79), .null, .null, .null, .null, .int 0, .int 0]) :: (tX10 ids h0 (fun _ => none)) : List va_E)) (st2 := [.ref (h0 + 80), .ref h0]) (kc2 := 80) (ks2 := 3666) List.cons_append (by simp only [List.length_cons, List.length_append, List.length_nil, ltX1, ltX2, ltX3, ltX4, ltX5, ltX6, ltX7, ltX8, ltX9, ltX10, ltX11, ltX12, ltX13, ltX14, ltX15, ltX16, ltX17, ltX18, ltX19, ltX20]) rfl rfl ?_
  refine ek_putF (i := 0) dX10_init_105 kf_WithoutE_62 rfl (Nat.le_of_ble_eq_true rfl) rfl rfl ?_
  refine Ek.nm (es2 := (.inr (10, [.ref (h0 + 1), .ref (h0 + 3), .ref (h0 + 43), .ref (h0 + 47), .ref (h0 + 60), .ref (h0 + 61), .null, .null, .null, .ref (h0 + 62), .ref (h0 + 66), .ref (h0 + 79), .ref (h0 + 80), .null, .null, .null, .int 0, .int 0]) :: (tX10 ids h0 (fun _ => none)) : List va_E)) (st2 := []) (kc2 := 80) (ks2 := 3666) rfl rfl rfl rfl ?_
  refine ek_aload_n (x := h0) dX10_init_108 rfl ?_
  refine ek_bipush (v := 26) dX10_init_109 (by decide) ?_
  refine ek_newa (t := 0) (N := 26) (a0 := (26, .inl (fun _ => 0))) dX10_init_111 (ev_t1 46 rfl rfl) rfl rfl (fun _ => rfl) (nI_pos (n := 26) (by decide)) (nI_clamp (n := 26) (by decide)) (by decide) (Nat.le_of_ble_eq_true rfl) (Nat.le_of_ble_eq_true rfl) ?_
  refine Ek.nm (es2 := (.inr (10, [.ref (h0 + 1), .ref (h0 + 3), .ref (h0 + 43), .ref (h0 + 47), .ref (h0 + 60), .ref (h0 + 61), .null, .null, .null, .ref (h0 + 62), .ref (h0 + 66), .ref (h0 + 79), .ref (h0 + 80), .null, .null, .null, .int 0, .int 0]) :: (tX11 ids h0 (fun _ => none)) : List va_E)) (st2 := [.ref (h0 + 81), .ref h0]) (kc2 := 81) (ks2 := 3692) List.cons_append (by simp only [List.length_cons, List.length_append, List.length_nil, ltX1, ltX2, ltX3, ltX4, ltX5, ltX6, ltX7, ltX8, ltX9, ltX10, ltX11, ltX12, ltX13, ltX14, ltX15, ltX16, ltX17, ltX18, ltX19, ltX20]) rfl rfl ?_
  refine ek_putF (i := 0) dX10_init_113 kf_WithoutE_65 rfl (Nat.le_of_ble_eq_true rfl) rfl rfl ?_
  refine Ek.nm (es2 := (.inr (10, [.ref (h0 + 1), .ref (h0 + 3), .ref (h0 + 43), .ref (h0 + 47), .ref (h0 + 60), .ref (h0 + 61), .null, .null, .null, .ref (h0 + 62), .ref (h0 + 66), .ref (h0 + 79), .ref (h0 + 80), .ref (h0 + 81), .null, .null, .int 0, .int 0]) :: (tX11 ids h0 (fun _ => none)) : List va_E)) (st2 := []) (kc2 := 81) (ks2 := 3692) rfl rfl rfl rfl ?_
  refine ek_aload_n (x := h0) dX10_init_116 rfl ?_
  refine ek_bipush (v := 8) dX10_init_117 (by decide) ?_
  refine ek_newa (t := 0) (N := 8) (a0 := (8, .inl (fun _ => 0))) dX10_init_119 (ev_t1 46 rfl rfl) rfl rfl (fun _ => rfl) (nI_pos (n := 8) (by decide)) (nI_clamp (n := 8) (by decide)) (by decide) (Nat.le_of_ble_eq_true rfl) (Nat.le_of_ble_eq_true rfl) ?_
  refine Ek.nm (es2 := (.inr (10, [.ref (h0 + 1), .ref (h0 + 3), .ref (h0 + 43), .ref (h0 + 47), .ref (h0 + 60), .ref (h0 + 61), .null, .null, .null, .ref (h0 + 62), .ref (h0 + 66), .ref (h0 + 79), .ref (h0 + 80), .ref (h0 + 81), .null, .null, .int 0, .int 0]) :: (tX12 ids h0 (fun _ => none)) : List va_E)) (st2 := [.ref (h0 + 82), .ref h0]) (kc2 := 82) (ks2 := 3700) List.cons_append (by simp only [List.length_cons, List.length_append, List.length_nil, ltX1, ltX2, ltX3, ltX4, ltX5, ltX6, ltX7, ltX8, ltX9, ltX10, ltX11, ltX12, ltX13, ltX14, ltX15, ltX16, ltX17, ltX18, ltX19, ltX20]) rfl rfl ?_
  refine ek_putF (i := 0) dX10_init_121 kf_WithoutE_68 rfl (Nat.le_of_ble_eq_true rfl) rfl rfl ?_
  refine Ek.nm (es2 := (.inr (10, [.ref (h0 + 1), .ref (h0 + 3), .ref (h0 + 43), .ref (h0 + 47), .ref (h0 + 60), .ref (h0 + 61), .null, .null, .null, .ref (h0 + 62), .ref (h0 + 66), .ref (h0 + 79), .ref (h0 + 80), .ref (h0 + 81), .ref (h0 + 82), .null, .int 0, .int 0]) :: (tX12 ids h0 (fun _ => none)) : List va_E)) (st2 := []) (kc2 := 82) (ks2 := 3700) rfl rfl rfl rfl ?_
  refine ek_aload_n (x := h0) dX10_init_124 rfl ?_
  refine ek_bipush (v := 8) dX10_init_125 (by decide) ?_
  refine ek_newa (t := 0) (N := 8) (a0 := (8, .inl (fun _ => 0))) dX10_init_127 (ev_t1 46 rfl rfl) rfl rfl (fun _ => rfl) (nI_pos (n := 8) (by decide)) (nI_clamp (n := 8) (by decide)) (by decide) (Nat.le_of_ble_eq_true rfl) (Nat.le_of_ble_eq_true rfl) ?_
  refine Ek.nm (es2 := (.inr (10, [.ref (h0 + 1), .ref (h0 + 3), .ref (h0 + 43), .ref (h0 + 47), .ref (h0 + 60), .ref (h0 + 61), .null, .null, .null, .ref (h0 + 62), .ref (h0 + 66), .ref (h0 + 79), .ref (h0 + 80), .ref (h0 + 81), .ref (h0 + 82), .null, .int 0, .int 0]) :: (tX13 ids h0 (fun _ => none)) : List va_E)) (st2 := [.ref (h0 + 83), .ref h0]) (kc2 := 83) (ks2 := 3708) List.cons_append (by simp only [List.length_cons, List.length_append, List.length_nil, ltX1, ltX2, ltX3, ltX4, ltX5, ltX6, ltX7, ltX8, ltX9, ltX10, ltX11, ltX12, ltX13, ltX14, ltX15, ltX16, ltX17, ltX18, ltX19, ltX20]) rfl rfl ?_
  refine ek_putF (i := 0) dX10_init_129 kf_WithoutE_71 rfl (Nat.le_of_ble_eq_true rfl) rfl rfl ?_
  refine Ek.nm (es2 := (.inr (10, [.ref (h0 + 1), .ref (h0 + 3), .ref (h0 + 43), .ref (h0 + 47), .ref (h0 + 60), .ref (h0 + 61), .null, .null, .null, .ref (h0 + 62), .ref (h0 + 66), .ref (h0 + 79), .ref (h0 + 80), .ref (h0 + 81), .ref (h0 + 82), .ref (h0 + 83), .int 0, .int 0]) :: (tX13 ids h0 (fun _ => none)) : List va_E)) (st2 := []) (kc2 := 83) (ks2 := 3708) rfl rfl rfl rfl ?_
  refine ek_iconst (v := 0) dX10_init_132 (by decide) ?_
  refine ek_istore_n (ls2 := [some (.ref h0), some (.int 0)]) dX10_init_133 (Nat.le_of_ble_eq_true rfl) rfl ?_
  refine ek_iload_n dX10_init_134 rfl ?_
  refine ek_iconst (v := 4) dX10_init_135 (by decide) ?_
  refine ek_icmp_ge (tgt := 158) dX10_init_136 (by decide) (fun q => absurd q (by decide)) (fun _ => ?_)
  refine ek_aload_n (x := h0) dX10_init_139 rfl ?_
  refine ek_get (i := 0) (v := .ref (h0 + 60)) dX10_init_140 kg_WithoutE_39 rfl rfl ?_
  refine ek_iload_n dX10_init_143 rfl ?_
  refine ek_new dX10_init_144 kn_WithoutE_37 (Nat.le_of_ble_eq_true rfl) (Nat.le_of_ble_eq_true rfl) ?_
  refine Ek.nm (es2 := (.inr (10, [.ref (h0 + 1), .ref (h0 + 3), .ref (h0 + 43), .ref (h0 + 47), .ref (h0 + 60), .ref (h0 + 61), .null, .null, .null, .ref (h0 + 62), .ref (h0 + 66), .ref (h0 + 79), .ref (h0 + 80), .ref (h0 + 81), .ref (h0 + 82), .ref (h0 + 83), .int 0, .int 0]) :: (tX13 ids h0 (fun _ => none) ++ [.inr (8, [.null, .int 0, .null, .null, .int 0, .null])]) : List va_E)) (st2 := [.ref (h0 + 84), .int 0, .ref (h0 + 60)]) (kc2 := 84) (ks2 := 3714) List.cons_append (by simp only [List.length_cons, List.length_append, List.length_nil, ltX1, ltX2, ltX3, ltX4, ltX5, ltX6, ltX7, ltX8, ltX9, ltX10, ltX11, ltX12, ltX13, ltX14, ltX15, ltX16, ltX17, ltX18, ltX19, ltX20]) rfl rfl ?_
  refine ek_dup dX10_init_147 rfl ?_
  refine ek_cQN (es := (.inr (10, [.ref (h0 + 1), .ref (h0 + 3), .ref (h0 + 43), .ref (h0 + 47), .ref (h0 + 60), .ref (h0 + 61), .null, .null, .null, .ref (h0 + 62), .ref (h0 + 66), .ref (h0 + 79), .ref (h0 + 80), .ref (h0 + 81), .ref (h0 + 82), .ref (h0 + 83), .int 0, .int 0]) :: (tX13 ids h0 (fun _ => none)) : List va_E)) (e0 := .inr (8, [.null, .int 0, .null, .null, .int 0, .null])) (gs := eX8_init ids (h0 + 84)) (st := [.ref (h0 + 84), .int 0, .ref (h0 + 60)]) [] (h0 + 84) dX10_init_148 kl_X8_init (List.mem_of_getElem? (i := 3) rfl) rfl (Nat.le_of_ble_eq_true rfl) (Nat.le_of_ble_eq_true rfl) (Nat.le_of_ble_eq_true rfl) rfl rfl List.cons_append.symm (by simp only [List.length_cons, List.length_append, List.length_nil, ltX1, ltX2, ltX3, ltX4, ltX5, ltX6, ltX7, ltX8, ltX9, ltX10, ltX11, ltX12, ltX13, ltX14, ltX15, ltX16, ltX17, ltX18, ltX19, ltX20]) (kX8_init (d := d + 1) (h0 := h0 + 84)) ?_
  refine Ek.nm (es2 := (.inr (10, [.ref (h0 + 1), .ref (h0 + 3), .ref (h0 + 43), .ref (h0 + 47), .ref (h0 + 60), .ref (h0 + 61), .null, .null, .null, .ref (h0 + 62), .ref (h0 + 66), .ref (h0 + 79), .ref (h0 + 80), .ref (h0 + 81), .ref (h0 + 82), .ref (h0 + 83), .int 0, .int 0]) :: (tX14 ids h0 (fun _ => none)) : List va_E)) (st2 := [.ref (h0 + 84), .int 0, .ref (h0 + 60)]) (kc2 := 88) (ks2 := 4065) List.cons_append rfl rfl rfl ?_
  refine ek_aaQ (i := 60) (iv := 84) (J := 0) dX10_init_151 gT14 (ek_lst (t := tX13 ids h0 (fun _ => none)) ltX13 rfl) rfl (by unfold vp_in; decide) (by decide) sT14 ?_
  refine Ek.nm (es2 := (.inr (10, [.ref (h0 + 1), .ref (h0 + 3), .ref (h0 + 43), .ref (h0 + 47), .ref (h0 + 60), .ref (h0 + 61), .null, .null, .null, .ref (h0 + 62), .ref (h0 + 66), .ref (h0 + 79), .ref (h0 + 80), .ref (h0 + 81), .ref (h0 + 82), .ref (h0 + 83), .int 0, .int 0]) :: (tX14 ids h0 (va_up (fun _ => none) 0 (some (h0 + 84)))) : List va_E)) (st2 := []) (kc2 := 88) (ks2 := 4065) rfl rfl rfl rfl ?_
  refine ek_iinc (v := 1) (ls2 := [some (.ref h0), some (.int 1)]) dX10_init_152 rfl (by decide) rfl ?_
  refine ek_goto (tgt := 134) dX10_init_155 (by decide) ?_
  refine ek_iload_n dX10_init_134 rfl ?_
  refine ek_iconst (v := 4) dX10_init_135 (by decide) ?_
  refine ek_icmp_ge (tgt := 158) dX10_init_136 (by decide) (fun q => absurd q (by decide)) (fun _ => ?_)
  refine ek_aload_n (x := h0) dX10_init_139 rfl ?_
  refine ek_get (i := 0) (v := .ref (h0 + 60)) dX10_init_140 kg_WithoutE_39 rfl rfl ?_
  refine ek_iload_n dX10_init_143 rfl ?_
  refine ek_new dX10_init_144 kn_WithoutE_37 (Nat.le_of_ble_eq_true rfl) (Nat.le_of_ble_eq_true rfl) ?_
  refine Ek.nm (es2 := (.inr (10, [.ref (h0 + 1), .ref (h0 + 3), .ref (h0 + 43), .ref (h0 + 47), .ref (h0 + 60), .ref (h0 + 61), .null, .null, .null, .ref (h0 + 62), .ref (h0 + 66), .ref (h0 + 79), .ref (h0 + 80), .ref (h0 + 81), .ref (h0 + 82), .ref (h0 + 83), .int 0, .int 0]) :: (tX14 ids h0 (va_up (fun _ => none) 0 (some (h0 + 84))) ++ [.inr (8, [.null, .int 0, .null, .null, .int 0, .null])]) : List va_E)) (st2 := [.ref (h0 + 89), .int 1, .ref (h0 + 60)]) (kc2 := 89) (ks2 := 4071) List.cons_append (by simp only [List.length_cons, List.length_append, List.length_nil, ltX1, ltX2, ltX3, ltX4, ltX5, ltX6, ltX7, ltX8, ltX9, ltX10, ltX11, ltX12, ltX13, ltX14, ltX15, ltX16, ltX17, ltX18, ltX19, ltX20]) rfl rfl ?_
  refine ek_dup dX10_init_147 rfl ?_
  refine ek_cQN (es := (.inr (10, [.ref (h0 + 1), .ref (h0 + 3), .ref (h0 + 43), .ref (h0 + 47), .ref (h0 + 60), .ref (h0 + 61), .null, .null, .null, .ref (h0 + 62), .ref (h0 + 66), .ref (h0 + 79), .ref (h0 + 80), .ref (h0 + 81), .ref (h0 + 82), .ref (h0 + 83), .int 0, .int 0]) :: (tX14 ids h0 (va_up (fun _ => none) 0 (some (h0 + 84)))) : List va_E)) (e0 := .inr (8, [.null, .int 0, .null, .null, .int 0, .null])) (gs := eX8_init ids (h0 + 89)) (st := [.ref (h0 + 89), .int 1, .ref (h0 + 60)]) [] (h0 + 89) dX10_init_148 kl_X8_init (List.mem_of_getElem? (i := 3) rfl) rfl (Nat.le_of_ble_eq_true rfl) (Nat.le_of_ble_eq_true rfl) (Nat.le_of_ble_eq_true rfl) rfl rfl List.cons_append.symm (by simp only [List.length_cons, List.length_append, List.length_nil, ltX1, ltX2, ltX3, ltX4, ltX5, ltX6, ltX7, ltX8, ltX9, ltX10, ltX11, ltX12, ltX13, ltX14, ltX15, ltX16, ltX17, ltX18, ltX19, ltX20]) (kX8_init (d := d + 1) (h0 := h0 + 89)) ?_
  refine Ek.nm (es2 := (.inr (10, [.ref (h0 + 1), .ref (h0 + 3), .ref (h0 + 43), .ref (h0 + 47), .ref (h0 + 60), .ref (h0 + 61), .null, .null, .null, .ref (h0 + 62), .ref (h0 + 66), .ref (h0 + 79), .ref (h0 + 80), .ref (h0 + 81), .ref (h0 + 82), .ref (h0 + 83), .int 0, .int 0]) :: (tX15 ids h0 (va_up (fun _ => none) 0 (some (h0 + 84)))) : List va_E)) (st2 := [.ref (h0 + 89), .int 1, .ref (h0 + 60)]) (kc2 := 93) (ks2 := 4422) List.cons_append rfl rfl rfl ?_
  refine ek_aaQ (i := 60) (iv := 89) (J := 1) dX10_init_151 gT15 (ek_lst (t := tX14 ids h0 (va_up (fun _ => none) 0 (some (h0 + 84)))) ltX14 rfl) rfl (by unfold vp_in; decide) (by decide) sT15 ?_
  refine Ek.nm (es2 := (.inr (10, [.ref (h0 + 1), .ref (h0 + 3), .ref (h0 + 43), .ref (h0 + 47), .ref (h0 + 60), .ref (h0 + 61), .null, .null, .null, .ref (h0 + 62), .ref (h0 + 66), .ref (h0 + 79), .ref (h0 + 80), .ref (h0 + 81), .ref (h0 + 82), .ref (h0 + 83), .int 0, .int 0]) :: (tX15 ids h0 (va_up (va_up (fun _ => none) 0 (some (h0 + 84))) 1 (some (h0 + 89)))) : List va_E)) (st2 := []) (kc2 := 93) (ks2 := 4422) rfl rfl rfl rfl ?_
  refine ek_iinc (v := 2) (ls2 := [some (.ref h0), some (.int 2)]) dX10_init_152 rfl (by decide) rfl ?_
  refine ek_goto (tgt := 134) dX10_init_155 (by decide) ?_
  refine ek_iload_n dX10_init_134 rfl ?_
  refine ek_iconst (v := 4) dX10_init_135 (by decide) ?_
  refine ek_icmp_ge (tgt := 158) dX10_init_136 (by decide) (fun q => absurd q (by decide)) (fun _ => ?_)
  refine ek_aload_n (x := h0) dX10_init_139 rfl ?_
  refine ek_get (i := 0) (v := .ref (h0 + 60)) dX10_init_140 kg_WithoutE_39 rfl rfl ?_
  refine ek_iload_n dX10_init_143 rfl ?_
  refine ek_new dX10_init_144 kn_WithoutE_37 (Nat.le_of_ble_eq_true rfl) (Nat.le_of_ble_eq_true rfl) ?_
  refine Ek.nm (es2 := (.inr (10, [.ref (h0 + 1), .ref (h0 + 3), .ref (h0 + 43), .ref (h0 + 47), .ref (h0 + 60), .ref (h0 + 61), .null, .null, .null, .ref (h0 + 62), .ref (h0 + 66), .ref (h0 + 79), .ref (h0 + 80), .ref (h0 + 81), .ref (h0 + 82), .ref (h0 + 83), .int 0, .int 0]) :: (tX15 ids h0 (va_up (va_up (fun _ => none) 0 (some (h0 + 84))) 1 (some (h0 + 89))) ++ [.inr (8, [.null, .int 0, .null, .null, .int 0, .null])]) : List va_E)) (st2 := [.ref (h0 + 94), .int 2, .ref (h0 + 60)]) (kc2 := 94) (ks2 := 4428) List.cons_append (by simp only [List.length_cons, List.length_append, List.length_nil, ltX1, ltX2, ltX3, ltX4, ltX5, ltX6, ltX7, ltX8, ltX9, ltX10, ltX11, ltX12, ltX13, ltX14, ltX15, ltX16, ltX17, ltX18, ltX19, ltX20]) rfl rfl ?_
  refine ek_dup dX10_init_147 rfl ?_
  refine ek_cQN (es := (.inr (10, [.ref (h0 + 1), .ref (h0 + 3), .ref (h0 + 43), .ref (h0 + 47), .ref (h0 + 60), .ref (h0 + 61), .null, .null, .null, .ref (h0 + 62), .ref (h0 + 66), .ref (h0 + 79), .ref (h0 + 80), .ref (h0 + 81), .ref (h0 + 82), .ref (h0 + 83), .int 0, .int 0]) :: (tX15 ids h0 (va_up (va_up (fun _ => none) 0 (some (h0 + 84))) 1 (some (h0 + 89)))) : List va_E)) (e0 := .inr (8, [.null, .int 0, .null, .null, .int 0, .null])) (gs := eX8_init ids (h0 + 94)) (st := [.ref (h0 + 94), .int 2, .ref (h0 + 60)]) [] (h0 + 94) dX10_init_148 kl_X8_init (List.mem_of_getElem? (i := 3) rfl) rfl (Nat.le_of_ble_eq_true rfl) (Nat.le_of_ble_eq_true rfl) (Nat.le_of_ble_eq_true rfl) rfl rfl List.cons_append.symm (by simp only [List.length_cons, List.length_append, List.length_nil, ltX1, ltX2, ltX3, ltX4, ltX5, ltX6, ltX7, ltX8, ltX9, ltX10, ltX11, ltX12, ltX13, ltX14, ltX15, ltX16, ltX17, ltX18, ltX19, ltX20]) (kX8_init (d := d + 1) (h0 := h0 + 94)) ?_
  refine Ek.nm (es2 := (.inr (10, [.ref (h0 + 1), .ref (h0 + 3), .ref (h0 + 43), .ref (h0 + 47), .ref (h0 + 60), .ref (h0 + 61), .null, .null, .null, .ref (h0 + 62), .ref (h0 + 66), .ref (h0 + 79), .ref (h0 + 80), .ref (h0 + 81), .ref (h0 + 82), .ref (h0 + 83), .int 0, .int 0]) :: (tX16 ids h0 (va_up (va_up (fun _ => none) 0 (some (h0 + 84))) 1 (some (h0 + 89)))) : List va_E)) (st2 := [.ref (h0 + 94), .int 2, .ref (h0 + 60)]) (kc2 := 98) (ks2 := 4779) List.cons_append rfl rfl rfl ?_
  refine ek_aaQ (i := 60) (iv := 94) (J := 2) dX10_init_151 gT16 (ek_lst (t := tX15 ids h0 (va_up (va_up (fun _ => none) 0 (some (h0 + 84))) 1 (some (h0 + 89)))) ltX15 rfl) rfl (by unfold vp_in; decide) (by decide) sT16 ?_
  refine Ek.nm (es2 := (.inr (10, [.ref (h0 + 1), .ref (h0 + 3), .ref (h0 + 43), .ref (h0 + 47), .ref (h0 + 60), .ref (h0 + 61), .null, .null, .null, .ref (h0 + 62), .ref (h0 + 66), .ref (h0 + 79), .ref (h0 + 80), .ref (h0 + 81), .ref (h0 + 82), .ref (h0 + 83), .int 0, .int 0]) :: (tX16 ids h0 (va_up (va_up (va_up (fun _ => none) 0 (some (h0 + 84))) 1 (some (h0 + 89))) 2 (some (h0 + 94)))) : List va_E)) (st2 := []) (kc2 := 98) (ks2 := 4779) rfl rfl rfl rfl ?_
  refine ek_iinc (v := 3) (ls2 := [some (.ref h0), some (.int 3)]) dX10_init_152 rfl (by decide) rfl ?_
  refine ek_goto (tgt := 134) dX10_init_155 (by decide) ?_
  refine ek_iload_n dX10_init_134 rfl ?_
  refine ek_iconst (v := 4) dX10_init_135 (by decide) ?_
  refine ek_icmp_ge (tgt := 158) dX10_init_136 (by decide) (fun q => absurd q (by decide)) (fun _ => ?_)
  refine ek_aload_n (x := h0) dX10_init_139 rfl ?_
  refine ek_get (i := 0) (v := .ref (h0 + 60)) dX10_init_140 kg_WithoutE_39 rfl rfl ?_
  refine ek_iload_n dX10_init_143 rfl ?_
  refine ek_new dX10_init_144 kn_WithoutE_37 (Nat.le_of_ble_eq_true rfl) (Nat.le_of_ble_eq_true rfl) ?_
  refine Ek.nm (es2 := (.inr (10, [.ref (h0 + 1), .ref (h0 + 3), .ref (h0 + 43), .ref (h0 + 47), .ref (h0 + 60), .ref (h0 + 61), .null, .null, .null, .ref (h0 + 62), .ref (h0 + 66), .ref (h0 + 79), .ref (h0 + 80), .ref (h0 + 81), .ref (h0 + 82), .ref (h0 + 83), .int 0, .int 0]) :: (tX16 ids h0 (va_up (va_up (va_up (fun _ => none) 0 (some (h0 + 84))) 1 (some (h0 + 89))) 2 (some (h0 + 94))) ++ [.inr (8, [.null, .int 0, .null, .null, .int 0, .null])]) : List va_E)) (st2 := [.ref (h0 + 99), .int 3, .ref (h0 + 60)]) (kc2 := 99) (ks2 := 4785) List.cons_append (by simp only [List.length_cons, List.length_append, List.length_nil, ltX1, ltX2, ltX3, ltX4, ltX5, ltX6, ltX7, ltX8, ltX9, ltX10, ltX11, ltX12, ltX13, ltX14, ltX15, ltX16, ltX17, ltX18, ltX19, ltX20]) rfl rfl ?_
  refine ek_dup dX10_init_147 rfl ?_
  refine ek_cQN (es := (.inr (10, [.ref (h0 + 1), .ref (h0 + 3), .ref (h0 + 43), .ref (h0 + 47), .ref (h0 + 60), .ref (h0 + 61), .null, .null, .null, .ref (h0 + 62), .ref (h0 + 66), .ref (h0 + 79), .ref (h0 + 80), .ref (h0 + 81), .ref (h0 + 82), .ref (h0 + 83), .int 0, .int 0]) :: (tX16 ids h0 (va_up (va_up (va_up (fun _ => none) 0 (some (h0 + 84))) 1 (some (h0 + 89))) 2 (some (h0 + 94)))) : List va_E)) (e0 := .inr (8, [.null, .int 0, .null, .null, .int 0, .null])) (gs := eX8_init ids (h0 + 99)) (st := [.ref (h0 + 99), .int 3, .ref (h0 + 60)]) [] (h0 + 99) dX10_init_148 kl_X8_init (List.mem_of_getElem? (i := 3) rfl) rfl (Nat.le_of_ble_eq_true rfl) (Nat.le_of_ble_eq_true rfl) (Nat.le_of_ble_eq_true rfl) rfl rfl List.cons_append.symm (by simp only [List.length_cons, List.length_append, List.length_nil, ltX1, ltX2, ltX3, ltX4, ltX5, ltX6, ltX7, ltX8, ltX9, ltX10, ltX11, ltX12, ltX13, ltX14, ltX15, ltX16, ltX17, ltX18, ltX19, ltX20]) (kX8_init (d := d + 1) (h0 := h0 + 99)) ?_
  refine Ek.nm (es2 := (.inr (10, [.ref (h0 + 1), .ref (h0 + 3), .ref (h0 + 43), .ref (h0 + 47), .ref (h0 + 60), .ref (h0 + 61), .null, .null, .null, .ref (h0 + 62), .ref (h0 + 66), .ref (h0 + 79), .ref (h0 + 80), .ref (h0 + 81), .ref (h0 + 82), .ref (h0 + 83), .int 0, .int 0]) :: (tX17 ids h0 (va_up (va_up (va_up (fun _ => none) 0 (some (h0 + 84))) 1 (some (h0 + 89))) 2 (some (h0 + 94)))) : List va_E)) (st2 := [.ref (h0 + 99), .int 3, .ref (h0 + 60)]) (kc2 := 103) (ks2 := 5136) List.cons_append rfl rfl rfl ?_
  refine ek_aaQ (i := 60) (iv := 99) (J := 3) dX10_init_151 gT17 (ek_lst (t := tX16 ids h0 (va_up (va_up (va_up (fun _ => none) 0 (some (h0 + 84))) 1 (some (h0 + 89))) 2 (some (h0 + 94)))) ltX16 rfl) rfl (by unfold vp_in; decide) (by decide) sT17 ?_
  refine Ek.nm (es2 := (.inr (10, [.ref (h0 + 1), .ref (h0 + 3), .ref (h0 + 43), .ref (h0 + 47), .ref (h0 + 60), .ref (h0 + 61), .null, .null, .null, .ref (h0 + 62), .ref (h0 + 66), .ref (h0 + 79), .ref (h0 + 80), .ref (h0 + 81), .ref (h0 + 82), .ref (h0 + 83), .int 0, .int 0]) :: (tX17 ids h0 (va_up (va_up (va_up (va_up (fun _ => none) 0 (some (h0 + 84))) 1 (some (h0 + 89))) 2 (some (h0 + 94))) 3 (some (h0 + 99)))) : List va_E)) (st2 := []) (kc2 := 103) (ks2 := 5136) rfl rfl rfl rfl ?_
  refine ek_iinc (v := 4) (ls2 := [some (.ref h0), some (.int 4)]) dX10_init_152 rfl (by decide) rfl ?_
  refine ek_goto (tgt := 134) dX10_init_155 (by decide) ?_
  refine ek_iload_n dX10_init_134 rfl ?_
  refine ek_iconst (v := 4) dX10_init_135 (by decide) ?_
  refine ek_icmp_ge (tgt := 158) dX10_init_136 (by decide) (fun _ => ?_) (fun q => absurd (by decide) q)
  refine ek_aload_n (x := h0) dX10_init_158 rfl ?_
  refine ek_new dX10_init_159 kn_WithoutE_75 (Nat.le_of_ble_eq_true rfl) (Nat.le_of_ble_eq_true rfl) ?_
  refine Ek.nm (es2 := (.inr (10, [.ref (h0 + 1), .ref (h0 + 3), .ref (h0 + 43), .ref (h0 + 47), .ref (h0 + 60), .ref (h0 + 61), .null, .null, .null, .ref (h0 + 62), .ref (h0 + 66), .ref (h0 + 79), .ref (h0 + 80), .ref (h0 + 81), .ref (h0 + 82), .ref (h0 + 83), .int 0, .int 0]) :: (tX17 ids h0 (va_up (va_up (va_up (va_up (fun _ => none) 0 (some (h0 + 84))) 1 (some (h0 + 89))) 2 (some (h0 + 94))) 3 (some (h0 + 99))) ++ [.inr (5, [.null, .null])]) : List va_E)) (st2 := [.ref (h0 + 104), .ref h0]) (kc2 := 104) (ks2 := 5138) List.cons_append (by simp only [List.length_cons, List.length_append, List.length_nil, ltX1, ltX2, ltX3, ltX4, ltX5, ltX6, ltX7, ltX8, ltX9, ltX10, ltX11, ltX12, ltX13, ltX14, ltX15, ltX16, ltX17, ltX18, ltX19, ltX20]) rfl rfl ?_
  refine ek_dup dX10_init_162 rfl ?_
  refine ek_aload_n (x := h0) dX10_init_163 rfl ?_
  refine ek_get (i := 0) (v := .ref (h0 + 3)) dX10_init_164 kg_WithoutE_19 rfl rfl ?_
  refine ek_aload_n (x := h0) dX10_init_167 rfl ?_
  refine ek_get (i := 0) (v := .ref (h0 + 47)) dX10_init_168 kg_WithoutE_33 rfl rfl ?_
  refine ek_cQI (es := (.inr (10, [.ref (h0 + 1), .ref (h0 + 3), .ref (h0 + 43), .ref (h0 + 47), .ref (h0 + 60), .ref (h0 + 61), .null, .null, .null, .ref (h0 + 62), .ref (h0 + 66), .ref (h0 + 79), .ref (h0 + 80), .ref (h0 + 81), .ref (h0 + 82), .ref (h0 + 83), .int 0, .int 0]) :: (tX17 ids h0 (va_up (va_up (va_up (va_up (fun _ => none) 0 (some (h0 + 84))) 1 (some (h0 + 89))) 2 (some (h0 + 94))) 3 (some (h0 + 99)))) : List va_E)) (e0 := .inr (5, [.null, .null])) (gs := eX5_init ids (h0 + 104) ((h0 + 3)) ((h0 + 47))) (st := [.ref (h0 + 104), .ref h0]) [.ref (h0 + 3), .ref (h0 + 47)] (h0 + 104) dX10_init_171 kl_X5_init (ev_t2 44 rfl rfl) rfl (Nat.le_of_ble_eq_true rfl) (Nat.le_of_ble_eq_true rfl) (Nat.le_of_ble_eq_true rfl) rfl rfl List.cons_append.symm (by simp only [List.length_cons, List.length_append, List.length_nil, ltX1, ltX2, ltX3, ltX4, ltX5, ltX6, ltX7, ltX8, ltX9, ltX10, ltX11, ltX12, ltX13, ltX14, ltX15, ltX16, ltX17, ltX18, ltX19, ltX20]) (kX5_init (d := d + 1) (h0 := h0 + 104) (a1 := (h0 + 3)) (a2 := (h0 + 47))) ?_
  refine Ek.nm (es2 := (.inr (10, [.ref (h0 + 1), .ref (h0 + 3), .ref (h0 + 43), .ref (h0 + 47), .ref (h0 + 60), .ref (h0 + 61), .null, .null, .null, .ref (h0 + 62), .ref (h0 + 66), .ref (h0 + 79), .ref (h0 + 80), .ref (h0 + 81), .ref (h0 + 82), .ref (h0 + 83), .int 0, .int 0]) :: (tX18 ids h0 (va_up (va_up (va_up (va_up (fun _ => none) 0 (some (h0 + 84))) 1 (some (h0 + 89))) 2 (some (h0 + 94))) 3 (some (h0 + 99)))) : List va_E)) (st2 := [.ref (h0 + 104), .ref h0]) (kc2 := 104) (ks2 := 5138) List.cons_append rfl rfl rfl ?_
  refine ek_putF (i := 0) dX10_init_174 kf_WithoutE_80 rfl (Nat.le_of_ble_eq_true rfl) rfl rfl ?_
  refine Ek.nm (es2 := (.inr (10, [.ref (h0 + 1), .ref (h0 + 3), .ref (h0 + 43), .ref (h0 + 47), .ref (h0 + 60), .ref (h0 + 61), .ref (h0 + 104), .null, .null, .ref (h0 + 62), .ref (h0 + 66), .ref (h0 + 79), .ref (h0 + 80), .ref (h0 + 81), .ref (h0 + 82), .ref (h0 + 83), .int 0, .int 0]) :: (tX18 ids h0 (va_up (va_up (va_up (va_up (fun _ => none) 0 (some (h0 + 84))) 1 (some (h0 + 89))) 2 (some (h0 + 94))) 3 (some (h0 + 99)))) : List va_E)) (st2 := []) (kc2 := 104) (ks2 := 5138) rfl rfl rfl rfl ?_
  refine ek_aload_n (x := h0) dX10_init_177 rfl ?_
  refine ek_new dX10_init_178 kn_WithoutE_84 (Nat.le_of_ble_eq_true rfl) (Nat.le_of_ble_eq_true rfl) ?_
  refine Ek.nm (es2 := (.inr (10, [.ref (h0 + 1), .ref (h0 + 3), .ref (h0 + 43), .ref (h0 + 47), .ref (h0 + 60), .ref (h0 + 61), .ref (h0 + 104), .null, .null, .ref (h0 + 62), .ref (h0 + 66), .ref (h0 + 79), .ref (h0 + 80), .ref (h0 + 81), .ref (h0 + 82), .ref (h0 + 83), .int 0, .int 0]) :: (tX18 ids h0 (va_up (va_up (va_up (va_up (fun _ => none) 0 (some (h0 + 84))) 1 (some (h0 + 89))) 2 (some (h0 + 94))) 3 (some (h0 + 99))) ++ [.inr (1, [.null, .null, .null, .null, .int 0])]) : List va_E)) (st2 := [.ref (h0 + 105), .ref h0]) (kc2 := 105) (ks2 := 5143) List.cons_append (by simp only [List.length_cons, List.length_append, List.length_nil, ltX1, ltX2, ltX3, ltX4, ltX5, ltX6, ltX7, ltX8, ltX9, ltX10, ltX11, ltX12, ltX13, ltX14, ltX15, ltX16, ltX17, ltX18, ltX19, ltX20]) rfl rfl ?_
  refine ek_dup dX10_init_181 rfl ?_
  refine ek_aload_n (x := h0) dX10_init_182 rfl ?_
  refine ek_get (i := 0) (v := .ref (h0 + 3)) dX10_init_183 kg_WithoutE_19 rfl rfl ?_
  refine ek_aload_n (x := h0) dX10_init_186 rfl ?_
  refine ek_get (i := 0) (v := .ref (h0 + 43)) dX10_init_187 kg_WithoutE_26 rfl rfl ?_
  refine ek_cQI (es := (.inr (10, [.ref (h0 + 1), .ref (h0 + 3), .ref (h0 + 43), .ref (h0 + 47), .ref (h0 + 60), .ref (h0 + 61), .ref (h0 + 104), .null, .null, .ref (h0 + 62), .ref (h0 + 66), .ref (h0 + 79), .ref (h0 + 80), .ref (h0 + 81), .ref (h0 + 82), .ref (h0 + 83), .int 0, .int 0]) :: (tX18 ids h0 (va_up (va_up (va_up (va_up (fun _ => none) 0 (some (h0 + 84))) 1 (some (h0 + 89))) 2 (some (h0 + 94))) 3 (some (h0 + 99)))) : List va_E)) (e0 := .inr (1, [.null, .null, .null, .null, .int 0])) (gs := eX1_init ids (h0 + 105) ((h0 + 3)) ((h0 + 43))) (st := [.ref (h0 + 105), .ref h0]) [.ref (h0 + 3), .ref (h0 + 43)] (h0 + 105) dX10_init_190 kl_X1_init (ev_t2 57 rfl rfl) rfl (Nat.le_of_ble_eq_true rfl) (Nat.le_of_ble_eq_true rfl) (Nat.le_of_ble_eq_true rfl) rfl rfl List.cons_append.symm (by simp only [List.length_cons, List.length_append, List.length_nil, ltX1, ltX2, ltX3, ltX4, ltX5, ltX6, ltX7, ltX8, ltX9, ltX10, ltX11, ltX12, ltX13, ltX14, ltX15, ltX16, ltX17, ltX18, ltX19, ltX20]) (kX1_init (d := d + 1) (h0 := h0 + 105) (a1 := (h0 + 3)) (a2 := (h0 + 43))) ?_
  refine Ek.nm (es2 := (.inr (10, [.ref (h0 + 1), .ref (h0 + 3), .ref (h0 + 43), .ref (h0 + 47), .ref (h0 + 60), .ref (h0 + 61), .ref (h0 + 104), .null, .null, .ref (h0 + 62), .ref (h0 + 66), .ref (h0 + 79), .ref (h0 + 80), .ref (h0 + 81), .ref (h0 + 82), .ref (h0 + 83), .int 0, .int 0]) :: (tX19 ids h0 (va_up (va_up (va_up (va_up (fun _ => none) 0 (some (h0 + 84))) 1 (some (h0 + 89))) 2 (some (h0 + 94))) 3 (some (h0 + 99)))) : List va_E)) (st2 := [.ref (h0 + 105), .ref h0]) (kc2 := 107) (ks2 := 5219) List.cons_append rfl rfl rfl ?_
  refine ek_putF (i := 0) dX10_init_193 kf_WithoutE_89 rfl (Nat.le_of_ble_eq_true rfl) rfl rfl ?_
  refine Ek.nm (es2 := (.inr (10, [.ref (h0 + 1), .ref (h0 + 3), .ref (h0 + 43), .ref (h0 + 47), .ref (h0 + 60), .ref (h0 + 61), .ref (h0 + 104), .ref (h0 + 105), .null, .ref (h0 + 62), .ref (h0 + 66), .ref (h0 + 79), .ref (h0 + 80), .ref (h0 + 81), .ref (h0 + 82), .ref (h0 + 83), .int 0, .int 0]) :: (tX19 ids h0 (va_up (va_up (va_up (va_up (fun _ => none) 0 (some (h0 + 84))) 1 (some (h0 + 89))) 2 (some (h0 + 94))) 3 (some (h0 + 99)))) : List va_E)) (st2 := []) (kc2 := 107) (ks2 := 5219) rfl rfl rfl rfl ?_
  refine ek_aload_n (x := h0) dX10_init_196 rfl ?_
  refine ek_new dX10_init_197 kn_WithoutE_93 (Nat.le_of_ble_eq_true rfl) (Nat.le_of_ble_eq_true rfl) ?_
  refine Ek.nm (es2 := (.inr (10, [.ref (h0 + 1), .ref (h0 + 3), .ref (h0 + 43), .ref (h0 + 47), .ref (h0 + 60), .ref (h0 + 61), .ref (h0 + 104), .ref (h0 + 105), .null, .ref (h0 + 62), .ref (h0 + 66), .ref (h0 + 79), .ref (h0 + 80), .ref (h0 + 81), .ref (h0 + 82), .ref (h0 + 83), .int 0, .int 0]) :: (tX19 ids h0 (va_up (va_up (va_up (va_up (fun _ => none) 0 (some (h0 + 84))) 1 (some (h0 + 89))) 2 (some (h0 + 94))) 3 (some (h0 + 99))) ++ [.inr (6, [.null, .null, .null, .int 0, .null, .null, .null, .null, .int 0, .null, .null, .null, .null, .int 0, .int 0, .int 0, .int 0, .int 0])]) : List va_E)) (st2 := [.ref (h0 + 108), .ref h0]) (kc2 := 108) (ks2 := 5237) List.cons_append (by simp only [List.length_cons, List.length_append, List.length_nil, ltX1, ltX2, ltX3, ltX4, ltX5, ltX6, ltX7, ltX8, ltX9, ltX10, ltX11, ltX12, ltX13, ltX14, ltX15, ltX16, ltX17, ltX18, ltX19, ltX20]) rfl rfl ?_
  refine ek_dup dX10_init_200 rfl ?_
  refine ek_aload_n (x := h0) dX10_init_201 rfl ?_
  refine ek_get (i := 0) (v := .ref (h0 + 3)) dX10_init_202 kg_WithoutE_19 rfl rfl ?_
  refine ek_aload_n (x := h0) dX10_init_205 rfl ?_
  refine ek_get (i := 0) (v := .ref (h0 + 104)) dX10_init_206 kg_WithoutE_80 rfl rfl ?_
  refine ek_aload_n (x := h0) dX10_init_209 rfl ?_
  refine ek_get (i := 0) (v := .ref (h0 + 105)) dX10_init_210 kg_WithoutE_89 rfl rfl ?_
  refine ek_cQI (es := (.inr (10, [.ref (h0 + 1), .ref (h0 + 3), .ref (h0 + 43), .ref (h0 + 47), .ref (h0 + 60), .ref (h0 + 61), .ref (h0 + 104), .ref (h0 + 105), .null, .ref (h0 + 62), .ref (h0 + 66), .ref (h0 + 79), .ref (h0 + 80), .ref (h0 + 81), .ref (h0 + 82), .ref (h0 + 83), .int 0, .int 0]) :: (tX19 ids h0 (va_up (va_up (va_up (va_up (fun _ => none) 0 (some (h0 + 84))) 1 (some (h0 + 89))) 2 (some (h0 + 94))) 3 (some (h0 + 99)))) : List va_E)) (e0 := .inr (6, [.null, .null, .null, .int 0, .null, .null, .null, .null, .int 0, .null, .null, .null, .null, .int 0, .int 0, .int 0, .int 0, .int 0])) (gs := eX6_init ids (h0 + 108) ((h0 + 3)) ((h0 + 104)) ((h0 + 105))) (st := [.ref (h0 + 108), .ref h0]) [.ref (h0 + 3), .ref (h0 + 104), .ref (h0 + 105)] (h0 + 108) dX10_init_213 kl_X6_init (ev_t2 79 rfl rfl) rfl (Nat.le_of_ble_eq_true rfl) (Nat.le_of_ble_eq_true rfl) (Nat.le_of_ble_eq_true rfl) rfl rfl List.cons_append.symm (by simp only [List.length_cons, List.length_append, List.length_nil, ltX1, ltX2, ltX3, ltX4, ltX5, ltX6, ltX7, ltX8, ltX9, ltX10, ltX11, ltX12, ltX13, ltX14, ltX15, ltX16, ltX17, ltX18, ltX19, ltX20]) (kX6_init (d := d) (h0 := h0 + 108) (a1 := (h0 + 3)) (a2 := (h0 + 104)) (a3 := (h0 + 105))) ?_
  refine Ek.nm (es2 := (.inr (10, [.ref (h0 + 1), .ref (h0 + 3), .ref (h0 + 43), .ref (h0 + 47), .ref (h0 + 60), .ref (h0 + 61), .ref (h0 + 104), .ref (h0 + 105), .null, .ref (h0 + 62), .ref (h0 + 66), .ref (h0 + 79), .ref (h0 + 80), .ref (h0 + 81), .ref (h0 + 82), .ref (h0 + 83), .int 0, .int 0]) :: (tX20 ids h0 (va_up (va_up (va_up (va_up (fun _ => none) 0 (some (h0 + 84))) 1 (some (h0 + 89))) 2 (some (h0 + 94))) 3 (some (h0 + 99)))) : List va_E)) (st2 := [.ref (h0 + 108), .ref h0]) (kc2 := 121) (ks2 := 5901) List.cons_append rfl rfl rfl ?_
  refine ek_putF (i := 0) dX10_init_216 kf_WithoutE_98 rfl (Nat.le_of_ble_eq_true rfl) rfl rfl ?_
  refine Ek.nm (es2 := (.inr (10, [.ref (h0 + 1), .ref (h0 + 3), .ref (h0 + 43), .ref (h0 + 47), .ref (h0 + 60), .ref (h0 + 61), .ref (h0 + 104), .ref (h0 + 105), .ref (h0 + 108), .ref (h0 + 62), .ref (h0 + 66), .ref (h0 + 79), .ref (h0 + 80), .ref (h0 + 81), .ref (h0 + 82), .ref (h0 + 83), .int 0, .int 0]) :: (tX20 ids h0 (va_up (va_up (va_up (va_up (fun _ => none) 0 (some (h0 + 84))) 1 (some (h0 + 89))) 2 (some (h0 + 94))) 3 (some (h0 + 99)))) : List va_E)) (st2 := []) (kc2 := 121) (ks2 := 5901) rfl rfl rfl rfl ?_
  exact ek_vret dX10_init_219 rfl (Nat.le_of_ble_eq_true rfl) (Nat.le_of_ble_eq_true rfl)
