/-! the law: its rows, and a block a call -/
def scrG (G : GT) (b L : Nat) (xs : Nat → Int32) : Prop := match G with
  | (p, R, s, m, args, below, meth, c, Q, A, nL, e) => va_X b L xs s s.heap ∧ b < s.heap.size ∧ ¬ A b
abbrev lvL (b a m o o2 j : Nat) : List (Nat × Value) := [(0, .ref b), (1, .ref a), (2, .ref m), (3, .ref o), (4, .ref o2), (5, .int (nI (4 * j)))]
theorem cmp_self (x : Int64) : lg_cmp x x = 0 := by simp [lg_cmp]
section LW
variable {E : ET} {G : GT} {cc : ByteArray} {own : String} {R0 : Room} {tb : List ExceptionTableEntry} {k n pc : Nat} {lv : List (Nat × Value)} {st : List Value} {w u : va_W} {o o2 : Nat} {f : Nat → Int64} {g : Nat → UInt64}
theorem v_sld {b L j : Nat} {xs : Nat → Int32} (O : OKG E G cc own R0 tb) (hX : scrG G b L xs) (hL : L ≤ 2048) (hj : j < L) (d : decode cc pc = .ok (.iaload, 1)) (kk : V E G k n (pc + 1) lv (.int (xs j) :: st) w) : V E G k n pc lv (.int (nI j) :: .ref b :: st) w := by
  obtain ⟨p, R, s, m, args, below, meth, c, Q, A, nL, e⟩ := G
  obtain ⟨h1, h2, h3⟩ := hX
  intro H locs ls hl hP hD hS
  refine va_sld O.1 O.2.1 h1 h2 h3 hS (vp_in_nI hj (by omega)) d ?_
  rw [nI_clamp (by omega)]
  exact kk H locs ls hl hP hD hS
theorem v_slen {b L : Nat} {xs : Nat → Int32} (O : OKG E G cc own R0 tb) (hX : scrG G b L xs) (d : decode cc pc = .ok (.arraylength, 1)) (kk : V E G k n (pc + 1) lv (.int (nI L) :: st) w) : V E G k n pc lv (.ref b :: st) w := by
  obtain ⟨p, R, s, m, args, below, meth, c, Q, A, nL, e⟩ := G
  obtain ⟨h1, h2, h3⟩ := hX
  intro H locs ls hl hP hD hS
  exact va_slen O.1 O.2.1 h1 h2 h3 hS d (kk H locs ls hl hP hD hS)
theorem v_laldO (O : OKG E G cc own R0 tb) (d : decode cc pc = .ok (.laload, 1)) (kk : V E G k n (pc + 1) lv (.long (f 0) :: st) (u ++ oW E o f o2 g)) : V E G k n pc lv (.int (nI 0) :: .ref o :: st) (u ++ oW E o f o2 g) :=
  v_lald (a := o) (len := 1) (f := f) (j := 0) O d u.length (by simp [oW]) (by decide) (by decide) kk
theorem v_daldO (O : OKG E G cc own R0 tb) (d : decode cc pc = .ok (.daload, 1)) (kk : V E G k n (pc + 1) lv (.double (g 0) :: st) (u ++ oW E o f o2 g)) : V E G k n pc lv (.int (nI 0) :: .ref o2 :: st) (u ++ oW E o f o2 g) :=
  v_dald (a := o2) (len := 1) (f := g) (j := 0) O d (u.length + 1) (by simp [oW]) (by decide) (by decide) kk
theorem v_nz {x : Int32} (O : OKG E G cc own R0 tb) (d0 : decode cc pc = .ok (.ifCond .eq 7, 3)) (d1 : decode cc (pc + 3) = .ok (.iconst 1, 1)) (d2 : decode cc (pc + 4) = .ok (.goto 4, 3)) (d3 : decode cc (pc + 7) = .ok (.iconst 0, 1)) (kk : V E G k n (pc + 8) lv (.int (bI (!decide (x = 0))) :: st) w) : V E G k n pc lv (.int x :: st) w := by
  refine v_if_eq (tgt := pc + 7) O d0 (by omega) (fun h => ?_) (fun h => ?_)
  · refine v_iconst (v := 0) O d3 (by decide) ?_
    rw [h] at kk
    exact kk
  · refine v_iconst (v := 1) O d1 (by decide) ?_
    refine v_goto (tgt := pc + 8) O d2 (by omega) ?_
    rw [decide_eq_false h] at kk
    exact kk
end LW
theorem rel_x {E : ET} {ax am : Nat → Nat} {th : Nat} {wx wm : va_W} (R : REL E ax am th wx wm) : ∃ fs, wx[0]? = some (ax 0, .inr (4, fs)) := by
  obtain ⟨K, n, t, dr, pe, len, cod, mm, pX, mk, fr, ls, lc, u, v, su, sp, tot, spr, FX, fe, ms, pM, FM, li, lm, l1, lq, hs, rfl, rfl, I⟩ := R
  exact ⟨_, rfl⟩
theorem rel_m {E : ET} {ax am : Nat → Nat} {th : Nat} {wx wm : va_W} (R : REL E ax am th wx wm) : ∃ fs, wm[0]? = some (am 0, .inr (5, fs)) := by
  obtain ⟨K, n, t, dr, pe, len, cod, mm, pX, mk, fr, ls, lc, u, v, su, sp, tot, spr, FX, fe, ms, pM, FM, li, lm, l1, lq, hs, rfl, rfl, I⟩ := R
  exact ⟨_, rfl⟩
theorem rel_t {E : ET} {ax am : Nat → Nat} {th : Nat} {wx wm : va_W} (hst : E.1.stackTraces = false) (R : REL E ax am th wx wm) : Ctr E yX5_thrown cdX5_thrown (rmL 1) [.ref (am 0)] wm (pR (some (.int (nI th))) wm) noX 0 0 := by
  obtain ⟨K, n, t, dr, pe, len, cod, mm, pX, mk, fr, ls, lc, u, v, su, sp, tot, spr, FX, fe, ms, pM, FM, li, lm, l1, lq, hs, rfl, rfl, I⟩ := R
  exact c_thrown hst
theorem b_setChannels {E : ET} {G : GT} {tb : List ExceptionTableEntry} (O : OKG E G cL_law RL room_1 tb) (hst : E.1.stackTraces = false) (hN : nLG G = 9) {b L : Nat} {xs : Nat → Int32} (hX : scrG G b L xs) (hL : L ≤ 2048) {ax am : Nat → Nat} {o o2 : Nat} {f : Nat → Int64} {g : Nat → UInt64} {th : Nat} {wx wm : va_W} (R : REL E ax am th wx wm) {j k n : Nat} (hj : 4 * j + 4 ≤ L) (hk : k + 1 ≤ 1069) (hn : n + 6 ≤ 11774) (kk : ∀ f g th wx wm, REL E ax am th wx wm → V E G (k + 1) (n + 6) 1543 (lvL b (ax 0) (am 0) o o2 j) [] (wm ++ (wx ++ oW E o f o2 g))) : V E G k n 152 (lvL b (ax 0) (am 0) o o2 j) [] (wm ++ (wx ++ oW E o f o2 g)) := by
  obtain ⟨fsX, heX⟩ := rel_x R
  obtain ⟨fsM, heM⟩ := rel_m R
  rcases op_setChannels hst R (xs (4 * j + 1)) with ⟨v9, rx, PX, rm, PM, gx, gm, CX, CM, hvX, hvM, hrel⟩ | ⟨rx, rm, wm1, gx, gm, CX, CM, hrel⟩
  · obtain ⟨m1, m2, m3, m4⟩ := gm
    refine v_aload_n O dL_law_152 rfl ?_
    refine v_aload_n O dL_law_153 rfl ?_
    refine v_iload O dL_law_154 rfl ?_
    refine v_iconst (v := nI 1) O dL_law_156 (by decide) ?_
    refine v_iaddN O dL_law_157 ?_
    refine v_sld O hX hL (show 4 * j + 1 < L by omega) dL_law_158 ?_
    refine v_aload_n O dL_law_159 rfl ?_
    refine v_w (w' := wm ++ ((wx ++ oW E o f o2 g) ++ [])) (by rw [List.append_nil]) ?_
    refine v_callHJ (wa := wm) (wb := []) (w := wx ++ oW E o f o2 g) (As := [.ref (ax 0), .int (xs (4 * j + 1)), .ref o]) (st := []) O dL_law_160 lkH_86 (l_setChannels hst (xs (4 * j + 1)) heX gx CX hvX) rfl rfl ⟨rfl, rfl, by decide, by decide, by show k + 0 ≤ 1069; omega, by show n + 0 ≤ 11774; omega⟩ (fun r u h => ?_) (fun _ _ h => False.elim h)
    obtain ⟨rfl, r0, u0, hp, rfl⟩ := h
    refine v_w (w' := [] ++ (wm ++ (u0 ++ oW E o (vp_updL f 0 v9.toInt64) o2 g))) (by rw [List.append_nil]; rfl) ?_
    refine v_cv (pc' := 163) (lv' := lvL b (ax 0) (am 0) o o2 j) (st' := [.int (nI 0)]) (w' := [] ++ (wm ++ (u0 ++ oW E o (vp_updL f 0 v9.toInt64) o2 g))) ?_
    refine v_istore O dL_law_163 (by rw [hN]; decide) ?_
    refine v_aload_n O dL_law_165 rfl ?_
    refine v_aload_n O dL_law_166 rfl ?_
    refine v_iload O dL_law_167 rfl ?_
    refine v_iconst (v := nI 1) O dL_law_169 (by decide) ?_
    refine v_iaddN O dL_law_170 ?_
    refine v_sld O hX hL (show 4 * j + 1 < L by omega) dL_law_171 ?_
    refine v_callVJ (wa := []) (wb := u0 ++ oW E o (vp_updL f 0 v9.toInt64) o2 g) (w := wm) (As := [.int (xs (4 * j + 1))]) (st := []) O dL_law_172 lkL_91 CM 0 heM rfl rfl rfl ⟨m1, m2, by show _ + 1 ≤ 12; omega, by show _ ≤ 440; omega, by show k + 0 + 0 ≤ 1069; omega, by show n + 0 + 0 ≤ 11774; omega⟩ (fun r' u' hp' => ?_) (fun _ _ h => False.elim h)
    obtain rfl := hvM r' u' hp'
    have R1 := hrel _ u0 _ u' hp hp'
    refine v_cv (pc' := 175) (lv' := st1 (lvL b (ax 0) (am 0) o o2 j) 6 (.int (nI 0))) (st' := [.int v9]) (w' := [] ++ (u' ++ (u0 ++ oW E o (vp_updL f 0 v9.toInt64) o2 g))) ?_
    refine v_istore O dL_law_175 (by rw [hN]; decide) ?_
    refine v_aload_n O dL_law_177 rfl ?_
    obtain ⟨fs1, he1⟩ := rel_m R1
    refine v_callVJ (wa := []) (wb := u0 ++ oW E o (vp_updL f 0 v9.toInt64) o2 g) (w := u') (As := []) (st := []) O dL_law_178 lkL_92 (rel_t hst R1) 0 he1 rfl rfl rfl ⟨rfl, rfl, by decide, by decide, by show k + 0 + 0 + 0 ≤ 1069; omega, by show n + 0 + 0 + 0 ≤ 11774; omega⟩ (fun r9 u9 h9 => ?_) (fun _ _ h => False.elim h)
    obtain ⟨rfl, rfl⟩ := h9
    refine v_iload O dL_law_181 rfl ?_
    refine v_icmp_eq (tgt := 188) O dL_law_183 (by decide) (fun _ => ?_) (fun h => absurd rfl h)
    refine v_iload O dL_law_188 rfl ?_
    refine v_if_ne (tgt := 205) O dL_law_190 (by decide) (fun h => absurd rfl h) (fun _ => ?_)
    refine v_aload_n O dL_law_193 rfl ?_
    refine v_iconst (v := nI 0) O dL_law_194 (by decide) ?_
    refine v_w (w' := (u9 ++ u0) ++ oW E o (vp_updL f 0 v9.toInt64) o2 g) ((List.nil_append _).trans (List.append_assoc _ _ _).symm) ?_
    refine v_laldO O dL_law_195 ?_
    refine v_iload O dL_law_196 rfl ?_
    refine v_i2l O dL_law_198 ?_
    refine v_lcmp O dL_law_199 ?_
    refine v_if_eq (tgt := 205) O dL_law_200 (by decide) (fun _ => ?_) (fun h => absurd (cmp_self v9.toInt64) h)
    refine v_goto (tgt := 1543) O dL_law_205 (by decide) ?_
    refine v_w (w' := u9 ++ (u0 ++ oW E o (vp_updL f 0 v9.toInt64) o2 g)) (List.append_assoc _ _ _) ?_
    exact v_widen (k' := k + 1) (n' := n + 6) (by omega) (by omega) (v_ord [0, 1, 2, 3, 4, 5] (kk _ _ 0 u0 u9 R1))
  · obtain ⟨m1, m2, m3, m4⟩ := gm
    refine v_aload_n O dL_law_152 rfl ?_
    refine v_aload_n O dL_law_153 rfl ?_
    refine v_iload O dL_law_154 rfl ?_
    refine v_iconst (v := nI 1) O dL_law_156 (by decide) ?_
    refine v_iaddN O dL_law_157 ?_
    refine v_sld O hX hL (show 4 * j + 1 < L by omega) dL_law_158 ?_
    refine v_aload_n O dL_law_159 rfl ?_
    refine v_w (w' := wm ++ ((wx ++ oW E o f o2 g) ++ [])) (by rw [List.append_nil]) ?_
    refine v_callHJ (wa := wm) (wb := []) (w := wx ++ oW E o f o2 g) (As := [.ref (ax 0), .int (xs (4 * j + 1)), .ref o]) (st := []) O dL_law_160 lkH_86 (lx_setChannels1 hst (xs (4 * j + 1)) heX gx CX) rfl rfl ⟨rfl, rfl, by decide, by decide, by show k + 1 ≤ 1069; omega, by show n + 6 ≤ 11774; omega⟩ (fun r u h => ?_) (fun _ _ h => False.elim h)
    obtain ⟨rfl, rfl⟩ := h
    refine v_w (w' := [] ++ (wm ++ (wx ++ oW E o f o2 g))) (by rw [List.append_nil]; rfl) ?_
    refine v_cv (pc' := 163) (lv' := lvL b (ax 0) (am 0) o o2 j) (st' := [.int (nI 1)]) (w' := [] ++ (wm ++ (wx ++ oW E o f o2 g))) ?_
    refine v_istore O dL_law_163 (by rw [hN]; decide) ?_
    refine v_aload_n O dL_law_165 rfl ?_
    refine v_aload_n O dL_law_166 rfl ?_
    refine v_iload O dL_law_167 rfl ?_
    refine v_iconst (v := nI 1) O dL_law_169 (by decide) ?_
    refine v_iaddN O dL_law_170 ?_
    refine v_sld O hX hL (show 4 * j + 1 < L by omega) dL_law_171 ?_
    refine v_callVJ (wa := []) (wb := wx ++ oW E o f o2 g) (w := wm) (As := [.int (xs (4 * j + 1))]) (st := []) O dL_law_172 lkL_91 CM 0 heM rfl rfl rfl ⟨m1, m2, by show _ + 1 ≤ 12; omega, by show _ ≤ 440; omega, by show k + 1 + 0 ≤ 1069; omega, by show n + 6 + 0 ≤ 11774; omega⟩ (fun r' u' h => ?_) (fun _ _ h => False.elim h)
    obtain ⟨rfl, rfl⟩ := h
    have R1 := hrel
    refine v_cv (pc' := 175) (lv' := st1 (lvL b (ax 0) (am 0) o o2 j) 6 (.int (nI 1))) (st' := [.int (nI 0)]) (w' := [] ++ (u' ++ (wx ++ oW E o f o2 g))) ?_
    refine v_istore O dL_law_175 (by rw [hN]; decide) ?_
    refine v_aload_n O dL_law_177 rfl ?_
    obtain ⟨fs1, he1⟩ := rel_m R1
    refine v_callVJ (wa := []) (wb := wx ++ oW E o f o2 g) (w := u') (As := []) (st := []) O dL_law_178 lkL_92 (rel_t hst R1) 0 he1 rfl rfl rfl ⟨rfl, rfl, by decide, by decide, by show k + 1 + 0 + 0 ≤ 1069; omega, by show n + 6 + 0 + 0 ≤ 11774; omega⟩ (fun r9 u9 h9 => ?_) (fun _ _ h => False.elim h)
    obtain ⟨rfl, rfl⟩ := h9
    refine v_iload O dL_law_181 rfl ?_
    refine v_icmp_eq (tgt := 188) O dL_law_183 (by decide) (fun _ => ?_) (fun h => absurd rfl h)
    refine v_iload O dL_law_188 rfl ?_
    refine v_if_ne (tgt := 205) O dL_law_190 (by decide) (fun _ => ?_) (fun h => absurd h (by decide))
    refine v_goto (tgt := 1543) O dL_law_205 (by decide) ?_
    exact v_ord [0, 1, 2, 3, 4, 5] (kk _ _ 1 wx u9 R1)
theorem b_setPending {E : ET} {G : GT} {tb : List ExceptionTableEntry} (O : OKG E G cL_law RL room_1 tb) (hst : E.1.stackTraces = false) (hN : nLG G = 9) {b L : Nat} {xs : Nat → Int32} (hX : scrG G b L xs) (hL : L ≤ 2048) {ax am : Nat → Nat} {o o2 : Nat} {f : Nat → Int64} {g : Nat → UInt64} {th : Nat} {wx wm : va_W} (R : REL E ax am th wx wm) {j k n : Nat} (hj : 4 * j + 4 ≤ L) (hk : k + 1 ≤ 1069) (hn : n + 6 ≤ 11774) (kk : ∀ f g th wx wm, REL E ax am th wx wm → V E G (k + 1) (n + 6) 1543 (lvL b (ax 0) (am 0) o o2 j) [] (wm ++ (wx ++ oW E o f o2 g))) : V E G k n 208 (lvL b (ax 0) (am 0) o o2 j) [] (wm ++ (wx ++ oW E o f o2 g)) := by
  obtain ⟨fsX, heX⟩ := rel_x R
  obtain ⟨fsM, heM⟩ := rel_m R
  rcases op_setPending hst R (xs (4 * j + 1)) (xs (4 * j + 2)) with ⟨v9, rx, PX, rm, PM, gx, gm, CX, CM, hvX, hvM, hrel⟩ | ⟨rx, rm, wm1, gx, gm, CX, CM, hrel⟩ | ⟨rx, rm, wm1, gx, gm, CX, CM, hrel⟩
  · obtain ⟨m1, m2, m3, m4⟩ := gm
    refine v_aload_n O dL_law_208 rfl ?_
    refine v_aload_n O dL_law_209 rfl ?_
    refine v_iload O dL_law_210 rfl ?_
    refine v_iconst (v := nI 1) O dL_law_212 (by decide) ?_
    refine v_iaddN O dL_law_213 ?_
    refine v_sld O hX hL (show 4 * j + 1 < L by omega) dL_law_214 ?_
    refine v_aload_n O dL_law_215 rfl ?_
    refine v_iload O dL_law_216 rfl ?_
    refine v_iconst (v := nI 2) O dL_law_218 (by decide) ?_
    refine v_iaddN O dL_law_219 ?_
    refine v_sld O hX hL (show 4 * j + 2 < L by omega) dL_law_220 ?_
    refine v_aload_n O dL_law_221 rfl ?_
    refine v_w (w' := wm ++ ((wx ++ oW E o f o2 g) ++ [])) (by rw [List.append_nil]) ?_
    refine v_callHJ (wa := wm) (wb := []) (w := wx ++ oW E o f o2 g) (As := [.ref (ax 0), .int (xs (4 * j + 1)), .int (xs (4 * j + 2)), .ref o]) (st := []) O dL_law_222 lkH_95 (l_setPending hst (xs (4 * j + 1)) (xs (4 * j + 2)) heX gx CX hvX) rfl rfl ⟨rfl, rfl, by decide, by decide, by show k + 0 ≤ 1069; omega, by show n + 0 ≤ 11774; omega⟩ (fun r u h => ?_) (fun _ _ h => False.elim h)
    obtain ⟨rfl, r0, u0, hp, rfl⟩ := h
    refine v_w (w' := [] ++ (wm ++ (u0 ++ oW E o (vp_updL f 0 v9.toInt64) o2 g))) (by rw [List.append_nil]; rfl) ?_
    refine v_cv (pc' := 225) (lv' := lvL b (ax 0) (am 0) o o2 j) (st' := [.int (nI 0)]) (w' := [] ++ (wm ++ (u0 ++ oW E o (vp_updL f 0 v9.toInt64) o2 g))) ?_
    refine v_istore O dL_law_225 (by rw [hN]; decide) ?_
    refine v_aload_n O dL_law_227 rfl ?_
    refine v_aload_n O dL_law_228 rfl ?_
    refine v_iload O dL_law_229 rfl ?_
    refine v_iconst (v := nI 1) O dL_law_231 (by decide) ?_
    refine v_iaddN O dL_law_232 ?_
    refine v_sld O hX hL (show 4 * j + 1 < L by omega) dL_law_233 ?_
    refine v_aload_n O dL_law_234 rfl ?_
    refine v_iload O dL_law_235 rfl ?_
    refine v_iconst (v := nI 2) O dL_law_237 (by decide) ?_
    refine v_iaddN O dL_law_238 ?_
    refine v_sld O hX hL (show 4 * j + 2 < L by omega) dL_law_239 ?_
    refine v_callVJ (wa := []) (wb := u0 ++ oW E o (vp_updL f 0 v9.toInt64) o2 g) (w := wm) (As := [.int (xs (4 * j + 1)), .int (xs (4 * j + 2))]) (st := []) O dL_law_240 lkL_98 CM 0 heM rfl rfl rfl ⟨m1, m2, by show _ + 1 ≤ 12; omega, by show _ ≤ 440; omega, by show k + 0 + 0 ≤ 1069; omega, by show n + 0 + 0 ≤ 11774; omega⟩ (fun r' u' hp' => ?_) (fun _ _ h => False.elim h)
    obtain rfl := hvM r' u' hp'
    have R1 := hrel _ u0 _ u' hp hp'
    refine v_cv (pc' := 243) (lv' := st1 (lvL b (ax 0) (am 0) o o2 j) 6 (.int (nI 0))) (st' := [.int v9]) (w' := [] ++ (u' ++ (u0 ++ oW E o (vp_updL f 0 v9.toInt64) o2 g))) ?_
    refine v_istore O dL_law_243 (by rw [hN]; decide) ?_
    refine v_aload_n O dL_law_245 rfl ?_
    obtain ⟨fs1, he1⟩ := rel_m R1
    refine v_callVJ (wa := []) (wb := u0 ++ oW E o (vp_updL f 0 v9.toInt64) o2 g) (w := u') (As := []) (st := []) O dL_law_246 lkL_92 (rel_t hst R1) 0 he1 rfl rfl rfl ⟨rfl, rfl, by decide, by decide, by show k + 0 + 0 + 0 ≤ 1069; omega, by show n + 0 + 0 + 0 ≤ 11774; omega⟩ (fun r9 u9 h9 => ?_) (fun _ _ h => False.elim h)
    obtain ⟨rfl, rfl⟩ := h9
    refine v_iload O dL_law_249 rfl ?_
    refine v_icmp_eq (tgt := 256) O dL_law_251 (by decide) (fun _ => ?_) (fun h => absurd rfl h)
    refine v_iload O dL_law_256 rfl ?_
    refine v_if_ne (tgt := 273) O dL_law_258 (by decide) (fun h => absurd rfl h) (fun _ => ?_)
    refine v_aload_n O dL_law_261 rfl ?_
    refine v_iconst (v := nI 0) O dL_law_262 (by decide) ?_
    refine v_w (w' := (u9 ++ u0) ++ oW E o (vp_updL f 0 v9.toInt64) o2 g) ((List.nil_append _).trans (List.append_assoc _ _ _).symm) ?_
    refine v_laldO O dL_law_263 ?_
    refine v_iload O dL_law_264 rfl ?_
    refine v_i2l O dL_law_266 ?_
    refine v_lcmp O dL_law_267 ?_
    refine v_if_eq (tgt := 273) O dL_law_268 (by decide) (fun _ => ?_) (fun h => absurd (cmp_self v9.toInt64) h)
    refine v_goto (tgt := 1543) O dL_law_273 (by decide) ?_
    refine v_w (w' := u9 ++ (u0 ++ oW E o (vp_updL f 0 v9.toInt64) o2 g)) (List.append_assoc _ _ _) ?_
    exact v_widen (k' := k + 1) (n' := n + 6) (by omega) (by omega) (v_ord [0, 1, 2, 3, 4, 5] (kk _ _ 0 u0 u9 R1))
  · obtain ⟨m1, m2, m3, m4⟩ := gm
    refine v_aload_n O dL_law_208 rfl ?_
    refine v_aload_n O dL_law_209 rfl ?_
    refine v_iload O dL_law_210 rfl ?_
    refine v_iconst (v := nI 1) O dL_law_212 (by decide) ?_
    refine v_iaddN O dL_law_213 ?_
    refine v_sld O hX hL (show 4 * j + 1 < L by omega) dL_law_214 ?_
    refine v_aload_n O dL_law_215 rfl ?_
    refine v_iload O dL_law_216 rfl ?_
    refine v_iconst (v := nI 2) O dL_law_218 (by decide) ?_
    refine v_iaddN O dL_law_219 ?_
    refine v_sld O hX hL (show 4 * j + 2 < L by omega) dL_law_220 ?_
    refine v_aload_n O dL_law_221 rfl ?_
    refine v_w (w' := wm ++ ((wx ++ oW E o f o2 g) ++ [])) (by rw [List.append_nil]) ?_
    refine v_callHJ (wa := wm) (wb := []) (w := wx ++ oW E o f o2 g) (As := [.ref (ax 0), .int (xs (4 * j + 1)), .int (xs (4 * j + 2)), .ref o]) (st := []) O dL_law_222 lkH_95 (lx_setPending1 hst (xs (4 * j + 1)) (xs (4 * j + 2)) heX gx CX) rfl rfl ⟨rfl, rfl, by decide, by decide, by show k + 1 ≤ 1069; omega, by show n + 6 ≤ 11774; omega⟩ (fun r u h => ?_) (fun _ _ h => False.elim h)
    obtain ⟨rfl, rfl⟩ := h
    refine v_w (w' := [] ++ (wm ++ (wx ++ oW E o f o2 g))) (by rw [List.append_nil]; rfl) ?_
    refine v_cv (pc' := 225) (lv' := lvL b (ax 0) (am 0) o o2 j) (st' := [.int (nI 1)]) (w' := [] ++ (wm ++ (wx ++ oW E o f o2 g))) ?_
    refine v_istore O dL_law_225 (by rw [hN]; decide) ?_
    refine v_aload_n O dL_law_227 rfl ?_
    refine v_aload_n O dL_law_228 rfl ?_
    refine v_iload O dL_law_229 rfl ?_
    refine v_iconst (v := nI 1) O dL_law_231 (by decide) ?_
    refine v_iaddN O dL_law_232 ?_
    refine v_sld O hX hL (show 4 * j + 1 < L by omega) dL_law_233 ?_
    refine v_aload_n O dL_law_234 rfl ?_
    refine v_iload O dL_law_235 rfl ?_
    refine v_iconst (v := nI 2) O dL_law_237 (by decide) ?_
    refine v_iaddN O dL_law_238 ?_
    refine v_sld O hX hL (show 4 * j + 2 < L by omega) dL_law_239 ?_
    refine v_callVJ (wa := []) (wb := wx ++ oW E o f o2 g) (w := wm) (As := [.int (xs (4 * j + 1)), .int (xs (4 * j + 2))]) (st := []) O dL_law_240 lkL_98 CM 0 heM rfl rfl rfl ⟨m1, m2, by show _ + 1 ≤ 12; omega, by show _ ≤ 440; omega, by show k + 1 + 0 ≤ 1069; omega, by show n + 6 + 0 ≤ 11774; omega⟩ (fun r' u' h => ?_) (fun _ _ h => False.elim h)
    obtain ⟨rfl, rfl⟩ := h
    have R1 := hrel
    refine v_cv (pc' := 243) (lv' := st1 (lvL b (ax 0) (am 0) o o2 j) 6 (.int (nI 1))) (st' := [.int (nI 0)]) (w' := [] ++ (u' ++ (wx ++ oW E o f o2 g))) ?_
    refine v_istore O dL_law_243 (by rw [hN]; decide) ?_
    refine v_aload_n O dL_law_245 rfl ?_
    obtain ⟨fs1, he1⟩ := rel_m R1
    refine v_callVJ (wa := []) (wb := wx ++ oW E o f o2 g) (w := u') (As := []) (st := []) O dL_law_246 lkL_92 (rel_t hst R1) 0 he1 rfl rfl rfl ⟨rfl, rfl, by decide, by decide, by show k + 1 + 0 + 0 ≤ 1069; omega, by show n + 6 + 0 + 0 ≤ 11774; omega⟩ (fun r9 u9 h9 => ?_) (fun _ _ h => False.elim h)
    obtain ⟨rfl, rfl⟩ := h9
    refine v_iload O dL_law_249 rfl ?_
    refine v_icmp_eq (tgt := 256) O dL_law_251 (by decide) (fun _ => ?_) (fun h => absurd rfl h)
    refine v_iload O dL_law_256 rfl ?_
    refine v_if_ne (tgt := 273) O dL_law_258 (by decide) (fun _ => ?_) (fun h => absurd h (by decide))
    refine v_goto (tgt := 1543) O dL_law_273 (by decide) ?_
    exact v_ord [0, 1, 2, 3, 4, 5] (kk _ _ 1 wx u9 R1)
  · obtain ⟨m1, m2, m3, m4⟩ := gm
    refine v_aload_n O dL_law_208 rfl ?_
    refine v_aload_n O dL_law_209 rfl ?_
    refine v_iload O dL_law_210 rfl ?_
    refine v_iconst (v := nI 1) O dL_law_212 (by decide) ?_
    refine v_iaddN O dL_law_213 ?_
    refine v_sld O hX hL (show 4 * j + 1 < L by omega) dL_law_214 ?_
    refine v_aload_n O dL_law_215 rfl ?_
    refine v_iload O dL_law_216 rfl ?_
    refine v_iconst (v := nI 2) O dL_law_218 (by decide) ?_
    refine v_iaddN O dL_law_219 ?_
    refine v_sld O hX hL (show 4 * j + 2 < L by omega) dL_law_220 ?_
    refine v_aload_n O dL_law_221 rfl ?_
    refine v_w (w' := wm ++ ((wx ++ oW E o f o2 g) ++ [])) (by rw [List.append_nil]) ?_
    refine v_callHJ (wa := wm) (wb := []) (w := wx ++ oW E o f o2 g) (As := [.ref (ax 0), .int (xs (4 * j + 1)), .int (xs (4 * j + 2)), .ref o]) (st := []) O dL_law_222 lkH_95 (lx_setPending2 hst (xs (4 * j + 1)) (xs (4 * j + 2)) heX gx CX) rfl rfl ⟨rfl, rfl, by decide, by decide, by show k + 1 ≤ 1069; omega, by show n + 6 ≤ 11774; omega⟩ (fun r u h => ?_) (fun _ _ h => False.elim h)
    obtain ⟨rfl, rfl⟩ := h
    refine v_w (w' := [] ++ (wm ++ (wx ++ oW E o f o2 g))) (by rw [List.append_nil]; rfl) ?_
    refine v_cv (pc' := 225) (lv' := lvL b (ax 0) (am 0) o o2 j) (st' := [.int (nI 2)]) (w' := [] ++ (wm ++ (wx ++ oW E o f o2 g))) ?_
    refine v_istore O dL_law_225 (by rw [hN]; decide) ?_
    refine v_aload_n O dL_law_227 rfl ?_
    refine v_aload_n O dL_law_228 rfl ?_
    refine v_iload O dL_law_229 rfl ?_
    refine v_iconst (v := nI 1) O dL_law_231 (by decide) ?_
    refine v_iaddN O dL_law_232 ?_
    refine v_sld O hX hL (show 4 * j + 1 < L by omega) dL_law_233 ?_
    refine v_aload_n O dL_law_234 rfl ?_
    refine v_iload O dL_law_235 rfl ?_
    refine v_iconst (v := nI 2) O dL_law_237 (by decide) ?_
    refine v_iaddN O dL_law_238 ?_
    refine v_sld O hX hL (show 4 * j + 2 < L by omega) dL_law_239 ?_
    refine v_callVJ (wa := []) (wb := wx ++ oW E o f o2 g) (w := wm) (As := [.int (xs (4 * j + 1)), .int (xs (4 * j + 2))]) (st := []) O dL_law_240 lkL_98 CM 0 heM rfl rfl rfl ⟨m1, m2, by show _ + 1 ≤ 12; omega, by show _ ≤ 440; omega, by show k + 1 + 0 ≤ 1069; omega, by show n + 6 + 0 ≤ 11774; omega⟩ (fun r' u' h => ?_) (fun _ _ h => False.elim h)
    obtain ⟨rfl, rfl⟩ := h
    have R1 := hrel
    refine v_cv (pc' := 243) (lv' := st1 (lvL b (ax 0) (am 0) o o2 j) 6 (.int (nI 2))) (st' := [.int (nI 0)]) (w' := [] ++ (u' ++ (wx ++ oW E o f o2 g))) ?_
    refine v_istore O dL_law_243 (by rw [hN]; decide) ?_
    refine v_aload_n O dL_law_245 rfl ?_
    obtain ⟨fs1, he1⟩ := rel_m R1
    refine v_callVJ (wa := []) (wb := wx ++ oW E o f o2 g) (w := u') (As := []) (st := []) O dL_law_246 lkL_92 (rel_t hst R1) 0 he1 rfl rfl rfl ⟨rfl, rfl, by decide, by decide, by show k + 1 + 0 + 0 ≤ 1069; omega, by show n + 6 + 0 + 0 ≤ 11774; omega⟩ (fun r9 u9 h9 => ?_) (fun _ _ h => False.elim h)
    obtain ⟨rfl, rfl⟩ := h9
    refine v_iload O dL_law_249 rfl ?_
    refine v_icmp_eq (tgt := 256) O dL_law_251 (by decide) (fun _ => ?_) (fun h => absurd rfl h)
    refine v_iload O dL_law_256 rfl ?_
    refine v_if_ne (tgt := 273) O dL_law_258 (by decide) (fun _ => ?_) (fun h => absurd h (by decide))
    refine v_goto (tgt := 1543) O dL_law_273 (by decide) ?_
    exact v_ord [0, 1, 2, 3, 4, 5] (kk _ _ 2 wx u9 R1)
theorem b_advance {E : ET} {G : GT} {tb : List ExceptionTableEntry} (O : OKG E G cL_law RL room_1 tb) (hst : E.1.stackTraces = false) (hN : nLG G = 9) {b L : Nat} {xs : Nat → Int32} (hX : scrG G b L xs) (hL : L ≤ 2048) {ax am : Nat → Nat} {o o2 : Nat} {f : Nat → Int64} {g : Nat → UInt64} {th : Nat} {wx wm : va_W} (R : REL E ax am th wx wm) {j k n : Nat} (hj : 4 * j + 4 ≤ L) (hk : k + 1 ≤ 1069) (hn : n + 6 ≤ 11774) (kk : ∀ f g th wx wm, REL E ax am th wx wm → V E G (k + 1) (n + 6) 1543 (lvL b (ax 0) (am 0) o o2 j) [] (wm ++ (wx ++ oW E o f o2 g))) : V E G k n 276 (lvL b (ax 0) (am 0) o o2 j) [] (wm ++ (wx ++ oW E o f o2 g)) := by
  obtain ⟨fsX, heX⟩ := rel_x R
  obtain ⟨fsM, heM⟩ := rel_m R
  obtain ⟨v9, rx, PX, rm, PM, gx, gm, CX, CM, hvX, hvM, hrel⟩ := op_advance hst R
  obtain ⟨x1, x2, x3, x4⟩ := gx
  obtain ⟨m1, m2, m3, m4⟩ := gm
  refine v_aload_n O dL_law_276 rfl ?_
  refine v_callVJ (wa := wm) (wb := oW E o f o2 g) (w := wx) (As := []) (st := []) O dL_law_277 lkL_99 CX 0 heX rfl rfl rfl ⟨x1, x2, by show _ + 1 ≤ 12; omega, by show _ ≤ 440; omega, by show k + 0 ≤ 1069; omega, by show n + 0 ≤ 11774; omega⟩ (fun r u hp => ?_) (fun _ _ h => False.elim h)
  obtain rfl := hvX r u hp
  refine v_cv (pc' := 280) (lv' := lvL b (ax 0) (am 0) o o2 j) (st' := [.int v9]) (w' := [] ++ (wm ++ (u ++ oW E o f o2 g))) ?_
  refine v_aload_n O dL_law_280 rfl ?_
  refine v_callVJ (wa := []) (wb := u ++ oW E o f o2 g) (w := wm) (As := []) (st := [.int v9]) O dL_law_281 lkL_102 CM 0 heM rfl rfl rfl ⟨m1, m2, by show _ + 1 ≤ 12; omega, by show _ ≤ 440; omega, by show k + 0 + 0 ≤ 1069; omega, by show n + 0 + 0 ≤ 11774; omega⟩ (fun r' u' hp' => ?_) (fun _ _ h => False.elim h)
  obtain rfl := hvM r' u' hp'
  refine v_cv (pc' := 284) (lv' := lvL b (ax 0) (am 0) o o2 j) (st' := [.int v9, .int v9]) (w' := u' ++ (u ++ oW E o f o2 g)) ?_
  refine v_icmp_eq (tgt := 1543) O dL_law_284 (by decide) (fun _ => ?_) (fun h => absurd rfl h)
  exact v_widen (k' := k + 1) (n' := n + 6) (by omega) (by omega) (kk f g 0 u u' (hrel _ u _ u' hp hp'))
theorem b_append {E : ET} {G : GT} {tb : List ExceptionTableEntry} (O : OKG E G cL_law RL room_1 tb) (hst : E.1.stackTraces = false) (hN : nLG G = 9) {b L : Nat} {xs : Nat → Int32} (hX : scrG G b L xs) (hL : L ≤ 2048) {ax am : Nat → Nat} {o o2 : Nat} {f : Nat → Int64} {g : Nat → UInt64} {th : Nat} {wx wm : va_W} (R : REL E ax am th wx wm) {j k n : Nat} (hj : 4 * j + 4 ≤ L) (hk : k + 1 ≤ 1069) (hn : n + 6 ≤ 11774) (kk : ∀ f g th wx wm, REL E ax am th wx wm → V E G (k + 1) (n + 6) 1543 (lvL b (ax 0) (am 0) o o2 j) [] (wm ++ (wx ++ oW E o f o2 g))) : V E G k n 289 (lvL b (ax 0) (am 0) o o2 j) [] (wm ++ (wx ++ oW E o f o2 g)) := by
  obtain ⟨fsX, heX⟩ := rel_x R
  obtain ⟨fsM, heM⟩ := rel_m R
  rcases op_append hst R (xs (4 * j + 1)) with ⟨v9, rx, PX, rm, PM, gx, gm, CX, CM, hvX, hvM, hrel⟩ | ⟨rx, rm, wm1, gx, gm, CX, CM, hrel⟩ | ⟨rx, rm, wm1, gx, gm, CX, CM, hrel⟩
  · obtain ⟨m1, m2, m3, m4⟩ := gm
    refine v_aload_n O dL_law_289 rfl ?_
    refine v_aload_n O dL_law_290 rfl ?_
    refine v_iload O dL_law_291 rfl ?_
    refine v_iconst (v := nI 1) O dL_law_293 (by decide) ?_
    refine v_iaddN O dL_law_294 ?_
    refine v_sld O hX hL (show 4 * j + 1 < L by omega) dL_law_295 ?_
    refine v_aload_n O dL_law_296 rfl ?_
    refine v_w (w' := wm ++ ((wx ++ oW E o f o2 g) ++ [])) (by rw [List.append_nil]) ?_
    refine v_callHJ (wa := wm) (wb := []) (w := wx ++ oW E o f o2 g) (As := [.ref (ax 0), .int (xs (4 * j + 1)), .ref o]) (st := []) O dL_law_297 lkH_103 (l_append hst (xs (4 * j + 1)) heX gx CX hvX) rfl rfl ⟨rfl, rfl, by decide, by decide, by show k + 0 ≤ 1069; omega, by show n + 0 ≤ 11774; omega⟩ (fun r u h => ?_) (fun _ _ h => False.elim h)
    obtain ⟨rfl, r0, u0, hp, rfl⟩ := h
    refine v_w (w' := [] ++ (wm ++ (u0 ++ oW E o (vp_updL f 0 v9.toInt64) o2 g))) (by rw [List.append_nil]; rfl) ?_
    refine v_cv (pc' := 300) (lv' := lvL b (ax 0) (am 0) o o2 j) (st' := [.int (nI 0)]) (w' := [] ++ (wm ++ (u0 ++ oW E o (vp_updL f 0 v9.toInt64) o2 g))) ?_
    refine v_istore O dL_law_300 (by rw [hN]; decide) ?_
    refine v_aload_n O dL_law_302 rfl ?_
    refine v_aload_n O dL_law_303 rfl ?_
    refine v_iload O dL_law_304 rfl ?_
    refine v_iconst (v := nI 1) O dL_law_306 (by decide) ?_
    refine v_iaddN O dL_law_307 ?_
    refine v_sld O hX hL (show 4 * j + 1 < L by omega) dL_law_308 ?_
    refine v_callVJ (wa := []) (wb := u0 ++ oW E o (vp_updL f 0 v9.toInt64) o2 g) (w := wm) (As := [.int (xs (4 * j + 1))]) (st := []) O dL_law_309 lkL_105 CM 0 heM rfl rfl rfl ⟨m1, m2, by show _ + 1 ≤ 12; omega, by show _ ≤ 440; omega, by show k + 0 + 0 ≤ 1069; omega, by show n + 0 + 0 ≤ 11774; omega⟩ (fun r' u' hp' => ?_) (fun _ _ h => False.elim h)
    obtain rfl := hvM r' u' hp'
    have R1 := hrel _ u0 _ u' hp hp'
    refine v_cv (pc' := 312) (lv' := st1 (lvL b (ax 0) (am 0) o o2 j) 6 (.int (nI 0))) (st' := [.int v9]) (w' := [] ++ (u' ++ (u0 ++ oW E o (vp_updL f 0 v9.toInt64) o2 g))) ?_
    refine v_istore O dL_law_312 (by rw [hN]; decide) ?_
    refine v_aload_n O dL_law_314 rfl ?_
    obtain ⟨fs1, he1⟩ := rel_m R1
    refine v_callVJ (wa := []) (wb := u0 ++ oW E o (vp_updL f 0 v9.toInt64) o2 g) (w := u') (As := []) (st := []) O dL_law_315 lkL_92 (rel_t hst R1) 0 he1 rfl rfl rfl ⟨rfl, rfl, by decide, by decide, by show k + 0 + 0 + 0 ≤ 1069; omega, by show n + 0 + 0 + 0 ≤ 11774; omega⟩ (fun r9 u9 h9 => ?_) (fun _ _ h => False.elim h)
    obtain ⟨rfl, rfl⟩ := h9
    refine v_iload O dL_law_318 rfl ?_
    refine v_icmp_eq (tgt := 325) O dL_law_320 (by decide) (fun _ => ?_) (fun h => absurd rfl h)
    refine v_iload O dL_law_325 rfl ?_
    refine v_if_ne (tgt := 342) O dL_law_327 (by decide) (fun h => absurd rfl h) (fun _ => ?_)
    refine v_aload_n O dL_law_330 rfl ?_
    refine v_iconst (v := nI 0) O dL_law_331 (by decide) ?_
    refine v_w (w' := (u9 ++ u0) ++ oW E o (vp_updL f 0 v9.toInt64) o2 g) ((List.nil_append _).trans (List.append_assoc _ _ _).symm) ?_
    refine v_laldO O dL_law_332 ?_
    refine v_iload O dL_law_333 rfl ?_
    refine v_i2l O dL_law_335 ?_
    refine v_lcmp O dL_law_336 ?_
    refine v_if_eq (tgt := 342) O dL_law_337 (by decide) (fun _ => ?_) (fun h => absurd (cmp_self v9.toInt64) h)
    refine v_goto (tgt := 1543) O dL_law_342 (by decide) ?_
    refine v_w (w' := u9 ++ (u0 ++ oW E o (vp_updL f 0 v9.toInt64) o2 g)) (List.append_assoc _ _ _) ?_
    exact v_widen (k' := k + 1) (n' := n + 6) (by omega) (by omega) (v_ord [0, 1, 2, 3, 4, 5] (kk _ _ 0 u0 u9 R1))
  · obtain ⟨m1, m2, m3, m4⟩ := gm
    refine v_aload_n O dL_law_289 rfl ?_
    refine v_aload_n O dL_law_290 rfl ?_
    refine v_iload O dL_law_291 rfl ?_
    refine v_iconst (v := nI 1) O dL_law_293 (by decide) ?_
    refine v_iaddN O dL_law_294 ?_
    refine v_sld O hX hL (show 4 * j + 1 < L by omega) dL_law_295 ?_
    refine v_aload_n O dL_law_296 rfl ?_
    refine v_w (w' := wm ++ ((wx ++ oW E o f o2 g) ++ [])) (by rw [List.append_nil]) ?_
    refine v_callHJ (wa := wm) (wb := []) (w := wx ++ oW E o f o2 g) (As := [.ref (ax 0), .int (xs (4 * j + 1)), .ref o]) (st := []) O dL_law_297 lkH_103 (lx_append1 hst (xs (4 * j + 1)) heX gx CX) rfl rfl ⟨rfl, rfl, by decide, by decide, by show k + 1 ≤ 1069; omega, by show n + 6 ≤ 11774; omega⟩ (fun r u h => ?_) (fun _ _ h => False.elim h)
    obtain ⟨rfl, rfl⟩ := h
    refine v_w (w' := [] ++ (wm ++ (wx ++ oW E o f o2 g))) (by rw [List.append_nil]; rfl) ?_
    refine v_cv (pc' := 300) (lv' := lvL b (ax 0) (am 0) o o2 j) (st' := [.int (nI 1)]) (w' := [] ++ (wm ++ (wx ++ oW E o f o2 g))) ?_
    refine v_istore O dL_law_300 (by rw [hN]; decide) ?_
    refine v_aload_n O dL_law_302 rfl ?_
    refine v_aload_n O dL_law_303 rfl ?_
    refine v_iload O dL_law_304 rfl ?_
    refine v_iconst (v := nI 1) O dL_law_306 (by decide) ?_
    refine v_iaddN O dL_law_307 ?_
    refine v_sld O hX hL (show 4 * j + 1 < L by omega) dL_law_308 ?_
    refine v_callVJ (wa := []) (wb := wx ++ oW E o f o2 g) (w := wm) (As := [.int (xs (4 * j + 1))]) (st := []) O dL_law_309 lkL_105 CM 0 heM rfl rfl rfl ⟨m1, m2, by show _ + 1 ≤ 12; omega, by show _ ≤ 440; omega, by show k + 1 + 0 ≤ 1069; omega, by show n + 6 + 0 ≤ 11774; omega⟩ (fun r' u' h => ?_) (fun _ _ h => False.elim h)
    obtain ⟨rfl, rfl⟩ := h
    have R1 := hrel
    refine v_cv (pc' := 312) (lv' := st1 (lvL b (ax 0) (am 0) o o2 j) 6 (.int (nI 1))) (st' := [.int (nI 0)]) (w' := [] ++ (u' ++ (wx ++ oW E o f o2 g))) ?_
    refine v_istore O dL_law_312 (by rw [hN]; decide) ?_
    refine v_aload_n O dL_law_314 rfl ?_
    obtain ⟨fs1, he1⟩ := rel_m R1
    refine v_callVJ (wa := []) (wb := wx ++ oW E o f o2 g) (w := u') (As := []) (st := []) O dL_law_315 lkL_92 (rel_t hst R1) 0 he1 rfl rfl rfl ⟨rfl, rfl, by decide, by decide, by show k + 1 + 0 + 0 ≤ 1069; omega, by show n + 6 + 0 + 0 ≤ 11774; omega⟩ (fun r9 u9 h9 => ?_) (fun _ _ h => False.elim h)
    obtain ⟨rfl, rfl⟩ := h9
    refine v_iload O dL_law_318 rfl ?_
    refine v_icmp_eq (tgt := 325) O dL_law_320 (by decide) (fun _ => ?_) (fun h => absurd rfl h)
    refine v_iload O dL_law_325 rfl ?_
    refine v_if_ne (tgt := 342) O dL_law_327 (by decide) (fun _ => ?_) (fun h => absurd h (by decide))
    refine v_goto (tgt := 1543) O dL_law_342 (by decide) ?_
    exact v_ord [0, 1, 2, 3, 4, 5] (kk _ _ 1 wx u9 R1)
  · obtain ⟨m1, m2, m3, m4⟩ := gm
    refine v_aload_n O dL_law_289 rfl ?_
    refine v_aload_n O dL_law_290 rfl ?_
    refine v_iload O dL_law_291 rfl ?_
    refine v_iconst (v := nI 1) O dL_law_293 (by decide) ?_
    refine v_iaddN O dL_law_294 ?_
    refine v_sld O hX hL (show 4 * j + 1 < L by omega) dL_law_295 ?_
    refine v_aload_n O dL_law_296 rfl ?_
    refine v_w (w' := wm ++ ((wx ++ oW E o f o2 g) ++ [])) (by rw [List.append_nil]) ?_
    refine v_callHJ (wa := wm) (wb := []) (w := wx ++ oW E o f o2 g) (As := [.ref (ax 0), .int (xs (4 * j + 1)), .ref o]) (st := []) O dL_law_297 lkH_103 (lx_append2 hst (xs (4 * j + 1)) heX gx CX) rfl rfl ⟨rfl, rfl, by decide, by decide, by show k + 1 ≤ 1069; omega, by show n + 6 ≤ 11774; omega⟩ (fun r u h => ?_) (fun _ _ h => False.elim h)
    obtain ⟨rfl, rfl⟩ := h
    refine v_w (w' := [] ++ (wm ++ (wx ++ oW E o f o2 g))) (by rw [List.append_nil]; rfl) ?_
    refine v_cv (pc' := 300) (lv' := lvL b (ax 0) (am 0) o o2 j) (st' := [.int (nI 2)]) (w' := [] ++ (wm ++ (wx ++ oW E o f o2 g))) ?_
    refine v_istore O dL_law_300 (by rw [hN]; decide) ?_
    refine v_aload_n O dL_law_302 rfl ?_
    refine v_aload_n O dL_law_303 rfl ?_
    refine v_iload O dL_law_304 rfl ?_
    refine v_iconst (v := nI 1) O dL_law_306 (by decide) ?_
    refine v_iaddN O dL_law_307 ?_
    refine v_sld O hX hL (show 4 * j + 1 < L by omega) dL_law_308 ?_
    refine v_callVJ (wa := []) (wb := wx ++ oW E o f o2 g) (w := wm) (As := [.int (xs (4 * j + 1))]) (st := []) O dL_law_309 lkL_105 CM 0 heM rfl rfl rfl ⟨m1, m2, by show _ + 1 ≤ 12; omega, by show _ ≤ 440; omega, by show k + 1 + 0 ≤ 1069; omega, by show n + 6 + 0 ≤ 11774; omega⟩ (fun r' u' h => ?_) (fun _ _ h => False.elim h)
    obtain ⟨rfl, rfl⟩ := h
    have R1 := hrel
    refine v_cv (pc' := 312) (lv' := st1 (lvL b (ax 0) (am 0) o o2 j) 6 (.int (nI 2))) (st' := [.int (nI 0)]) (w' := [] ++ (u' ++ (wx ++ oW E o f o2 g))) ?_
    refine v_istore O dL_law_312 (by rw [hN]; decide) ?_
    refine v_aload_n O dL_law_314 rfl ?_
    obtain ⟨fs1, he1⟩ := rel_m R1
    refine v_callVJ (wa := []) (wb := wx ++ oW E o f o2 g) (w := u') (As := []) (st := []) O dL_law_315 lkL_92 (rel_t hst R1) 0 he1 rfl rfl rfl ⟨rfl, rfl, by decide, by decide, by show k + 1 + 0 + 0 ≤ 1069; omega, by show n + 6 + 0 + 0 ≤ 11774; omega⟩ (fun r9 u9 h9 => ?_) (fun _ _ h => False.elim h)
    obtain ⟨rfl, rfl⟩ := h9
    refine v_iload O dL_law_318 rfl ?_
    refine v_icmp_eq (tgt := 325) O dL_law_320 (by decide) (fun _ => ?_) (fun h => absurd rfl h)
    refine v_iload O dL_law_325 rfl ?_
    refine v_if_ne (tgt := 342) O dL_law_327 (by decide) (fun _ => ?_) (fun h => absurd h (by decide))
    refine v_goto (tgt := 1543) O dL_law_342 (by decide) ?_
    exact v_ord [0, 1, 2, 3, 4, 5] (kk _ _ 2 wx u9 R1)
theorem b_clearInput {E : ET} {G : GT} {tb : List ExceptionTableEntry} (O : OKG E G cL_law RL room_1 tb) (hst : E.1.stackTraces = false) (hN : nLG G = 9) {b L : Nat} {xs : Nat → Int32} (hX : scrG G b L xs) (hL : L ≤ 2048) {ax am : Nat → Nat} {o o2 : Nat} {f : Nat → Int64} {g : Nat → UInt64} {th : Nat} {wx wm : va_W} (R : REL E ax am th wx wm) {j k n : Nat} (hj : 4 * j + 4 ≤ L) (hk : k + 1 ≤ 1069) (hn : n + 6 ≤ 11774) (kk : ∀ f g th wx wm, REL E ax am th wx wm → V E G (k + 1) (n + 6) 1543 (lvL b (ax 0) (am 0) o o2 j) [] (wm ++ (wx ++ oW E o f o2 g))) : V E G k n 345 (lvL b (ax 0) (am 0) o o2 j) [] (wm ++ (wx ++ oW E o f o2 g)) := by
  obtain ⟨fsX, heX⟩ := rel_x R
  obtain ⟨fsM, heM⟩ := rel_m R
  obtain ⟨v9, rx, PX, rm, PM, gx, gm, CX, CM, hvX, hvM, hrel⟩ := op_clearInput hst R
  obtain ⟨x1, x2, x3, x4⟩ := gx
  obtain ⟨m1, m2, m3, m4⟩ := gm
  refine v_aload_n O dL_law_345 rfl ?_
  refine v_callVJ (wa := wm) (wb := oW E o f o2 g) (w := wx) (As := []) (st := []) O dL_law_346 lkL_106 CX 0 heX rfl rfl rfl ⟨x1, x2, by show _ + 1 ≤ 12; omega, by show _ ≤ 440; omega, by show k + 0 ≤ 1069; omega, by show n + 0 ≤ 11774; omega⟩ (fun r u hp => ?_) (fun _ _ h => False.elim h)
  obtain rfl := hvX r u hp
  refine v_cv (pc' := 349) (lv' := lvL b (ax 0) (am 0) o o2 j) (st' := [.int v9]) (w' := [] ++ (wm ++ (u ++ oW E o f o2 g))) ?_
  refine v_aload_n O dL_law_349 rfl ?_
  refine v_callVJ (wa := []) (wb := u ++ oW E o f o2 g) (w := wm) (As := []) (st := [.int v9]) O dL_law_350 lkL_109 CM 0 heM rfl rfl rfl ⟨m1, m2, by show _ + 1 ≤ 12; omega, by show _ ≤ 440; omega, by show k + 0 + 0 ≤ 1069; omega, by show n + 0 + 0 ≤ 11774; omega⟩ (fun r' u' hp' => ?_) (fun _ _ h => False.elim h)
  obtain rfl := hvM r' u' hp'
  refine v_cv (pc' := 353) (lv' := lvL b (ax 0) (am 0) o o2 j) (st' := [.int v9, .int v9]) (w' := u' ++ (u ++ oW E o f o2 g)) ?_
  refine v_icmp_eq (tgt := 1543) O dL_law_353 (by decide) (fun _ => ?_) (fun h => absurd rfl h)
  exact v_widen (k' := k + 1) (n' := n + 6) (by omega) (by omega) (kk f g 0 u u' (hrel _ u _ u' hp hp'))
theorem b_firstError {E : ET} {G : GT} {tb : List ExceptionTableEntry} (O : OKG E G cL_law RL room_1 tb) (hst : E.1.stackTraces = false) (hN : nLG G = 9) {b L : Nat} {xs : Nat → Int32} (hX : scrG G b L xs) (hL : L ≤ 2048) {ax am : Nat → Nat} {o o2 : Nat} {f : Nat → Int64} {g : Nat → UInt64} {th : Nat} {wx wm : va_W} (R : REL E ax am th wx wm) {j k n : Nat} (hj : 4 * j + 4 ≤ L) (hk : k + 1 ≤ 1069) (hn : n + 6 ≤ 11774) (kk : ∀ f g th wx wm, REL E ax am th wx wm → V E G (k + 1) (n + 6) 1543 (lvL b (ax 0) (am 0) o o2 j) [] (wm ++ (wx ++ oW E o f o2 g))) : V E G k n 358 (lvL b (ax 0) (am 0) o o2 j) [] (wm ++ (wx ++ oW E o f o2 g)) := by
  obtain ⟨fsX, heX⟩ := rel_x R
  obtain ⟨fsM, heM⟩ := rel_m R
  obtain ⟨v9, rx, PX, rm, PM, gx, gm, CX, CM, hvX, hvM, hrel⟩ := op_firstError hst R
  obtain ⟨x1, x2, x3, x4⟩ := gx
  obtain ⟨m1, m2, m3, m4⟩ := gm
  refine v_aload_n O dL_law_358 rfl ?_
  refine v_callVJ (wa := wm) (wb := oW E o f o2 g) (w := wx) (As := []) (st := []) O dL_law_359 lkL_110 CX 0 heX rfl rfl rfl ⟨x1, x2, by show _ + 1 ≤ 12; omega, by show _ ≤ 440; omega, by show k + 0 ≤ 1069; omega, by show n + 0 ≤ 11774; omega⟩ (fun r u hp => ?_) (fun _ _ h => False.elim h)
  obtain rfl := hvX r u hp
  refine v_cv (pc' := 362) (lv' := lvL b (ax 0) (am 0) o o2 j) (st' := [.int v9]) (w' := [] ++ (wm ++ (u ++ oW E o f o2 g))) ?_
  refine v_aload_n O dL_law_362 rfl ?_
  refine v_callVJ (wa := []) (wb := u ++ oW E o f o2 g) (w := wm) (As := []) (st := [.int v9]) O dL_law_363 lkL_113 CM 0 heM rfl rfl rfl ⟨m1, m2, by show _ + 1 ≤ 12; omega, by show _ ≤ 440; omega, by show k + 0 + 0 ≤ 1069; omega, by show n + 0 + 0 ≤ 11774; omega⟩ (fun r' u' hp' => ?_) (fun _ _ h => False.elim h)
  obtain rfl := hvM r' u' hp'
  refine v_cv (pc' := 366) (lv' := lvL b (ax 0) (am 0) o o2 j) (st' := [.int v9, .int v9]) (w' := u' ++ (u ++ oW E o f o2 g)) ?_
  refine v_icmp_eq (tgt := 1543) O dL_law_366 (by decide) (fun _ => ?_) (fun h => absurd rfl h)
  exact v_widen (k' := k + 1) (n' := n + 6) (by omega) (by omega) (kk f g 0 u u' (hrel _ u _ u' hp hp'))
theorem b_load {E : ET} {G : GT} {tb : List ExceptionTableEntry} (O : OKG E G cL_law RL room_1 tb) (hst : E.1.stackTraces = false) (hN : nLG G = 9) {b L : Nat} {xs : Nat → Int32} (hX : scrG G b L xs) (hL : L ≤ 2048) {ax am : Nat → Nat} {o o2 : Nat} {f : Nat → Int64} {g : Nat → UInt64} {th : Nat} {wx wm : va_W} (R : REL E ax am th wx wm) {j k n : Nat} (hj : 4 * j + 4 ≤ L) (hk : k + 1 ≤ 1069) (hn : n + 6 ≤ 11774) (kk : ∀ f g th wx wm, REL E ax am th wx wm → V E G (k + 1) (n + 6) 1543 (lvL b (ax 0) (am 0) o o2 j) [] (wm ++ (wx ++ oW E o f o2 g))) : V E G k n 371 (lvL b (ax 0) (am 0) o o2 j) [] (wm ++ (wx ++ oW E o f o2 g)) := by
  obtain ⟨fsX, heX⟩ := rel_x R
  obtain ⟨fsM, heM⟩ := rel_m R
  rcases op_load hst R  with ⟨v9, rx, PX, rm, PM, gx, gm, CX, CM, hvX, hvM, hrel⟩ | ⟨rx, rm, wm1, gx, gm, CX, CM, hrel⟩
  · obtain ⟨m1, m2, m3, m4⟩ := gm
    refine v_aload_n O dL_law_371 rfl ?_
    refine v_aload_n O dL_law_372 rfl ?_
    refine v_w (w' := wm ++ ((wx ++ oW E o f o2 g) ++ [])) (by rw [List.append_nil]) ?_
    refine v_callHJ (wa := wm) (wb := []) (w := wx ++ oW E o f o2 g) (As := [.ref (ax 0), .ref o]) (st := []) O dL_law_373 lkH_114 (l_load hst  heX gx CX hvX) rfl rfl ⟨rfl, rfl, by decide, by decide, by show k + 0 ≤ 1069; omega, by show n + 0 ≤ 11774; omega⟩ (fun r u h => ?_) (fun _ _ h => False.elim h)
    obtain ⟨rfl, r0, u0, hp, rfl⟩ := h
    refine v_w (w' := [] ++ (wm ++ (u0 ++ oW E o (vp_updL f 0 v9.toInt64) o2 g))) (by rw [List.append_nil]; rfl) ?_
    refine v_cv (pc' := 376) (lv' := lvL b (ax 0) (am 0) o o2 j) (st' := [.int (nI 0)]) (w' := [] ++ (wm ++ (u0 ++ oW E o (vp_updL f 0 v9.toInt64) o2 g))) ?_
    refine v_istore O dL_law_376 (by rw [hN]; decide) ?_
    refine v_aload_n O dL_law_378 rfl ?_
    refine v_callVJ (wa := []) (wb := u0 ++ oW E o (vp_updL f 0 v9.toInt64) o2 g) (w := wm) (As := []) (st := []) O dL_law_379 lkL_117 CM 0 heM rfl rfl rfl ⟨m1, m2, by show _ + 1 ≤ 12; omega, by show _ ≤ 440; omega, by show k + 0 + 0 ≤ 1069; omega, by show n + 0 + 0 ≤ 11774; omega⟩ (fun r' u' hp' => ?_) (fun _ _ h => False.elim h)
    obtain rfl := hvM r' u' hp'
    have R1 := hrel _ u0 _ u' hp hp'
    refine v_cv (pc' := 382) (lv' := st1 (lvL b (ax 0) (am 0) o o2 j) 6 (.int (nI 0))) (st' := [.int v9]) (w' := [] ++ (u' ++ (u0 ++ oW E o (vp_updL f 0 v9.toInt64) o2 g))) ?_
    refine v_istore O dL_law_382 (by rw [hN]; decide) ?_
    refine v_aload_n O dL_law_384 rfl ?_
    obtain ⟨fs1, he1⟩ := rel_m R1
    refine v_callVJ (wa := []) (wb := u0 ++ oW E o (vp_updL f 0 v9.toInt64) o2 g) (w := u') (As := []) (st := []) O dL_law_385 lkL_92 (rel_t hst R1) 0 he1 rfl rfl rfl ⟨rfl, rfl, by decide, by decide, by show k + 0 + 0 + 0 ≤ 1069; omega, by show n + 0 + 0 + 0 ≤ 11774; omega⟩ (fun r9 u9 h9 => ?_) (fun _ _ h => False.elim h)
    obtain ⟨rfl, rfl⟩ := h9
    refine v_iload O dL_law_388 rfl ?_
    refine v_icmp_eq (tgt := 395) O dL_law_390 (by decide) (fun _ => ?_) (fun h => absurd rfl h)
    refine v_iload O dL_law_395 rfl ?_
    refine v_if_ne (tgt := 412) O dL_law_397 (by decide) (fun h => absurd rfl h) (fun _ => ?_)
    refine v_aload_n O dL_law_400 rfl ?_
    refine v_iconst (v := nI 0) O dL_law_401 (by decide) ?_
    refine v_w (w' := (u9 ++ u0) ++ oW E o (vp_updL f 0 v9.toInt64) o2 g) ((List.nil_append _).trans (List.append_assoc _ _ _).symm) ?_
    refine v_laldO O dL_law_402 ?_
    refine v_iload O dL_law_403 rfl ?_
    refine v_i2l O dL_law_405 ?_
    refine v_lcmp O dL_law_406 ?_
    refine v_if_eq (tgt := 412) O dL_law_407 (by decide) (fun _ => ?_) (fun h => absurd (cmp_self v9.toInt64) h)
    refine v_goto (tgt := 1543) O dL_law_412 (by decide) ?_
    refine v_w (w' := u9 ++ (u0 ++ oW E o (vp_updL f 0 v9.toInt64) o2 g)) (List.append_assoc _ _ _) ?_
    exact v_widen (k' := k + 1) (n' := n + 6) (by omega) (by omega) (v_ord [0, 1, 2, 3, 4, 5] (kk _ _ 0 u0 u9 R1))
  · obtain ⟨m1, m2, m3, m4⟩ := gm
    refine v_aload_n O dL_law_371 rfl ?_
    refine v_aload_n O dL_law_372 rfl ?_
    refine v_w (w' := wm ++ ((wx ++ oW E o f o2 g) ++ [])) (by rw [List.append_nil]) ?_
    refine v_callHJ (wa := wm) (wb := []) (w := wx ++ oW E o f o2 g) (As := [.ref (ax 0), .ref o]) (st := []) O dL_law_373 lkH_114 (lx_load1 hst  heX gx CX) rfl rfl ⟨rfl, rfl, by decide, by decide, by show k + 1 ≤ 1069; omega, by show n + 6 ≤ 11774; omega⟩ (fun r u h => ?_) (fun _ _ h => False.elim h)
    obtain ⟨rfl, rfl⟩ := h
    refine v_w (w' := [] ++ (wm ++ (wx ++ oW E o f o2 g))) (by rw [List.append_nil]; rfl) ?_
    refine v_cv (pc' := 376) (lv' := lvL b (ax 0) (am 0) o o2 j) (st' := [.int (nI 1)]) (w' := [] ++ (wm ++ (wx ++ oW E o f o2 g))) ?_
    refine v_istore O dL_law_376 (by rw [hN]; decide) ?_
    refine v_aload_n O dL_law_378 rfl ?_
    refine v_callVJ (wa := []) (wb := wx ++ oW E o f o2 g) (w := wm) (As := []) (st := []) O dL_law_379 lkL_117 CM 0 heM rfl rfl rfl ⟨m1, m2, by show _ + 1 ≤ 12; omega, by show _ ≤ 440; omega, by show k + 1 + 0 ≤ 1069; omega, by show n + 6 + 0 ≤ 11774; omega⟩ (fun r' u' h => ?_) (fun _ _ h => False.elim h)
    obtain ⟨rfl, rfl⟩ := h
    have R1 := hrel
    refine v_cv (pc' := 382) (lv' := st1 (lvL b (ax 0) (am 0) o o2 j) 6 (.int (nI 1))) (st' := [.int (nI 0)]) (w' := [] ++ (u' ++ (wx ++ oW E o f o2 g))) ?_
    refine v_istore O dL_law_382 (by rw [hN]; decide) ?_
    refine v_aload_n O dL_law_384 rfl ?_
    obtain ⟨fs1, he1⟩ := rel_m R1
    refine v_callVJ (wa := []) (wb := wx ++ oW E o f o2 g) (w := u') (As := []) (st := []) O dL_law_385 lkL_92 (rel_t hst R1) 0 he1 rfl rfl rfl ⟨rfl, rfl, by decide, by decide, by show k + 1 + 0 + 0 ≤ 1069; omega, by show n + 6 + 0 + 0 ≤ 11774; omega⟩ (fun r9 u9 h9 => ?_) (fun _ _ h => False.elim h)
    obtain ⟨rfl, rfl⟩ := h9
    refine v_iload O dL_law_388 rfl ?_
    refine v_icmp_eq (tgt := 395) O dL_law_390 (by decide) (fun _ => ?_) (fun h => absurd rfl h)
    refine v_iload O dL_law_395 rfl ?_
    refine v_if_ne (tgt := 412) O dL_law_397 (by decide) (fun _ => ?_) (fun h => absurd h (by decide))
    refine v_goto (tgt := 1543) O dL_law_412 (by decide) ?_
    exact v_ord [0, 1, 2, 3, 4, 5] (kk _ _ 1 wx u9 R1)
theorem b_inject {E : ET} {G : GT} {tb : List ExceptionTableEntry} (O : OKG E G cL_law RL room_1 tb) (hst : E.1.stackTraces = false) (hN : nLG G = 9) {b L : Nat} {xs : Nat → Int32} (hX : scrG G b L xs) (hL : L ≤ 2048) {ax am : Nat → Nat} {o o2 : Nat} {f : Nat → Int64} {g : Nat → UInt64} {th : Nat} {wx wm : va_W} (R : REL E ax am th wx wm) {j k n : Nat} (hj : 4 * j + 4 ≤ L) (hk : k + 1 ≤ 1069) (hn : n + 6 ≤ 11774) (kk : ∀ f g th wx wm, REL E ax am th wx wm → V E G (k + 1) (n + 6) 1543 (lvL b (ax 0) (am 0) o o2 j) [] (wm ++ (wx ++ oW E o f o2 g))) : V E G k n 415 (lvL b (ax 0) (am 0) o o2 j) [] (wm ++ (wx ++ oW E o f o2 g)) := by
  obtain ⟨fsX, heX⟩ := rel_x R
  obtain ⟨fsM, heM⟩ := rel_m R
  rcases op_inject hst R (xs (4 * j + 1)) (xs (4 * j + 2)) (xs (4 * j + 3)) with ⟨v9, rx, PX, rm, PM, gx, gm, CX, CM, hvX, hvM, hrel⟩ | ⟨rx, rm, wm1, gx, gm, CX, CM, hrel⟩ | ⟨rx, rm, wm1, gx, gm, CX, CM, hrel⟩
  · obtain ⟨m1, m2, m3, m4⟩ := gm
    refine v_aload_n O dL_law_415 rfl ?_
    refine v_aload_n O dL_law_416 rfl ?_
    refine v_iload O dL_law_417 rfl ?_
    refine v_iconst (v := nI 1) O dL_law_419 (by decide) ?_
    refine v_iaddN O dL_law_420 ?_
    refine v_sld O hX hL (show 4 * j + 1 < L by omega) dL_law_421 ?_
    refine v_aload_n O dL_law_422 rfl ?_
    refine v_iload O dL_law_423 rfl ?_
    refine v_iconst (v := nI 2) O dL_law_425 (by decide) ?_
    refine v_iaddN O dL_law_426 ?_
    refine v_sld O hX hL (show 4 * j + 2 < L by omega) dL_law_427 ?_
    refine v_aload_n O dL_law_428 rfl ?_
    refine v_iload O dL_law_429 rfl ?_
    refine v_iconst (v := nI 3) O dL_law_431 (by decide) ?_
    refine v_iaddN O dL_law_432 ?_
    refine v_sld O hX hL (show 4 * j + 3 < L by omega) dL_law_433 ?_
    refine v_aload_n O dL_law_434 rfl ?_
    refine v_w (w' := wm ++ ((wx ++ oW E o f o2 g) ++ [])) (by rw [List.append_nil]) ?_
    refine v_callHJ (wa := wm) (wb := []) (w := wx ++ oW E o f o2 g) (As := [.ref (ax 0), .int (xs (4 * j + 1)), .int (xs (4 * j + 2)), .int (xs (4 * j + 3)), .ref o]) (st := []) O dL_law_435 lkH_118 (l_inject hst (xs (4 * j + 1)) (xs (4 * j + 2)) (xs (4 * j + 3)) heX gx CX hvX) rfl rfl ⟨rfl, rfl, by decide, by decide, by show k + 0 ≤ 1069; omega, by show n + 0 ≤ 11774; omega⟩ (fun r u h => ?_) (fun _ _ h => False.elim h)
    obtain ⟨rfl, r0, u0, hp, rfl⟩ := h
    refine v_w (w' := [] ++ (wm ++ (u0 ++ oW E o (vp_updL f 0 v9.toInt64) o2 g))) (by rw [List.append_nil]; rfl) ?_
    refine v_cv (pc' := 438) (lv' := lvL b (ax 0) (am 0) o o2 j) (st' := [.int (nI 0)]) (w' := [] ++ (wm ++ (u0 ++ oW E o (vp_updL f 0 v9.toInt64) o2 g))) ?_
    refine v_istore O dL_law_438 (by rw [hN]; decide) ?_
    refine v_aload_n O dL_law_440 rfl ?_
    refine v_aload_n O dL_law_441 rfl ?_
    refine v_iload O dL_law_442 rfl ?_
    refine v_iconst (v := nI 1) O dL_law_444 (by decide) ?_
    refine v_iaddN O dL_law_445 ?_
    refine v_sld O hX hL (show 4 * j + 1 < L by omega) dL_law_446 ?_
    refine v_aload_n O dL_law_447 rfl ?_
    refine v_iload O dL_law_448 rfl ?_
    refine v_iconst (v := nI 2) O dL_law_450 (by decide) ?_
    refine v_iaddN O dL_law_451 ?_
    refine v_sld O hX hL (show 4 * j + 2 < L by omega) dL_law_452 ?_
    refine v_aload_n O dL_law_453 rfl ?_
    refine v_iload O dL_law_454 rfl ?_
    refine v_iconst (v := nI 3) O dL_law_456 (by decide) ?_
    refine v_iaddN O dL_law_457 ?_
    refine v_sld O hX hL (show 4 * j + 3 < L by omega) dL_law_458 ?_
    refine v_callVJ (wa := []) (wb := u0 ++ oW E o (vp_updL f 0 v9.toInt64) o2 g) (w := wm) (As := [.int (xs (4 * j + 1)), .int (xs (4 * j + 2)), .int (xs (4 * j + 3))]) (st := []) O dL_law_459 lkL_121 CM 0 heM rfl rfl rfl ⟨m1, m2, by show _ + 1 ≤ 12; omega, by show _ ≤ 440; omega, by show k + 0 + 0 ≤ 1069; omega, by show n + 0 + 0 ≤ 11774; omega⟩ (fun r' u' hp' => ?_) (fun _ _ h => False.elim h)
    obtain rfl := hvM r' u' hp'
    have R1 := hrel _ u0 _ u' hp hp'
    refine v_cv (pc' := 462) (lv' := st1 (lvL b (ax 0) (am 0) o o2 j) 6 (.int (nI 0))) (st' := [.int v9]) (w' := [] ++ (u' ++ (u0 ++ oW E o (vp_updL f 0 v9.toInt64) o2 g))) ?_
    refine v_istore O dL_law_462 (by rw [hN]; decide) ?_
    refine v_aload_n O dL_law_464 rfl ?_
    obtain ⟨fs1, he1⟩ := rel_m R1
    refine v_callVJ (wa := []) (wb := u0 ++ oW E o (vp_updL f 0 v9.toInt64) o2 g) (w := u') (As := []) (st := []) O dL_law_465 lkL_92 (rel_t hst R1) 0 he1 rfl rfl rfl ⟨rfl, rfl, by decide, by decide, by show k + 0 + 0 + 0 ≤ 1069; omega, by show n + 0 + 0 + 0 ≤ 11774; omega⟩ (fun r9 u9 h9 => ?_) (fun _ _ h => False.elim h)
    obtain ⟨rfl, rfl⟩ := h9
    refine v_iload O dL_law_468 rfl ?_
    refine v_icmp_eq (tgt := 475) O dL_law_470 (by decide) (fun _ => ?_) (fun h => absurd rfl h)
    refine v_iload O dL_law_475 rfl ?_
    refine v_if_ne (tgt := 492) O dL_law_477 (by decide) (fun h => absurd rfl h) (fun _ => ?_)
    refine v_aload_n O dL_law_480 rfl ?_
    refine v_iconst (v := nI 0) O dL_law_481 (by decide) ?_
    refine v_w (w' := (u9 ++ u0) ++ oW E o (vp_updL f 0 v9.toInt64) o2 g) ((List.nil_append _).trans (List.append_assoc _ _ _).symm) ?_
    refine v_laldO O dL_law_482 ?_
    refine v_iload O dL_law_483 rfl ?_
    refine v_i2l O dL_law_485 ?_
    refine v_lcmp O dL_law_486 ?_
    refine v_if_eq (tgt := 492) O dL_law_487 (by decide) (fun _ => ?_) (fun h => absurd (cmp_self v9.toInt64) h)
    refine v_goto (tgt := 1543) O dL_law_492 (by decide) ?_
    refine v_w (w' := u9 ++ (u0 ++ oW E o (vp_updL f 0 v9.toInt64) o2 g)) (List.append_assoc _ _ _) ?_
    exact v_widen (k' := k + 1) (n' := n + 6) (by omega) (by omega) (v_ord [0, 1, 2, 3, 4, 5] (kk _ _ 0 u0 u9 R1))
  · obtain ⟨m1, m2, m3, m4⟩ := gm
    refine v_aload_n O dL_law_415 rfl ?_
    refine v_aload_n O dL_law_416 rfl ?_
    refine v_iload O dL_law_417 rfl ?_
    refine v_iconst (v := nI 1) O dL_law_419 (by decide) ?_
    refine v_iaddN O dL_law_420 ?_
    refine v_sld O hX hL (show 4 * j + 1 < L by omega) dL_law_421 ?_
    refine v_aload_n O dL_law_422 rfl ?_
    refine v_iload O dL_law_423 rfl ?_
    refine v_iconst (v := nI 2) O dL_law_425 (by decide) ?_
    refine v_iaddN O dL_law_426 ?_
    refine v_sld O hX hL (show 4 * j + 2 < L by omega) dL_law_427 ?_
    refine v_aload_n O dL_law_428 rfl ?_
    refine v_iload O dL_law_429 rfl ?_
    refine v_iconst (v := nI 3) O dL_law_431 (by decide) ?_
    refine v_iaddN O dL_law_432 ?_
    refine v_sld O hX hL (show 4 * j + 3 < L by omega) dL_law_433 ?_
    refine v_aload_n O dL_law_434 rfl ?_
    refine v_w (w' := wm ++ ((wx ++ oW E o f o2 g) ++ [])) (by rw [List.append_nil]) ?_
    refine v_callHJ (wa := wm) (wb := []) (w := wx ++ oW E o f o2 g) (As := [.ref (ax 0), .int (xs (4 * j + 1)), .int (xs (4 * j + 2)), .int (xs (4 * j + 3)), .ref o]) (st := []) O dL_law_435 lkH_118 (lx_inject1 hst (xs (4 * j + 1)) (xs (4 * j + 2)) (xs (4 * j + 3)) heX gx CX) rfl rfl ⟨rfl, rfl, by decide, by decide, by show k + 1 ≤ 1069; omega, by show n + 6 ≤ 11774; omega⟩ (fun r u h => ?_) (fun _ _ h => False.elim h)
    obtain ⟨rfl, rfl⟩ := h
    refine v_w (w' := [] ++ (wm ++ (wx ++ oW E o f o2 g))) (by rw [List.append_nil]; rfl) ?_
    refine v_cv (pc' := 438) (lv' := lvL b (ax 0) (am 0) o o2 j) (st' := [.int (nI 1)]) (w' := [] ++ (wm ++ (wx ++ oW E o f o2 g))) ?_
    refine v_istore O dL_law_438 (by rw [hN]; decide) ?_
    refine v_aload_n O dL_law_440 rfl ?_
    refine v_aload_n O dL_law_441 rfl ?_
    refine v_iload O dL_law_442 rfl ?_
    refine v_iconst (v := nI 1) O dL_law_444 (by decide) ?_
    refine v_iaddN O dL_law_445 ?_
    refine v_sld O hX hL (show 4 * j + 1 < L by omega) dL_law_446 ?_
    refine v_aload_n O dL_law_447 rfl ?_
    refine v_iload O dL_law_448 rfl ?_
    refine v_iconst (v := nI 2) O dL_law_450 (by decide) ?_
    refine v_iaddN O dL_law_451 ?_
    refine v_sld O hX hL (show 4 * j + 2 < L by omega) dL_law_452 ?_
    refine v_aload_n O dL_law_453 rfl ?_
    refine v_iload O dL_law_454 rfl ?_
    refine v_iconst (v := nI 3) O dL_law_456 (by decide) ?_
    refine v_iaddN O dL_law_457 ?_
    refine v_sld O hX hL (show 4 * j + 3 < L by omega) dL_law_458 ?_
    refine v_callVJ (wa := []) (wb := wx ++ oW E o f o2 g) (w := wm) (As := [.int (xs (4 * j + 1)), .int (xs (4 * j + 2)), .int (xs (4 * j + 3))]) (st := []) O dL_law_459 lkL_121 CM 0 heM rfl rfl rfl ⟨m1, m2, by show _ + 1 ≤ 12; omega, by show _ ≤ 440; omega, by show k + 1 + 0 ≤ 1069; omega, by show n + 6 + 0 ≤ 11774; omega⟩ (fun r' u' h => ?_) (fun _ _ h => False.elim h)
    obtain ⟨rfl, rfl⟩ := h
    have R1 := hrel
    refine v_cv (pc' := 462) (lv' := st1 (lvL b (ax 0) (am 0) o o2 j) 6 (.int (nI 1))) (st' := [.int (nI 0)]) (w' := [] ++ (u' ++ (wx ++ oW E o f o2 g))) ?_
    refine v_istore O dL_law_462 (by rw [hN]; decide) ?_
    refine v_aload_n O dL_law_464 rfl ?_
    obtain ⟨fs1, he1⟩ := rel_m R1
    refine v_callVJ (wa := []) (wb := wx ++ oW E o f o2 g) (w := u') (As := []) (st := []) O dL_law_465 lkL_92 (rel_t hst R1) 0 he1 rfl rfl rfl ⟨rfl, rfl, by decide, by decide, by show k + 1 + 0 + 0 ≤ 1069; omega, by show n + 6 + 0 + 0 ≤ 11774; omega⟩ (fun r9 u9 h9 => ?_) (fun _ _ h => False.elim h)
    obtain ⟨rfl, rfl⟩ := h9
    refine v_iload O dL_law_468 rfl ?_
    refine v_icmp_eq (tgt := 475) O dL_law_470 (by decide) (fun _ => ?_) (fun h => absurd rfl h)
    refine v_iload O dL_law_475 rfl ?_
    refine v_if_ne (tgt := 492) O dL_law_477 (by decide) (fun _ => ?_) (fun h => absurd h (by decide))
    refine v_goto (tgt := 1543) O dL_law_492 (by decide) ?_
    exact v_ord [0, 1, 2, 3, 4, 5] (kk _ _ 1 wx u9 R1)
  · obtain ⟨m1, m2, m3, m4⟩ := gm
    refine v_aload_n O dL_law_415 rfl ?_
    refine v_aload_n O dL_law_416 rfl ?_
    refine v_iload O dL_law_417 rfl ?_
    refine v_iconst (v := nI 1) O dL_law_419 (by decide) ?_
    refine v_iaddN O dL_law_420 ?_
    refine v_sld O hX hL (show 4 * j + 1 < L by omega) dL_law_421 ?_
    refine v_aload_n O dL_law_422 rfl ?_
    refine v_iload O dL_law_423 rfl ?_
    refine v_iconst (v := nI 2) O dL_law_425 (by decide) ?_
    refine v_iaddN O dL_law_426 ?_
    refine v_sld O hX hL (show 4 * j + 2 < L by omega) dL_law_427 ?_
    refine v_aload_n O dL_law_428 rfl ?_
    refine v_iload O dL_law_429 rfl ?_
    refine v_iconst (v := nI 3) O dL_law_431 (by decide) ?_
    refine v_iaddN O dL_law_432 ?_
    refine v_sld O hX hL (show 4 * j + 3 < L by omega) dL_law_433 ?_
    refine v_aload_n O dL_law_434 rfl ?_
    refine v_w (w' := wm ++ ((wx ++ oW E o f o2 g) ++ [])) (by rw [List.append_nil]) ?_
    refine v_callHJ (wa := wm) (wb := []) (w := wx ++ oW E o f o2 g) (As := [.ref (ax 0), .int (xs (4 * j + 1)), .int (xs (4 * j + 2)), .int (xs (4 * j + 3)), .ref o]) (st := []) O dL_law_435 lkH_118 (lx_inject2 hst (xs (4 * j + 1)) (xs (4 * j + 2)) (xs (4 * j + 3)) heX gx CX) rfl rfl ⟨rfl, rfl, by decide, by decide, by show k + 1 ≤ 1069; omega, by show n + 6 ≤ 11774; omega⟩ (fun r u h => ?_) (fun _ _ h => False.elim h)
    obtain ⟨rfl, rfl⟩ := h
    refine v_w (w' := [] ++ (wm ++ (wx ++ oW E o f o2 g))) (by rw [List.append_nil]; rfl) ?_
    refine v_cv (pc' := 438) (lv' := lvL b (ax 0) (am 0) o o2 j) (st' := [.int (nI 2)]) (w' := [] ++ (wm ++ (wx ++ oW E o f o2 g))) ?_
    refine v_istore O dL_law_438 (by rw [hN]; decide) ?_
    refine v_aload_n O dL_law_440 rfl ?_
    refine v_aload_n O dL_law_441 rfl ?_
    refine v_iload O dL_law_442 rfl ?_
    refine v_iconst (v := nI 1) O dL_law_444 (by decide) ?_
    refine v_iaddN O dL_law_445 ?_
    refine v_sld O hX hL (show 4 * j + 1 < L by omega) dL_law_446 ?_
    refine v_aload_n O dL_law_447 rfl ?_
    refine v_iload O dL_law_448 rfl ?_
    refine v_iconst (v := nI 2) O dL_law_450 (by decide) ?_
    refine v_iaddN O dL_law_451 ?_
    refine v_sld O hX hL (show 4 * j + 2 < L by omega) dL_law_452 ?_
    refine v_aload_n O dL_law_453 rfl ?_
    refine v_iload O dL_law_454 rfl ?_
    refine v_iconst (v := nI 3) O dL_law_456 (by decide) ?_
    refine v_iaddN O dL_law_457 ?_
    refine v_sld O hX hL (show 4 * j + 3 < L by omega) dL_law_458 ?_
    refine v_callVJ (wa := []) (wb := wx ++ oW E o f o2 g) (w := wm) (As := [.int (xs (4 * j + 1)), .int (xs (4 * j + 2)), .int (xs (4 * j + 3))]) (st := []) O dL_law_459 lkL_121 CM 0 heM rfl rfl rfl ⟨m1, m2, by show _ + 1 ≤ 12; omega, by show _ ≤ 440; omega, by show k + 1 + 0 ≤ 1069; omega, by show n + 6 + 0 ≤ 11774; omega⟩ (fun r' u' h => ?_) (fun _ _ h => False.elim h)
    obtain ⟨rfl, rfl⟩ := h
    have R1 := hrel
    refine v_cv (pc' := 462) (lv' := st1 (lvL b (ax 0) (am 0) o o2 j) 6 (.int (nI 2))) (st' := [.int (nI 0)]) (w' := [] ++ (u' ++ (wx ++ oW E o f o2 g))) ?_
    refine v_istore O dL_law_462 (by rw [hN]; decide) ?_
    refine v_aload_n O dL_law_464 rfl ?_
    obtain ⟨fs1, he1⟩ := rel_m R1
    refine v_callVJ (wa := []) (wb := wx ++ oW E o f o2 g) (w := u') (As := []) (st := []) O dL_law_465 lkL_92 (rel_t hst R1) 0 he1 rfl rfl rfl ⟨rfl, rfl, by decide, by decide, by show k + 1 + 0 + 0 ≤ 1069; omega, by show n + 6 + 0 + 0 ≤ 11774; omega⟩ (fun r9 u9 h9 => ?_) (fun _ _ h => False.elim h)
    obtain ⟨rfl, rfl⟩ := h9
    refine v_iload O dL_law_468 rfl ?_
    refine v_icmp_eq (tgt := 475) O dL_law_470 (by decide) (fun _ => ?_) (fun h => absurd rfl h)
    refine v_iload O dL_law_475 rfl ?_
    refine v_if_ne (tgt := 492) O dL_law_477 (by decide) (fun _ => ?_) (fun h => absurd h (by decide))
    refine v_goto (tgt := 1543) O dL_law_492 (by decide) ?_
    exact v_ord [0, 1, 2, 3, 4, 5] (kk _ _ 2 wx u9 R1)
theorem b_power {E : ET} {G : GT} {tb : List ExceptionTableEntry} (O : OKG E G cL_law RL room_1 tb) (hst : E.1.stackTraces = false) (hN : nLG G = 9) {b L : Nat} {xs : Nat → Int32} (hX : scrG G b L xs) (hL : L ≤ 2048) {ax am : Nat → Nat} {o o2 : Nat} {f : Nat → Int64} {g : Nat → UInt64} {th : Nat} {wx wm : va_W} (R : REL E ax am th wx wm) {j k n : Nat} (hj : 4 * j + 4 ≤ L) (hk : k + 1 ≤ 1069) (hn : n + 6 ≤ 11774) (kk : ∀ f g th wx wm, REL E ax am th wx wm → V E G (k + 1) (n + 6) 1543 (lvL b (ax 0) (am 0) o o2 j) [] (wm ++ (wx ++ oW E o f o2 g))) : V E G k n 495 (lvL b (ax 0) (am 0) o o2 j) [] (wm ++ (wx ++ oW E o f o2 g)) := by
  obtain ⟨fsX, heX⟩ := rel_x R
  obtain ⟨fsM, heM⟩ := rel_m R
  rcases op_power hst R (xs (4 * j + 1)) (xs (4 * j + 2)) with ⟨v9, rx, PX, rm, PM, gx, gm, CX, CM, hvX, hvM, hrel⟩ | ⟨rx, rm, wm1, gx, gm, CX, CM, hrel⟩
  · obtain ⟨m1, m2, m3, m4⟩ := gm
    refine v_aload_n O dL_law_495 rfl ?_
    refine v_aload_n O dL_law_496 rfl ?_
    refine v_iload O dL_law_497 rfl ?_
    refine v_iconst (v := nI 1) O dL_law_499 (by decide) ?_
    refine v_iaddN O dL_law_500 ?_
    refine v_sld O hX hL (show 4 * j + 1 < L by omega) dL_law_501 ?_
    refine v_aload_n O dL_law_502 rfl ?_
    refine v_iload O dL_law_503 rfl ?_
    refine v_iconst (v := nI 2) O dL_law_505 (by decide) ?_
    refine v_iaddN O dL_law_506 ?_
    refine v_sld O hX hL (show 4 * j + 2 < L by omega) dL_law_507 ?_
    refine v_aload_n O dL_law_508 rfl ?_
    refine v_w (w' := wm ++ ((wx ++ oW E o f o2 g) ++ [])) (by rw [List.append_nil]) ?_
    refine v_callHJ (wa := wm) (wb := []) (w := wx ++ oW E o f o2 g) (As := [.ref (ax 0), .int (xs (4 * j + 1)), .int (xs (4 * j + 2)), .ref o]) (st := []) O dL_law_509 lkH_122 (l_power hst (xs (4 * j + 1)) (xs (4 * j + 2)) heX gx CX hvX) rfl rfl ⟨rfl, rfl, by decide, by decide, by show k + 0 ≤ 1069; omega, by show n + 0 ≤ 11774; omega⟩ (fun r u h => ?_) (fun _ _ h => False.elim h)
    obtain ⟨rfl, r0, u0, hp, rfl⟩ := h
    refine v_w (w' := [] ++ (wm ++ (u0 ++ oW E o (vp_updL f 0 v9.toInt64) o2 g))) (by rw [List.append_nil]; rfl) ?_
    refine v_cv (pc' := 512) (lv' := lvL b (ax 0) (am 0) o o2 j) (st' := [.int (nI 0)]) (w' := [] ++ (wm ++ (u0 ++ oW E o (vp_updL f 0 v9.toInt64) o2 g))) ?_
    refine v_istore O dL_law_512 (by rw [hN]; decide) ?_
    refine v_aload_n O dL_law_514 rfl ?_
    refine v_aload_n O dL_law_515 rfl ?_
    refine v_iload O dL_law_516 rfl ?_
    refine v_iconst (v := nI 1) O dL_law_518 (by decide) ?_
    refine v_iaddN O dL_law_519 ?_
    refine v_sld O hX hL (show 4 * j + 1 < L by omega) dL_law_520 ?_
    refine v_aload_n O dL_law_521 rfl ?_
    refine v_iload O dL_law_522 rfl ?_
    refine v_iconst (v := nI 2) O dL_law_524 (by decide) ?_
    refine v_iaddN O dL_law_525 ?_
    refine v_sld O hX hL (show 4 * j + 2 < L by omega) dL_law_526 ?_
    refine v_callVJ (wa := []) (wb := u0 ++ oW E o (vp_updL f 0 v9.toInt64) o2 g) (w := wm) (As := [.int (xs (4 * j + 1)), .int (xs (4 * j + 2))]) (st := []) O dL_law_527 lkL_124 CM 0 heM rfl rfl rfl ⟨m1, m2, by show _ + 1 ≤ 12; omega, by show _ ≤ 440; omega, by show k + 0 + 0 ≤ 1069; omega, by show n + 0 + 0 ≤ 11774; omega⟩ (fun r' u' hp' => ?_) (fun _ _ h => False.elim h)
    obtain rfl := hvM r' u' hp'
    have R1 := hrel _ u0 _ u' hp hp'
    refine v_cv (pc' := 530) (lv' := st1 (lvL b (ax 0) (am 0) o o2 j) 6 (.int (nI 0))) (st' := [.int v9]) (w' := [] ++ (u' ++ (u0 ++ oW E o (vp_updL f 0 v9.toInt64) o2 g))) ?_
    refine v_istore O dL_law_530 (by rw [hN]; decide) ?_
    refine v_aload_n O dL_law_532 rfl ?_
    obtain ⟨fs1, he1⟩ := rel_m R1
    refine v_callVJ (wa := []) (wb := u0 ++ oW E o (vp_updL f 0 v9.toInt64) o2 g) (w := u') (As := []) (st := []) O dL_law_533 lkL_92 (rel_t hst R1) 0 he1 rfl rfl rfl ⟨rfl, rfl, by decide, by decide, by show k + 0 + 0 + 0 ≤ 1069; omega, by show n + 0 + 0 + 0 ≤ 11774; omega⟩ (fun r9 u9 h9 => ?_) (fun _ _ h => False.elim h)
    obtain ⟨rfl, rfl⟩ := h9
    refine v_iload O dL_law_536 rfl ?_
    refine v_icmp_eq (tgt := 543) O dL_law_538 (by decide) (fun _ => ?_) (fun h => absurd rfl h)
    refine v_iload O dL_law_543 rfl ?_
    refine v_if_ne (tgt := 560) O dL_law_545 (by decide) (fun h => absurd rfl h) (fun _ => ?_)
    refine v_aload_n O dL_law_548 rfl ?_
    refine v_iconst (v := nI 0) O dL_law_549 (by decide) ?_
    refine v_w (w' := (u9 ++ u0) ++ oW E o (vp_updL f 0 v9.toInt64) o2 g) ((List.nil_append _).trans (List.append_assoc _ _ _).symm) ?_
    refine v_laldO O dL_law_550 ?_
    refine v_iload O dL_law_551 rfl ?_
    refine v_i2l O dL_law_553 ?_
    refine v_lcmp O dL_law_554 ?_
    refine v_if_eq (tgt := 560) O dL_law_555 (by decide) (fun _ => ?_) (fun h => absurd (cmp_self v9.toInt64) h)
    refine v_goto (tgt := 1543) O dL_law_560 (by decide) ?_
    refine v_w (w' := u9 ++ (u0 ++ oW E o (vp_updL f 0 v9.toInt64) o2 g)) (List.append_assoc _ _ _) ?_
    exact v_widen (k' := k + 1) (n' := n + 6) (by omega) (by omega) (v_ord [0, 1, 2, 3, 4, 5] (kk _ _ 0 u0 u9 R1))
  · obtain ⟨m1, m2, m3, m4⟩ := gm
    refine v_aload_n O dL_law_495 rfl ?_
    refine v_aload_n O dL_law_496 rfl ?_
    refine v_iload O dL_law_497 rfl ?_
    refine v_iconst (v := nI 1) O dL_law_499 (by decide) ?_
    refine v_iaddN O dL_law_500 ?_
    refine v_sld O hX hL (show 4 * j + 1 < L by omega) dL_law_501 ?_
    refine v_aload_n O dL_law_502 rfl ?_
    refine v_iload O dL_law_503 rfl ?_
    refine v_iconst (v := nI 2) O dL_law_505 (by decide) ?_
    refine v_iaddN O dL_law_506 ?_
    refine v_sld O hX hL (show 4 * j + 2 < L by omega) dL_law_507 ?_
    refine v_aload_n O dL_law_508 rfl ?_
    refine v_w (w' := wm ++ ((wx ++ oW E o f o2 g) ++ [])) (by rw [List.append_nil]) ?_
    refine v_callHJ (wa := wm) (wb := []) (w := wx ++ oW E o f o2 g) (As := [.ref (ax 0), .int (xs (4 * j + 1)), .int (xs (4 * j + 2)), .ref o]) (st := []) O dL_law_509 lkH_122 (lx_power1 hst (xs (4 * j + 1)) (xs (4 * j + 2)) heX gx CX) rfl rfl ⟨rfl, rfl, by decide, by decide, by show k + 1 ≤ 1069; omega, by show n + 6 ≤ 11774; omega⟩ (fun r u h => ?_) (fun _ _ h => False.elim h)
    obtain ⟨rfl, rfl⟩ := h
    refine v_w (w' := [] ++ (wm ++ (wx ++ oW E o f o2 g))) (by rw [List.append_nil]; rfl) ?_
    refine v_cv (pc' := 512) (lv' := lvL b (ax 0) (am 0) o o2 j) (st' := [.int (nI 1)]) (w' := [] ++ (wm ++ (wx ++ oW E o f o2 g))) ?_
    refine v_istore O dL_law_512 (by rw [hN]; decide) ?_
    refine v_aload_n O dL_law_514 rfl ?_
    refine v_aload_n O dL_law_515 rfl ?_
    refine v_iload O dL_law_516 rfl ?_
    refine v_iconst (v := nI 1) O dL_law_518 (by decide) ?_
    refine v_iaddN O dL_law_519 ?_
    refine v_sld O hX hL (show 4 * j + 1 < L by omega) dL_law_520 ?_
    refine v_aload_n O dL_law_521 rfl ?_
    refine v_iload O dL_law_522 rfl ?_
    refine v_iconst (v := nI 2) O dL_law_524 (by decide) ?_
    refine v_iaddN O dL_law_525 ?_
    refine v_sld O hX hL (show 4 * j + 2 < L by omega) dL_law_526 ?_
    refine v_callVJ (wa := []) (wb := wx ++ oW E o f o2 g) (w := wm) (As := [.int (xs (4 * j + 1)), .int (xs (4 * j + 2))]) (st := []) O dL_law_527 lkL_124 CM 0 heM rfl rfl rfl ⟨m1, m2, by show _ + 1 ≤ 12; omega, by show _ ≤ 440; omega, by show k + 1 + 0 ≤ 1069; omega, by show n + 6 + 0 ≤ 11774; omega⟩ (fun r' u' h => ?_) (fun _ _ h => False.elim h)
    obtain ⟨rfl, rfl⟩ := h
    have R1 := hrel
    refine v_cv (pc' := 530) (lv' := st1 (lvL b (ax 0) (am 0) o o2 j) 6 (.int (nI 1))) (st' := [.int (nI 0)]) (w' := [] ++ (u' ++ (wx ++ oW E o f o2 g))) ?_
    refine v_istore O dL_law_530 (by rw [hN]; decide) ?_
    refine v_aload_n O dL_law_532 rfl ?_
    obtain ⟨fs1, he1⟩ := rel_m R1
    refine v_callVJ (wa := []) (wb := wx ++ oW E o f o2 g) (w := u') (As := []) (st := []) O dL_law_533 lkL_92 (rel_t hst R1) 0 he1 rfl rfl rfl ⟨rfl, rfl, by decide, by decide, by show k + 1 + 0 + 0 ≤ 1069; omega, by show n + 6 + 0 + 0 ≤ 11774; omega⟩ (fun r9 u9 h9 => ?_) (fun _ _ h => False.elim h)
    obtain ⟨rfl, rfl⟩ := h9
    refine v_iload O dL_law_536 rfl ?_
    refine v_icmp_eq (tgt := 543) O dL_law_538 (by decide) (fun _ => ?_) (fun h => absurd rfl h)
    refine v_iload O dL_law_543 rfl ?_
    refine v_if_ne (tgt := 560) O dL_law_545 (by decide) (fun _ => ?_) (fun h => absurd h (by decide))
    refine v_goto (tgt := 1543) O dL_law_560 (by decide) ?_
    exact v_ord [0, 1, 2, 3, 4, 5] (kk _ _ 1 wx u9 R1)
theorem b_count {E : ET} {G : GT} {tb : List ExceptionTableEntry} (O : OKG E G cL_law RL room_1 tb) (hst : E.1.stackTraces = false) (hN : nLG G = 9) {b L : Nat} {xs : Nat → Int32} (hX : scrG G b L xs) (hL : L ≤ 2048) {ax am : Nat → Nat} {o o2 : Nat} {f : Nat → Int64} {g : Nat → UInt64} {th : Nat} {wx wm : va_W} (R : REL E ax am th wx wm) {j k n : Nat} (hj : 4 * j + 4 ≤ L) (hk : k + 1 ≤ 1069) (hn : n + 6 ≤ 11774) (kk : ∀ f g th wx wm, REL E ax am th wx wm → V E G (k + 1) (n + 6) 1543 (lvL b (ax 0) (am 0) o o2 j) [] (wm ++ (wx ++ oW E o f o2 g))) : V E G k n 563 (lvL b (ax 0) (am 0) o o2 j) [] (wm ++ (wx ++ oW E o f o2 g)) := by
  obtain ⟨fsX, heX⟩ := rel_x R
  obtain ⟨fsM, heM⟩ := rel_m R
  rcases op_count hst R (xs (4 * j + 1)) with ⟨v9, rx, PX, rm, PM, gx, gm, CX, CM, hvX, hvM, hrel⟩ | ⟨rx, rm, wm1, gx, gm, CX, CM, hrel⟩
  · obtain ⟨m1, m2, m3, m4⟩ := gm
    refine v_aload_n O dL_law_563 rfl ?_
    refine v_aload_n O dL_law_564 rfl ?_
    refine v_iload O dL_law_565 rfl ?_
    refine v_iconst (v := nI 1) O dL_law_567 (by decide) ?_
    refine v_iaddN O dL_law_568 ?_
    refine v_sld O hX hL (show 4 * j + 1 < L by omega) dL_law_569 ?_
    refine v_aload_n O dL_law_570 rfl ?_
    refine v_w (w' := wm ++ ((wx ++ oW E o f o2 g) ++ [])) (by rw [List.append_nil]) ?_
    refine v_callHJ (wa := wm) (wb := []) (w := wx ++ oW E o f o2 g) (As := [.ref (ax 0), .int (xs (4 * j + 1)), .ref o]) (st := []) O dL_law_571 lkH_125 (l_count hst (xs (4 * j + 1)) heX gx CX hvX) rfl rfl ⟨rfl, rfl, by decide, by decide, by show k + 0 ≤ 1069; omega, by show n + 0 ≤ 11774; omega⟩ (fun r u h => ?_) (fun _ _ h => False.elim h)
    obtain ⟨rfl, r0, u0, hp, rfl⟩ := h
    refine v_w (w' := [] ++ (wm ++ (u0 ++ oW E o (vp_updL f 0 v9.toInt64) o2 g))) (by rw [List.append_nil]; rfl) ?_
    refine v_cv (pc' := 574) (lv' := lvL b (ax 0) (am 0) o o2 j) (st' := [.int (nI 0)]) (w' := [] ++ (wm ++ (u0 ++ oW E o (vp_updL f 0 v9.toInt64) o2 g))) ?_
    refine v_istore O dL_law_574 (by rw [hN]; decide) ?_
    refine v_aload_n O dL_law_576 rfl ?_
    refine v_aload_n O dL_law_577 rfl ?_
    refine v_iload O dL_law_578 rfl ?_
    refine v_iconst (v := nI 1) O dL_law_580 (by decide) ?_
    refine v_iaddN O dL_law_581 ?_
    refine v_sld O hX hL (show 4 * j + 1 < L by omega) dL_law_582 ?_
    refine v_callVJ (wa := []) (wb := u0 ++ oW E o (vp_updL f 0 v9.toInt64) o2 g) (w := wm) (As := [.int (xs (4 * j + 1))]) (st := []) O dL_law_583 lkL_127 CM 0 heM rfl rfl rfl ⟨m1, m2, by show _ + 1 ≤ 12; omega, by show _ ≤ 440; omega, by show k + 0 + 0 ≤ 1069; omega, by show n + 0 + 0 ≤ 11774; omega⟩ (fun r' u' hp' => ?_) (fun _ _ h => False.elim h)
    obtain rfl := hvM r' u' hp'
    have R1 := hrel _ u0 _ u' hp hp'
    refine v_cv (pc' := 586) (lv' := st1 (lvL b (ax 0) (am 0) o o2 j) 6 (.int (nI 0))) (st' := [.int v9]) (w' := [] ++ (u' ++ (u0 ++ oW E o (vp_updL f 0 v9.toInt64) o2 g))) ?_
    refine v_istore O dL_law_586 (by rw [hN]; decide) ?_
    refine v_aload_n O dL_law_588 rfl ?_
    obtain ⟨fs1, he1⟩ := rel_m R1
    refine v_callVJ (wa := []) (wb := u0 ++ oW E o (vp_updL f 0 v9.toInt64) o2 g) (w := u') (As := []) (st := []) O dL_law_589 lkL_92 (rel_t hst R1) 0 he1 rfl rfl rfl ⟨rfl, rfl, by decide, by decide, by show k + 0 + 0 + 0 ≤ 1069; omega, by show n + 0 + 0 + 0 ≤ 11774; omega⟩ (fun r9 u9 h9 => ?_) (fun _ _ h => False.elim h)
    obtain ⟨rfl, rfl⟩ := h9
    refine v_iload O dL_law_592 rfl ?_
    refine v_icmp_eq (tgt := 599) O dL_law_594 (by decide) (fun _ => ?_) (fun h => absurd rfl h)
    refine v_iload O dL_law_599 rfl ?_
    refine v_if_ne (tgt := 616) O dL_law_601 (by decide) (fun h => absurd rfl h) (fun _ => ?_)
    refine v_aload_n O dL_law_604 rfl ?_
    refine v_iconst (v := nI 0) O dL_law_605 (by decide) ?_
    refine v_w (w' := (u9 ++ u0) ++ oW E o (vp_updL f 0 v9.toInt64) o2 g) ((List.nil_append _).trans (List.append_assoc _ _ _).symm) ?_
    refine v_laldO O dL_law_606 ?_
    refine v_iload O dL_law_607 rfl ?_
    refine v_i2l O dL_law_609 ?_
    refine v_lcmp O dL_law_610 ?_
    refine v_if_eq (tgt := 616) O dL_law_611 (by decide) (fun _ => ?_) (fun h => absurd (cmp_self v9.toInt64) h)
    refine v_goto (tgt := 1543) O dL_law_616 (by decide) ?_
    refine v_w (w' := u9 ++ (u0 ++ oW E o (vp_updL f 0 v9.toInt64) o2 g)) (List.append_assoc _ _ _) ?_
    exact v_widen (k' := k + 1) (n' := n + 6) (by omega) (by omega) (v_ord [0, 1, 2, 3, 4, 5] (kk _ _ 0 u0 u9 R1))
  · obtain ⟨m1, m2, m3, m4⟩ := gm
    refine v_aload_n O dL_law_563 rfl ?_
    refine v_aload_n O dL_law_564 rfl ?_
    refine v_iload O dL_law_565 rfl ?_
    refine v_iconst (v := nI 1) O dL_law_567 (by decide) ?_
    refine v_iaddN O dL_law_568 ?_
    refine v_sld O hX hL (show 4 * j + 1 < L by omega) dL_law_569 ?_
    refine v_aload_n O dL_law_570 rfl ?_
    refine v_w (w' := wm ++ ((wx ++ oW E o f o2 g) ++ [])) (by rw [List.append_nil]) ?_
    refine v_callHJ (wa := wm) (wb := []) (w := wx ++ oW E o f o2 g) (As := [.ref (ax 0), .int (xs (4 * j + 1)), .ref o]) (st := []) O dL_law_571 lkH_125 (lx_count1 hst (xs (4 * j + 1)) heX gx CX) rfl rfl ⟨rfl, rfl, by decide, by decide, by show k + 1 ≤ 1069; omega, by show n + 6 ≤ 11774; omega⟩ (fun r u h => ?_) (fun _ _ h => False.elim h)
    obtain ⟨rfl, rfl⟩ := h
    refine v_w (w' := [] ++ (wm ++ (wx ++ oW E o f o2 g))) (by rw [List.append_nil]; rfl) ?_
    refine v_cv (pc' := 574) (lv' := lvL b (ax 0) (am 0) o o2 j) (st' := [.int (nI 1)]) (w' := [] ++ (wm ++ (wx ++ oW E o f o2 g))) ?_
    refine v_istore O dL_law_574 (by rw [hN]; decide) ?_
    refine v_aload_n O dL_law_576 rfl ?_
    refine v_aload_n O dL_law_577 rfl ?_
    refine v_iload O dL_law_578 rfl ?_
    refine v_iconst (v := nI 1) O dL_law_580 (by decide) ?_
    refine v_iaddN O dL_law_581 ?_
    refine v_sld O hX hL (show 4 * j + 1 < L by omega) dL_law_582 ?_
    refine v_callVJ (wa := []) (wb := wx ++ oW E o f o2 g) (w := wm) (As := [.int (xs (4 * j + 1))]) (st := []) O dL_law_583 lkL_127 CM 0 heM rfl rfl rfl ⟨m1, m2, by show _ + 1 ≤ 12; omega, by show _ ≤ 440; omega, by show k + 1 + 0 ≤ 1069; omega, by show n + 6 + 0 ≤ 11774; omega⟩ (fun r' u' h => ?_) (fun _ _ h => False.elim h)
    obtain ⟨rfl, rfl⟩ := h
    have R1 := hrel
    refine v_cv (pc' := 586) (lv' := st1 (lvL b (ax 0) (am 0) o o2 j) 6 (.int (nI 1))) (st' := [.int (nI 0)]) (w' := [] ++ (u' ++ (wx ++ oW E o f o2 g))) ?_
    refine v_istore O dL_law_586 (by rw [hN]; decide) ?_
    refine v_aload_n O dL_law_588 rfl ?_
    obtain ⟨fs1, he1⟩ := rel_m R1
    refine v_callVJ (wa := []) (wb := wx ++ oW E o f o2 g) (w := u') (As := []) (st := []) O dL_law_589 lkL_92 (rel_t hst R1) 0 he1 rfl rfl rfl ⟨rfl, rfl, by decide, by decide, by show k + 1 + 0 + 0 ≤ 1069; omega, by show n + 6 + 0 + 0 ≤ 11774; omega⟩ (fun r9 u9 h9 => ?_) (fun _ _ h => False.elim h)
    obtain ⟨rfl, rfl⟩ := h9
    refine v_iload O dL_law_592 rfl ?_
    refine v_icmp_eq (tgt := 599) O dL_law_594 (by decide) (fun _ => ?_) (fun h => absurd rfl h)
    refine v_iload O dL_law_599 rfl ?_
    refine v_if_ne (tgt := 616) O dL_law_601 (by decide) (fun _ => ?_) (fun h => absurd h (by decide))
    refine v_goto (tgt := 1543) O dL_law_616 (by decide) ?_
    exact v_ord [0, 1, 2, 3, 4, 5] (kk _ _ 1 wx u9 R1)
theorem b_setMasked {E : ET} {G : GT} {tb : List ExceptionTableEntry} (O : OKG E G cL_law RL room_1 tb) (hst : E.1.stackTraces = false) (hN : nLG G = 9) {b L : Nat} {xs : Nat → Int32} (hX : scrG G b L xs) (hL : L ≤ 2048) {ax am : Nat → Nat} {o o2 : Nat} {f : Nat → Int64} {g : Nat → UInt64} {th : Nat} {wx wm : va_W} (R : REL E ax am th wx wm) {j k n : Nat} (hj : 4 * j + 4 ≤ L) (hk : k + 1 ≤ 1069) (hn : n + 6 ≤ 11774) (kk : ∀ f g th wx wm, REL E ax am th wx wm → V E G (k + 1) (n + 6) 1543 (lvL b (ax 0) (am 0) o o2 j) [] (wm ++ (wx ++ oW E o f o2 g))) : V E G k n 619 (lvL b (ax 0) (am 0) o o2 j) [] (wm ++ (wx ++ oW E o f o2 g)) := by
  obtain ⟨fsX, heX⟩ := rel_x R
  obtain ⟨fsM, heM⟩ := rel_m R
  rcases op_setMasked hst R (xs (4 * j + 1)) (!decide (xs (4 * j + 2) = 0)) with ⟨v9, rx, PX, rm, PM, gx, gm, CX, CM, hvX, hvM, hrel⟩ | ⟨rx, rm, wm1, gx, gm, CX, CM, hrel⟩
  · obtain ⟨m1, m2, m3, m4⟩ := gm
    refine v_aload_n O dL_law_619 rfl ?_
    refine v_aload_n O dL_law_620 rfl ?_
    refine v_iload O dL_law_621 rfl ?_
    refine v_iconst (v := nI 1) O dL_law_623 (by decide) ?_
    refine v_iaddN O dL_law_624 ?_
    refine v_sld O hX hL (show 4 * j + 1 < L by omega) dL_law_625 ?_
    refine v_aload_n O dL_law_626 rfl ?_
    refine v_iload O dL_law_627 rfl ?_
    refine v_iconst (v := nI 2) O dL_law_629 (by decide) ?_
    refine v_iaddN O dL_law_630 ?_
    refine v_sld O hX hL (show 4 * j + 2 < L by omega) dL_law_631 ?_
    refine v_nz O dL_law_632 dL_law_635 dL_law_636 dL_law_639 ?_
    refine v_aload_n O dL_law_640 rfl ?_
    refine v_w (w' := wm ++ ((wx ++ oW E o f o2 g) ++ [])) (by rw [List.append_nil]) ?_
    refine v_callHJ (wa := wm) (wb := []) (w := wx ++ oW E o f o2 g) (As := [.ref (ax 0), .int (xs (4 * j + 1)), .int (bI (!decide (xs (4 * j + 2) = 0))), .ref o]) (st := []) O dL_law_641 lkH_128 (l_setMasked hst (xs (4 * j + 1)) (bI (!decide (xs (4 * j + 2) = 0))) heX gx CX hvX) rfl rfl ⟨rfl, rfl, by decide, by decide, by show k + 0 ≤ 1069; omega, by show n + 0 ≤ 11774; omega⟩ (fun r u h => ?_) (fun _ _ h => False.elim h)
    obtain ⟨rfl, r0, u0, hp, rfl⟩ := h
    refine v_w (w' := [] ++ (wm ++ (u0 ++ oW E o (vp_updL f 0 (bI v9).toInt64) o2 g))) (by rw [List.append_nil]; rfl) ?_
    refine v_cv (pc' := 644) (lv' := lvL b (ax 0) (am 0) o o2 j) (st' := [.int (nI 0)]) (w' := [] ++ (wm ++ (u0 ++ oW E o (vp_updL f 0 (bI v9).toInt64) o2 g))) ?_
    refine v_istore O dL_law_644 (by rw [hN]; decide) ?_
    refine v_aload_n O dL_law_646 rfl ?_
    refine v_aload_n O dL_law_647 rfl ?_
    refine v_iload O dL_law_648 rfl ?_
    refine v_iconst (v := nI 1) O dL_law_650 (by decide) ?_
    refine v_iaddN O dL_law_651 ?_
    refine v_sld O hX hL (show 4 * j + 1 < L by omega) dL_law_652 ?_
    refine v_aload_n O dL_law_653 rfl ?_
    refine v_iload O dL_law_654 rfl ?_
    refine v_iconst (v := nI 2) O dL_law_656 (by decide) ?_
    refine v_iaddN O dL_law_657 ?_
    refine v_sld O hX hL (show 4 * j + 2 < L by omega) dL_law_658 ?_
    refine v_nz O dL_law_659 dL_law_662 dL_law_663 dL_law_666 ?_
    refine v_callVJ (wa := []) (wb := u0 ++ oW E o (vp_updL f 0 (bI v9).toInt64) o2 g) (w := wm) (As := [.int (xs (4 * j + 1)), .int (bI (!decide (xs (4 * j + 2) = 0)))]) (st := []) O dL_law_667 lkL_131 CM 0 heM rfl rfl rfl ⟨m1, m2, by show _ + 1 ≤ 12; omega, by show _ ≤ 440; omega, by show k + 0 + 0 ≤ 1069; omega, by show n + 0 + 0 ≤ 11774; omega⟩ (fun r' u' hp' => ?_) (fun _ _ h => False.elim h)
    obtain rfl := hvM r' u' hp'
    have R1 := hrel _ u0 _ u' hp hp'
    refine v_cv (pc' := 670) (lv' := st1 (lvL b (ax 0) (am 0) o o2 j) 6 (.int (nI 0))) (st' := [.int (bI v9)]) (w' := [] ++ (u' ++ (u0 ++ oW E o (vp_updL f 0 (bI v9).toInt64) o2 g))) ?_
    refine v_istore O dL_law_670 (by rw [hN]; decide) ?_
    refine v_aload_n O dL_law_672 rfl ?_
    obtain ⟨fs1, he1⟩ := rel_m R1
    refine v_callVJ (wa := []) (wb := u0 ++ oW E o (vp_updL f 0 (bI v9).toInt64) o2 g) (w := u') (As := []) (st := []) O dL_law_673 lkL_92 (rel_t hst R1) 0 he1 rfl rfl rfl ⟨rfl, rfl, by decide, by decide, by show k + 0 + 0 + 0 ≤ 1069; omega, by show n + 0 + 0 + 0 ≤ 11774; omega⟩ (fun r9 u9 h9 => ?_) (fun _ _ h => False.elim h)
    obtain ⟨rfl, rfl⟩ := h9
    refine v_iload O dL_law_676 rfl ?_
    refine v_icmp_eq (tgt := 683) O dL_law_678 (by decide) (fun _ => ?_) (fun h => absurd rfl h)
    refine v_iload O dL_law_683 rfl ?_
    refine v_if_ne (tgt := 707) O dL_law_685 (by decide) (fun h => absurd rfl h) (fun _ => ?_)
    refine v_aload_n O dL_law_688 rfl ?_
    refine v_iconst (v := nI 0) O dL_law_689 (by decide) ?_
    refine v_w (w' := (u9 ++ u0) ++ oW E o (vp_updL f 0 (bI v9).toInt64) o2 g) ((List.nil_append _).trans (List.append_assoc _ _ _).symm) ?_
    refine v_laldO O dL_law_690 ?_
    refine v_iload O dL_law_691 rfl ?_
    cases v9
    · refine v_if_eq (tgt := 700) O dL_law_693 (by decide) (fun _ => ?_) (fun h => absurd rfl h)
      refine v_lconst (v := 0) O dL_law_700 (by decide) ?_
      refine v_lcmp O dL_law_701 ?_
      refine v_if_eq (tgt := 707) O dL_law_702 (by decide) (fun _ => ?_) (fun h => absurd (cmp_self 0) h)
      refine v_goto (tgt := 1543) O dL_law_707 (by decide) ?_
      refine v_w (w' := u9 ++ (u0 ++ oW E o (vp_updL f 0 0) o2 g)) (List.append_assoc _ _ _) ?_
      exact v_widen (k' := k + 1) (n' := n + 6) (by omega) (by omega) (v_ord [0, 1, 2, 3, 4, 5] (kk _ _ 0 u0 u9 R1))
    · refine v_if_eq (tgt := 700) O dL_law_693 (by decide) (fun h => absurd h (by decide)) (fun _ => ?_)
      refine v_lconst (v := 1) O dL_law_696 (by decide) ?_
      refine v_goto (tgt := 701) O dL_law_697 (by decide) ?_
      refine v_lcmp O dL_law_701 ?_
      refine v_if_eq (tgt := 707) O dL_law_702 (by decide) (fun _ => ?_) (fun h => absurd (cmp_self 1) h)
      refine v_goto (tgt := 1543) O dL_law_707 (by decide) ?_
      refine v_w (w' := u9 ++ (u0 ++ oW E o (vp_updL f 0 1) o2 g)) (List.append_assoc _ _ _) ?_
      exact v_widen (k' := k + 1) (n' := n + 6) (by omega) (by omega) (v_ord [0, 1, 2, 3, 4, 5] (kk _ _ 0 u0 u9 R1))
  · obtain ⟨m1, m2, m3, m4⟩ := gm
    refine v_aload_n O dL_law_619 rfl ?_
    refine v_aload_n O dL_law_620 rfl ?_
    refine v_iload O dL_law_621 rfl ?_
    refine v_iconst (v := nI 1) O dL_law_623 (by decide) ?_
    refine v_iaddN O dL_law_624 ?_
    refine v_sld O hX hL (show 4 * j + 1 < L by omega) dL_law_625 ?_
    refine v_aload_n O dL_law_626 rfl ?_
    refine v_iload O dL_law_627 rfl ?_
    refine v_iconst (v := nI 2) O dL_law_629 (by decide) ?_
    refine v_iaddN O dL_law_630 ?_
    refine v_sld O hX hL (show 4 * j + 2 < L by omega) dL_law_631 ?_
    refine v_nz O dL_law_632 dL_law_635 dL_law_636 dL_law_639 ?_
    refine v_aload_n O dL_law_640 rfl ?_
    refine v_w (w' := wm ++ ((wx ++ oW E o f o2 g) ++ [])) (by rw [List.append_nil]) ?_
    refine v_callHJ (wa := wm) (wb := []) (w := wx ++ oW E o f o2 g) (As := [.ref (ax 0), .int (xs (4 * j + 1)), .int (bI (!decide (xs (4 * j + 2) = 0))), .ref o]) (st := []) O dL_law_641 lkH_128 (lx_setMasked1 hst (xs (4 * j + 1)) (bI (!decide (xs (4 * j + 2) = 0))) heX gx CX) rfl rfl ⟨rfl, rfl, by decide, by decide, by show k + 1 ≤ 1069; omega, by show n + 6 ≤ 11774; omega⟩ (fun r u h => ?_) (fun _ _ h => False.elim h)
    obtain ⟨rfl, rfl⟩ := h
    refine v_w (w' := [] ++ (wm ++ (wx ++ oW E o f o2 g))) (by rw [List.append_nil]; rfl) ?_
    refine v_cv (pc' := 644) (lv' := lvL b (ax 0) (am 0) o o2 j) (st' := [.int (nI 1)]) (w' := [] ++ (wm ++ (wx ++ oW E o f o2 g))) ?_
    refine v_istore O dL_law_644 (by rw [hN]; decide) ?_
    refine v_aload_n O dL_law_646 rfl ?_
    refine v_aload_n O dL_law_647 rfl ?_
    refine v_iload O dL_law_648 rfl ?_
    refine v_iconst (v := nI 1) O dL_law_650 (by decide) ?_
    refine v_iaddN O dL_law_651 ?_
    refine v_sld O hX hL (show 4 * j + 1 < L by omega) dL_law_652 ?_
    refine v_aload_n O dL_law_653 rfl ?_
    refine v_iload O dL_law_654 rfl ?_
    refine v_iconst (v := nI 2) O dL_law_656 (by decide) ?_
    refine v_iaddN O dL_law_657 ?_
    refine v_sld O hX hL (show 4 * j + 2 < L by omega) dL_law_658 ?_
    refine v_nz O dL_law_659 dL_law_662 dL_law_663 dL_law_666 ?_
    refine v_callVJ (wa := []) (wb := wx ++ oW E o f o2 g) (w := wm) (As := [.int (xs (4 * j + 1)), .int (bI (!decide (xs (4 * j + 2) = 0)))]) (st := []) O dL_law_667 lkL_131 CM 0 heM rfl rfl rfl ⟨m1, m2, by show _ + 1 ≤ 12; omega, by show _ ≤ 440; omega, by show k + 1 + 0 ≤ 1069; omega, by show n + 6 + 0 ≤ 11774; omega⟩ (fun r' u' h => ?_) (fun _ _ h => False.elim h)
    obtain ⟨rfl, rfl⟩ := h
    have R1 := hrel
    refine v_cv (pc' := 670) (lv' := st1 (lvL b (ax 0) (am 0) o o2 j) 6 (.int (nI 1))) (st' := [.int (nI 0)]) (w' := [] ++ (u' ++ (wx ++ oW E o f o2 g))) ?_
    refine v_istore O dL_law_670 (by rw [hN]; decide) ?_
    refine v_aload_n O dL_law_672 rfl ?_
    obtain ⟨fs1, he1⟩ := rel_m R1
    refine v_callVJ (wa := []) (wb := wx ++ oW E o f o2 g) (w := u') (As := []) (st := []) O dL_law_673 lkL_92 (rel_t hst R1) 0 he1 rfl rfl rfl ⟨rfl, rfl, by decide, by decide, by show k + 1 + 0 + 0 ≤ 1069; omega, by show n + 6 + 0 + 0 ≤ 11774; omega⟩ (fun r9 u9 h9 => ?_) (fun _ _ h => False.elim h)
    obtain ⟨rfl, rfl⟩ := h9
    refine v_iload O dL_law_676 rfl ?_
    refine v_icmp_eq (tgt := 683) O dL_law_678 (by decide) (fun _ => ?_) (fun h => absurd rfl h)
    refine v_iload O dL_law_683 rfl ?_
    refine v_if_ne (tgt := 707) O dL_law_685 (by decide) (fun _ => ?_) (fun h => absurd h (by decide))
    refine v_goto (tgt := 1543) O dL_law_707 (by decide) ?_
    exact v_ord [0, 1, 2, 3, 4, 5] (kk _ _ 1 wx u9 R1)
theorem b_channelSum {E : ET} {G : GT} {tb : List ExceptionTableEntry} (O : OKG E G cL_law RL room_1 tb) (hst : E.1.stackTraces = false) (hN : nLG G = 9) {b L : Nat} {xs : Nat → Int32} (hX : scrG G b L xs) (hL : L ≤ 2048) {ax am : Nat → Nat} {o o2 : Nat} {f : Nat → Int64} {g : Nat → UInt64} {th : Nat} {wx wm : va_W} (R : REL E ax am th wx wm) {j k n : Nat} (hj : 4 * j + 4 ≤ L) (hk : k + 1 ≤ 1069) (hn : n + 6 ≤ 11774) (kk : ∀ f g th wx wm, REL E ax am th wx wm → V E G (k + 1) (n + 6) 1543 (lvL b (ax 0) (am 0) o o2 j) [] (wm ++ (wx ++ oW E o f o2 g))) : V E G k n 710 (lvL b (ax 0) (am 0) o o2 j) [] (wm ++ (wx ++ oW E o f o2 g)) := by
  obtain ⟨fsX, heX⟩ := rel_x R
  obtain ⟨fsM, heM⟩ := rel_m R
  rcases op_channelSum hst R (xs (4 * j + 1)) with ⟨v9, rx, PX, rm, PM, gx, gm, CX, CM, hvX, hvM, hrel⟩ | ⟨rx, rm, wm1, gx, gm, CX, CM, hrel⟩
  · obtain ⟨m1, m2, m3, m4⟩ := gm
    refine v_aload_n O dL_law_710 rfl ?_
    refine v_aload_n O dL_law_711 rfl ?_
    refine v_iload O dL_law_712 rfl ?_
    refine v_iconst (v := nI 1) O dL_law_714 (by decide) ?_
    refine v_iaddN O dL_law_715 ?_
    refine v_sld O hX hL (show 4 * j + 1 < L by omega) dL_law_716 ?_
    refine v_aload_n O dL_law_717 rfl ?_
    refine v_w (w' := wm ++ ((wx ++ oW E o f o2 g) ++ [])) (by rw [List.append_nil]) ?_
    refine v_callHJ (wa := wm) (wb := []) (w := wx ++ oW E o f o2 g) (As := [.ref (ax 0), .int (xs (4 * j + 1)), .ref o]) (st := []) O dL_law_718 lkH_132 (l_channelSum hst (xs (4 * j + 1)) heX gx CX hvX) rfl rfl ⟨rfl, rfl, by decide, by decide, by show k + 0 ≤ 1069; omega, by show n + 0 ≤ 11774; omega⟩ (fun r u h => ?_) (fun _ _ h => False.elim h)
    obtain ⟨rfl, r0, u0, hp, rfl⟩ := h
    refine v_w (w' := [] ++ (wm ++ (u0 ++ oW E o (vp_updL f 0 v9.toInt64) o2 g))) (by rw [List.append_nil]; rfl) ?_
    refine v_cv (pc' := 721) (lv' := lvL b (ax 0) (am 0) o o2 j) (st' := [.int (nI 0)]) (w' := [] ++ (wm ++ (u0 ++ oW E o (vp_updL f 0 v9.toInt64) o2 g))) ?_
    refine v_istore O dL_law_721 (by rw [hN]; decide) ?_
    refine v_aload_n O dL_law_723 rfl ?_
    refine v_aload_n O dL_law_724 rfl ?_
    refine v_iload O dL_law_725 rfl ?_
    refine v_iconst (v := nI 1) O dL_law_727 (by decide) ?_
    refine v_iaddN O dL_law_728 ?_
    refine v_sld O hX hL (show 4 * j + 1 < L by omega) dL_law_729 ?_
    refine v_callVJ (wa := []) (wb := u0 ++ oW E o (vp_updL f 0 v9.toInt64) o2 g) (w := wm) (As := [.int (xs (4 * j + 1))]) (st := []) O dL_law_730 lkL_134 CM 0 heM rfl rfl rfl ⟨m1, m2, by show _ + 1 ≤ 12; omega, by show _ ≤ 440; omega, by show k + 0 + 0 ≤ 1069; omega, by show n + 0 + 0 ≤ 11774; omega⟩ (fun r' u' hp' => ?_) (fun _ _ h => False.elim h)
    obtain rfl := hvM r' u' hp'
    have R1 := hrel _ u0 _ u' hp hp'
    refine v_cv (pc' := 733) (lv' := st1 (lvL b (ax 0) (am 0) o o2 j) 6 (.int (nI 0))) (st' := [.int v9]) (w' := [] ++ (u' ++ (u0 ++ oW E o (vp_updL f 0 v9.toInt64) o2 g))) ?_
    refine v_istore O dL_law_733 (by rw [hN]; decide) ?_
    refine v_aload_n O dL_law_735 rfl ?_
    obtain ⟨fs1, he1⟩ := rel_m R1
    refine v_callVJ (wa := []) (wb := u0 ++ oW E o (vp_updL f 0 v9.toInt64) o2 g) (w := u') (As := []) (st := []) O dL_law_736 lkL_92 (rel_t hst R1) 0 he1 rfl rfl rfl ⟨rfl, rfl, by decide, by decide, by show k + 0 + 0 + 0 ≤ 1069; omega, by show n + 0 + 0 + 0 ≤ 11774; omega⟩ (fun r9 u9 h9 => ?_) (fun _ _ h => False.elim h)
    obtain ⟨rfl, rfl⟩ := h9
    refine v_iload O dL_law_739 rfl ?_
    refine v_icmp_eq (tgt := 746) O dL_law_741 (by decide) (fun _ => ?_) (fun h => absurd rfl h)
    refine v_iload O dL_law_746 rfl ?_
    refine v_if_ne (tgt := 763) O dL_law_748 (by decide) (fun h => absurd rfl h) (fun _ => ?_)
    refine v_aload_n O dL_law_751 rfl ?_
    refine v_iconst (v := nI 0) O dL_law_752 (by decide) ?_
    refine v_w (w' := (u9 ++ u0) ++ oW E o (vp_updL f 0 v9.toInt64) o2 g) ((List.nil_append _).trans (List.append_assoc _ _ _).symm) ?_
    refine v_laldO O dL_law_753 ?_
    refine v_iload O dL_law_754 rfl ?_
    refine v_i2l O dL_law_756 ?_
    refine v_lcmp O dL_law_757 ?_
    refine v_if_eq (tgt := 763) O dL_law_758 (by decide) (fun _ => ?_) (fun h => absurd (cmp_self v9.toInt64) h)
    refine v_goto (tgt := 1543) O dL_law_763 (by decide) ?_
    refine v_w (w' := u9 ++ (u0 ++ oW E o (vp_updL f 0 v9.toInt64) o2 g)) (List.append_assoc _ _ _) ?_
    exact v_widen (k' := k + 1) (n' := n + 6) (by omega) (by omega) (v_ord [0, 1, 2, 3, 4, 5] (kk _ _ 0 u0 u9 R1))
  · obtain ⟨m1, m2, m3, m4⟩ := gm
    refine v_aload_n O dL_law_710 rfl ?_
    refine v_aload_n O dL_law_711 rfl ?_
    refine v_iload O dL_law_712 rfl ?_
    refine v_iconst (v := nI 1) O dL_law_714 (by decide) ?_
    refine v_iaddN O dL_law_715 ?_
    refine v_sld O hX hL (show 4 * j + 1 < L by omega) dL_law_716 ?_
    refine v_aload_n O dL_law_717 rfl ?_
    refine v_w (w' := wm ++ ((wx ++ oW E o f o2 g) ++ [])) (by rw [List.append_nil]) ?_
    refine v_callHJ (wa := wm) (wb := []) (w := wx ++ oW E o f o2 g) (As := [.ref (ax 0), .int (xs (4 * j + 1)), .ref o]) (st := []) O dL_law_718 lkH_132 (lx_channelSum1 hst (xs (4 * j + 1)) heX gx CX) rfl rfl ⟨rfl, rfl, by decide, by decide, by show k + 1 ≤ 1069; omega, by show n + 6 ≤ 11774; omega⟩ (fun r u h => ?_) (fun _ _ h => False.elim h)
    obtain ⟨rfl, rfl⟩ := h
    refine v_w (w' := [] ++ (wm ++ (wx ++ oW E o f o2 g))) (by rw [List.append_nil]; rfl) ?_
    refine v_cv (pc' := 721) (lv' := lvL b (ax 0) (am 0) o o2 j) (st' := [.int (nI 1)]) (w' := [] ++ (wm ++ (wx ++ oW E o f o2 g))) ?_
    refine v_istore O dL_law_721 (by rw [hN]; decide) ?_
    refine v_aload_n O dL_law_723 rfl ?_
    refine v_aload_n O dL_law_724 rfl ?_
    refine v_iload O dL_law_725 rfl ?_
    refine v_iconst (v := nI 1) O dL_law_727 (by decide) ?_
    refine v_iaddN O dL_law_728 ?_
    refine v_sld O hX hL (show 4 * j + 1 < L by omega) dL_law_729 ?_
    refine v_callVJ (wa := []) (wb := wx ++ oW E o f o2 g) (w := wm) (As := [.int (xs (4 * j + 1))]) (st := []) O dL_law_730 lkL_134 CM 0 heM rfl rfl rfl ⟨m1, m2, by show _ + 1 ≤ 12; omega, by show _ ≤ 440; omega, by show k + 1 + 0 ≤ 1069; omega, by show n + 6 + 0 ≤ 11774; omega⟩ (fun r' u' h => ?_) (fun _ _ h => False.elim h)
    obtain ⟨rfl, rfl⟩ := h
    have R1 := hrel
    refine v_cv (pc' := 733) (lv' := st1 (lvL b (ax 0) (am 0) o o2 j) 6 (.int (nI 1))) (st' := [.int (nI 0)]) (w' := [] ++ (u' ++ (wx ++ oW E o f o2 g))) ?_
    refine v_istore O dL_law_733 (by rw [hN]; decide) ?_
    refine v_aload_n O dL_law_735 rfl ?_
    obtain ⟨fs1, he1⟩ := rel_m R1
    refine v_callVJ (wa := []) (wb := wx ++ oW E o f o2 g) (w := u') (As := []) (st := []) O dL_law_736 lkL_92 (rel_t hst R1) 0 he1 rfl rfl rfl ⟨rfl, rfl, by decide, by decide, by show k + 1 + 0 + 0 ≤ 1069; omega, by show n + 6 + 0 + 0 ≤ 11774; omega⟩ (fun r9 u9 h9 => ?_) (fun _ _ h => False.elim h)
    obtain ⟨rfl, rfl⟩ := h9
    refine v_iload O dL_law_739 rfl ?_
    refine v_icmp_eq (tgt := 746) O dL_law_741 (by decide) (fun _ => ?_) (fun h => absurd rfl h)
    refine v_iload O dL_law_746 rfl ?_
    refine v_if_ne (tgt := 763) O dL_law_748 (by decide) (fun _ => ?_) (fun h => absurd h (by decide))
    refine v_goto (tgt := 1543) O dL_law_763 (by decide) ?_
    exact v_ord [0, 1, 2, 3, 4, 5] (kk _ _ 1 wx u9 R1)
theorem b_strike {E : ET} {G : GT} {tb : List ExceptionTableEntry} (O : OKG E G cL_law RL room_1 tb) (hst : E.1.stackTraces = false) (hN : nLG G = 9) {b L : Nat} {xs : Nat → Int32} (hX : scrG G b L xs) (hL : L ≤ 2048) {ax am : Nat → Nat} {o o2 : Nat} {f : Nat → Int64} {g : Nat → UInt64} {th : Nat} {wx wm : va_W} (R : REL E ax am th wx wm) {j k n : Nat} (hj : 4 * j + 4 ≤ L) (hk : k + 1 ≤ 1069) (hn : n + 6 ≤ 11774) (kk : ∀ f g th wx wm, REL E ax am th wx wm → V E G (k + 1) (n + 6) 1543 (lvL b (ax 0) (am 0) o o2 j) [] (wm ++ (wx ++ oW E o f o2 g))) : V E G k n 766 (lvL b (ax 0) (am 0) o o2 j) [] (wm ++ (wx ++ oW E o f o2 g)) := by
  obtain ⟨fsX, heX⟩ := rel_x R
  obtain ⟨fsM, heM⟩ := rel_m R
  rcases op_strike hst R (xs (4 * j + 1)) with ⟨v9, rx, PX, rm, PM, gx, gm, CX, CM, hvX, hvM, hrel⟩ | ⟨rx, rm, wm1, gx, gm, CX, CM, hrel⟩
  · obtain ⟨m1, m2, m3, m4⟩ := gm
    refine v_aload_n O dL_law_766 rfl ?_
    refine v_aload_n O dL_law_767 rfl ?_
    refine v_iload O dL_law_768 rfl ?_
    refine v_iconst (v := nI 1) O dL_law_770 (by decide) ?_
    refine v_iaddN O dL_law_771 ?_
    refine v_sld O hX hL (show 4 * j + 1 < L by omega) dL_law_772 ?_
    refine v_aload_n O dL_law_773 rfl ?_
    refine v_w (w' := wm ++ ((wx ++ oW E o f o2 g) ++ [])) (by rw [List.append_nil]) ?_
    refine v_callHJ (wa := wm) (wb := []) (w := wx ++ oW E o f o2 g) (As := [.ref (ax 0), .int (xs (4 * j + 1)), .ref o]) (st := []) O dL_law_774 lkH_135 (l_strike hst (xs (4 * j + 1)) heX gx CX hvX) rfl rfl ⟨rfl, rfl, by decide, by decide, by show k + 0 ≤ 1069; omega, by show n + 0 ≤ 11774; omega⟩ (fun r u h => ?_) (fun _ _ h => False.elim h)
    obtain ⟨rfl, r0, u0, hp, rfl⟩ := h
    refine v_w (w' := [] ++ (wm ++ (u0 ++ oW E o (vp_updL f 0 v9.toInt64) o2 g))) (by rw [List.append_nil]; rfl) ?_
    refine v_cv (pc' := 777) (lv' := lvL b (ax 0) (am 0) o o2 j) (st' := [.int (nI 0)]) (w' := [] ++ (wm ++ (u0 ++ oW E o (vp_updL f 0 v9.toInt64) o2 g))) ?_
    refine v_istore O dL_law_777 (by rw [hN]; decide) ?_
    refine v_aload_n O dL_law_779 rfl ?_
    refine v_aload_n O dL_law_780 rfl ?_
    refine v_iload O dL_law_781 rfl ?_
    refine v_iconst (v := nI 1) O dL_law_783 (by decide) ?_
    refine v_iaddN O dL_law_784 ?_
    refine v_sld O hX hL (show 4 * j + 1 < L by omega) dL_law_785 ?_
    refine v_callVJ (wa := []) (wb := u0 ++ oW E o (vp_updL f 0 v9.toInt64) o2 g) (w := wm) (As := [.int (xs (4 * j + 1))]) (st := []) O dL_law_786 lkL_137 CM 0 heM rfl rfl rfl ⟨m1, m2, by show _ + 1 ≤ 12; omega, by show _ ≤ 440; omega, by show k + 0 + 0 ≤ 1069; omega, by show n + 0 + 0 ≤ 11774; omega⟩ (fun r' u' hp' => ?_) (fun _ _ h => False.elim h)
    obtain rfl := hvM r' u' hp'
    have R1 := hrel _ u0 _ u' hp hp'
    refine v_cv (pc' := 789) (lv' := st1 (lvL b (ax 0) (am 0) o o2 j) 6 (.int (nI 0))) (st' := [.int v9]) (w' := [] ++ (u' ++ (u0 ++ oW E o (vp_updL f 0 v9.toInt64) o2 g))) ?_
    refine v_istore O dL_law_789 (by rw [hN]; decide) ?_
    refine v_aload_n O dL_law_791 rfl ?_
    obtain ⟨fs1, he1⟩ := rel_m R1
    refine v_callVJ (wa := []) (wb := u0 ++ oW E o (vp_updL f 0 v9.toInt64) o2 g) (w := u') (As := []) (st := []) O dL_law_792 lkL_92 (rel_t hst R1) 0 he1 rfl rfl rfl ⟨rfl, rfl, by decide, by decide, by show k + 0 + 0 + 0 ≤ 1069; omega, by show n + 0 + 0 + 0 ≤ 11774; omega⟩ (fun r9 u9 h9 => ?_) (fun _ _ h => False.elim h)
    obtain ⟨rfl, rfl⟩ := h9
    refine v_iload O dL_law_795 rfl ?_
    refine v_icmp_eq (tgt := 802) O dL_law_797 (by decide) (fun _ => ?_) (fun h => absurd rfl h)
    refine v_iload O dL_law_802 rfl ?_
    refine v_if_ne (tgt := 819) O dL_law_804 (by decide) (fun h => absurd rfl h) (fun _ => ?_)
    refine v_aload_n O dL_law_807 rfl ?_
    refine v_iconst (v := nI 0) O dL_law_808 (by decide) ?_
    refine v_w (w' := (u9 ++ u0) ++ oW E o (vp_updL f 0 v9.toInt64) o2 g) ((List.nil_append _).trans (List.append_assoc _ _ _).symm) ?_
    refine v_laldO O dL_law_809 ?_
    refine v_iload O dL_law_810 rfl ?_
    refine v_i2l O dL_law_812 ?_
    refine v_lcmp O dL_law_813 ?_
    refine v_if_eq (tgt := 819) O dL_law_814 (by decide) (fun _ => ?_) (fun h => absurd (cmp_self v9.toInt64) h)
    refine v_goto (tgt := 1543) O dL_law_819 (by decide) ?_
    refine v_w (w' := u9 ++ (u0 ++ oW E o (vp_updL f 0 v9.toInt64) o2 g)) (List.append_assoc _ _ _) ?_
    exact v_widen (k' := k + 1) (n' := n + 6) (by omega) (by omega) (v_ord [0, 1, 2, 3, 4, 5] (kk _ _ 0 u0 u9 R1))
  · obtain ⟨m1, m2, m3, m4⟩ := gm
    refine v_aload_n O dL_law_766 rfl ?_
    refine v_aload_n O dL_law_767 rfl ?_
    refine v_iload O dL_law_768 rfl ?_
    refine v_iconst (v := nI 1) O dL_law_770 (by decide) ?_
    refine v_iaddN O dL_law_771 ?_
    refine v_sld O hX hL (show 4 * j + 1 < L by omega) dL_law_772 ?_
    refine v_aload_n O dL_law_773 rfl ?_
    refine v_w (w' := wm ++ ((wx ++ oW E o f o2 g) ++ [])) (by rw [List.append_nil]) ?_
    refine v_callHJ (wa := wm) (wb := []) (w := wx ++ oW E o f o2 g) (As := [.ref (ax 0), .int (xs (4 * j + 1)), .ref o]) (st := []) O dL_law_774 lkH_135 (lx_strike1 hst (xs (4 * j + 1)) heX gx CX) rfl rfl ⟨rfl, rfl, by decide, by decide, by show k + 1 ≤ 1069; omega, by show n + 6 ≤ 11774; omega⟩ (fun r u h => ?_) (fun _ _ h => False.elim h)
    obtain ⟨rfl, rfl⟩ := h
    refine v_w (w' := [] ++ (wm ++ (wx ++ oW E o f o2 g))) (by rw [List.append_nil]; rfl) ?_
    refine v_cv (pc' := 777) (lv' := lvL b (ax 0) (am 0) o o2 j) (st' := [.int (nI 1)]) (w' := [] ++ (wm ++ (wx ++ oW E o f o2 g))) ?_
    refine v_istore O dL_law_777 (by rw [hN]; decide) ?_
    refine v_aload_n O dL_law_779 rfl ?_
    refine v_aload_n O dL_law_780 rfl ?_
    refine v_iload O dL_law_781 rfl ?_
    refine v_iconst (v := nI 1) O dL_law_783 (by decide) ?_
    refine v_iaddN O dL_law_784 ?_
    refine v_sld O hX hL (show 4 * j + 1 < L by omega) dL_law_785 ?_
    refine v_callVJ (wa := []) (wb := wx ++ oW E o f o2 g) (w := wm) (As := [.int (xs (4 * j + 1))]) (st := []) O dL_law_786 lkL_137 CM 0 heM rfl rfl rfl ⟨m1, m2, by show _ + 1 ≤ 12; omega, by show _ ≤ 440; omega, by show k + 1 + 0 ≤ 1069; omega, by show n + 6 + 0 ≤ 11774; omega⟩ (fun r' u' h => ?_) (fun _ _ h => False.elim h)
    obtain ⟨rfl, rfl⟩ := h
    have R1 := hrel
    refine v_cv (pc' := 789) (lv' := st1 (lvL b (ax 0) (am 0) o o2 j) 6 (.int (nI 1))) (st' := [.int (nI 0)]) (w' := [] ++ (u' ++ (wx ++ oW E o f o2 g))) ?_
    refine v_istore O dL_law_789 (by rw [hN]; decide) ?_
    refine v_aload_n O dL_law_791 rfl ?_
    obtain ⟨fs1, he1⟩ := rel_m R1
    refine v_callVJ (wa := []) (wb := wx ++ oW E o f o2 g) (w := u') (As := []) (st := []) O dL_law_792 lkL_92 (rel_t hst R1) 0 he1 rfl rfl rfl ⟨rfl, rfl, by decide, by decide, by show k + 1 + 0 + 0 ≤ 1069; omega, by show n + 6 + 0 + 0 ≤ 11774; omega⟩ (fun r9 u9 h9 => ?_) (fun _ _ h => False.elim h)
    obtain ⟨rfl, rfl⟩ := h9
    refine v_iload O dL_law_795 rfl ?_
    refine v_icmp_eq (tgt := 802) O dL_law_797 (by decide) (fun _ => ?_) (fun h => absurd rfl h)
    refine v_iload O dL_law_802 rfl ?_
    refine v_if_ne (tgt := 819) O dL_law_804 (by decide) (fun _ => ?_) (fun h => absurd h (by decide))
    refine v_goto (tgt := 1543) O dL_law_819 (by decide) ?_
    exact v_ord [0, 1, 2, 3, 4, 5] (kk _ _ 1 wx u9 R1)
theorem b_offset {E : ET} {G : GT} {tb : List ExceptionTableEntry} (O : OKG E G cL_law RL room_1 tb) (hst : E.1.stackTraces = false) (hN : nLG G = 9) {b L : Nat} {xs : Nat → Int32} (hX : scrG G b L xs) (hL : L ≤ 2048) {ax am : Nat → Nat} {o o2 : Nat} {f : Nat → Int64} {g : Nat → UInt64} {th : Nat} {wx wm : va_W} (R : REL E ax am th wx wm) {j k n : Nat} (hj : 4 * j + 4 ≤ L) (hk : k + 1 ≤ 1069) (hn : n + 6 ≤ 11774) (kk : ∀ f g th wx wm, REL E ax am th wx wm → V E G (k + 1) (n + 6) 1543 (lvL b (ax 0) (am 0) o o2 j) [] (wm ++ (wx ++ oW E o f o2 g))) : V E G k n 822 (lvL b (ax 0) (am 0) o o2 j) [] (wm ++ (wx ++ oW E o f o2 g)) := by
  obtain ⟨fsX, heX⟩ := rel_x R
  obtain ⟨fsM, heM⟩ := rel_m R
  rcases op_offset hst R (xs (4 * j + 1)) (xs (4 * j + 2)) (!decide (xs (4 * j + 3) = 0)) with ⟨v9, rx, PX, rm, PM, gx, gm, CX, CM, hvX, hvM, hrel⟩ | ⟨rx, rm, wm1, gx, gm, CX, CM, hrel⟩
  · obtain ⟨m1, m2, m3, m4⟩ := gm
    refine v_aload_n O dL_law_822 rfl ?_
    refine v_aload_n O dL_law_823 rfl ?_
    refine v_iload O dL_law_824 rfl ?_
    refine v_iconst (v := nI 1) O dL_law_826 (by decide) ?_
    refine v_iaddN O dL_law_827 ?_
    refine v_sld O hX hL (show 4 * j + 1 < L by omega) dL_law_828 ?_
    refine v_aload_n O dL_law_829 rfl ?_
    refine v_iload O dL_law_830 rfl ?_
    refine v_iconst (v := nI 2) O dL_law_832 (by decide) ?_
    refine v_iaddN O dL_law_833 ?_
    refine v_sld O hX hL (show 4 * j + 2 < L by omega) dL_law_834 ?_
    refine v_aload_n O dL_law_835 rfl ?_
    refine v_iload O dL_law_836 rfl ?_
    refine v_iconst (v := nI 3) O dL_law_838 (by decide) ?_
    refine v_iaddN O dL_law_839 ?_
    refine v_sld O hX hL (show 4 * j + 3 < L by omega) dL_law_840 ?_
    refine v_nz O dL_law_841 dL_law_844 dL_law_845 dL_law_848 ?_
    refine v_aload_n O dL_law_849 rfl ?_
    refine v_w (w' := wm ++ ((wx ++ oW E o f o2 g) ++ [])) (by rw [List.append_nil]) ?_
    refine v_callHJ (wa := wm) (wb := []) (w := wx ++ oW E o f o2 g) (As := [.ref (ax 0), .int (xs (4 * j + 1)), .int (xs (4 * j + 2)), .int (bI (!decide (xs (4 * j + 3) = 0))), .ref o]) (st := []) O dL_law_850 lkH_138 (l_offset hst (xs (4 * j + 1)) (xs (4 * j + 2)) (bI (!decide (xs (4 * j + 3) = 0))) heX gx CX hvX) rfl rfl ⟨rfl, rfl, by decide, by decide, by show k + 0 ≤ 1069; omega, by show n + 0 ≤ 11774; omega⟩ (fun r u h => ?_) (fun _ _ h => False.elim h)
    obtain ⟨rfl, r0, u0, hp, rfl⟩ := h
    refine v_w (w' := [] ++ (wm ++ (u0 ++ oW E o (vp_updL f 0 v9.toInt64) o2 g))) (by rw [List.append_nil]; rfl) ?_
    refine v_cv (pc' := 853) (lv' := lvL b (ax 0) (am 0) o o2 j) (st' := [.int (nI 0)]) (w' := [] ++ (wm ++ (u0 ++ oW E o (vp_updL f 0 v9.toInt64) o2 g))) ?_
    refine v_istore O dL_law_853 (by rw [hN]; decide) ?_
    refine v_aload_n O dL_law_855 rfl ?_
    refine v_aload_n O dL_law_856 rfl ?_
    refine v_iload O dL_law_857 rfl ?_
    refine v_iconst (v := nI 1) O dL_law_859 (by decide) ?_
    refine v_iaddN O dL_law_860 ?_
    refine v_sld O hX hL (show 4 * j + 1 < L by omega) dL_law_861 ?_
    refine v_aload_n O dL_law_862 rfl ?_
    refine v_iload O dL_law_863 rfl ?_
    refine v_iconst (v := nI 2) O dL_law_865 (by decide) ?_
    refine v_iaddN O dL_law_866 ?_
    refine v_sld O hX hL (show 4 * j + 2 < L by omega) dL_law_867 ?_
    refine v_aload_n O dL_law_868 rfl ?_
    refine v_iload O dL_law_869 rfl ?_
    refine v_iconst (v := nI 3) O dL_law_871 (by decide) ?_
    refine v_iaddN O dL_law_872 ?_
    refine v_sld O hX hL (show 4 * j + 3 < L by omega) dL_law_873 ?_
    refine v_nz O dL_law_874 dL_law_877 dL_law_878 dL_law_881 ?_
    refine v_callVJ (wa := []) (wb := u0 ++ oW E o (vp_updL f 0 v9.toInt64) o2 g) (w := wm) (As := [.int (xs (4 * j + 1)), .int (xs (4 * j + 2)), .int (bI (!decide (xs (4 * j + 3) = 0)))]) (st := []) O dL_law_882 lkL_141 CM 0 heM rfl rfl rfl ⟨m1, m2, by show _ + 1 ≤ 12; omega, by show _ ≤ 440; omega, by show k + 0 + 0 ≤ 1069; omega, by show n + 0 + 0 ≤ 11774; omega⟩ (fun r' u' hp' => ?_) (fun _ _ h => False.elim h)
    obtain rfl := hvM r' u' hp'
    have R1 := hrel _ u0 _ u' hp hp'
    refine v_cv (pc' := 885) (lv' := st1 (lvL b (ax 0) (am 0) o o2 j) 6 (.int (nI 0))) (st' := [.int v9]) (w' := [] ++ (u' ++ (u0 ++ oW E o (vp_updL f 0 v9.toInt64) o2 g))) ?_
    refine v_istore O dL_law_885 (by rw [hN]; decide) ?_
    refine v_aload_n O dL_law_887 rfl ?_
    obtain ⟨fs1, he1⟩ := rel_m R1
    refine v_callVJ (wa := []) (wb := u0 ++ oW E o (vp_updL f 0 v9.toInt64) o2 g) (w := u') (As := []) (st := []) O dL_law_888 lkL_92 (rel_t hst R1) 0 he1 rfl rfl rfl ⟨rfl, rfl, by decide, by decide, by show k + 0 + 0 + 0 ≤ 1069; omega, by show n + 0 + 0 + 0 ≤ 11774; omega⟩ (fun r9 u9 h9 => ?_) (fun _ _ h => False.elim h)
    obtain ⟨rfl, rfl⟩ := h9
    refine v_iload O dL_law_891 rfl ?_
    refine v_icmp_eq (tgt := 898) O dL_law_893 (by decide) (fun _ => ?_) (fun h => absurd rfl h)
    refine v_iload O dL_law_898 rfl ?_
    refine v_if_ne (tgt := 915) O dL_law_900 (by decide) (fun h => absurd rfl h) (fun _ => ?_)
    refine v_aload_n O dL_law_903 rfl ?_
    refine v_iconst (v := nI 0) O dL_law_904 (by decide) ?_
    refine v_w (w' := (u9 ++ u0) ++ oW E o (vp_updL f 0 v9.toInt64) o2 g) ((List.nil_append _).trans (List.append_assoc _ _ _).symm) ?_
    refine v_laldO O dL_law_905 ?_
    refine v_iload O dL_law_906 rfl ?_
    refine v_i2l O dL_law_908 ?_
    refine v_lcmp O dL_law_909 ?_
    refine v_if_eq (tgt := 915) O dL_law_910 (by decide) (fun _ => ?_) (fun h => absurd (cmp_self v9.toInt64) h)
    refine v_goto (tgt := 1543) O dL_law_915 (by decide) ?_
    refine v_w (w' := u9 ++ (u0 ++ oW E o (vp_updL f 0 v9.toInt64) o2 g)) (List.append_assoc _ _ _) ?_
    exact v_widen (k' := k + 1) (n' := n + 6) (by omega) (by omega) (v_ord [0, 1, 2, 3, 4, 5] (kk _ _ 0 u0 u9 R1))
  · obtain ⟨m1, m2, m3, m4⟩ := gm
    refine v_aload_n O dL_law_822 rfl ?_
    refine v_aload_n O dL_law_823 rfl ?_
    refine v_iload O dL_law_824 rfl ?_
    refine v_iconst (v := nI 1) O dL_law_826 (by decide) ?_
    refine v_iaddN O dL_law_827 ?_
    refine v_sld O hX hL (show 4 * j + 1 < L by omega) dL_law_828 ?_
    refine v_aload_n O dL_law_829 rfl ?_
    refine v_iload O dL_law_830 rfl ?_
    refine v_iconst (v := nI 2) O dL_law_832 (by decide) ?_
    refine v_iaddN O dL_law_833 ?_
    refine v_sld O hX hL (show 4 * j + 2 < L by omega) dL_law_834 ?_
    refine v_aload_n O dL_law_835 rfl ?_
    refine v_iload O dL_law_836 rfl ?_
    refine v_iconst (v := nI 3) O dL_law_838 (by decide) ?_
    refine v_iaddN O dL_law_839 ?_
    refine v_sld O hX hL (show 4 * j + 3 < L by omega) dL_law_840 ?_
    refine v_nz O dL_law_841 dL_law_844 dL_law_845 dL_law_848 ?_
    refine v_aload_n O dL_law_849 rfl ?_
    refine v_w (w' := wm ++ ((wx ++ oW E o f o2 g) ++ [])) (by rw [List.append_nil]) ?_
    refine v_callHJ (wa := wm) (wb := []) (w := wx ++ oW E o f o2 g) (As := [.ref (ax 0), .int (xs (4 * j + 1)), .int (xs (4 * j + 2)), .int (bI (!decide (xs (4 * j + 3) = 0))), .ref o]) (st := []) O dL_law_850 lkH_138 (lx_offset1 hst (xs (4 * j + 1)) (xs (4 * j + 2)) (bI (!decide (xs (4 * j + 3) = 0))) heX gx CX) rfl rfl ⟨rfl, rfl, by decide, by decide, by show k + 1 ≤ 1069; omega, by show n + 6 ≤ 11774; omega⟩ (fun r u h => ?_) (fun _ _ h => False.elim h)
    obtain ⟨rfl, rfl⟩ := h
    refine v_w (w' := [] ++ (wm ++ (wx ++ oW E o f o2 g))) (by rw [List.append_nil]; rfl) ?_
    refine v_cv (pc' := 853) (lv' := lvL b (ax 0) (am 0) o o2 j) (st' := [.int (nI 1)]) (w' := [] ++ (wm ++ (wx ++ oW E o f o2 g))) ?_
    refine v_istore O dL_law_853 (by rw [hN]; decide) ?_
    refine v_aload_n O dL_law_855 rfl ?_
    refine v_aload_n O dL_law_856 rfl ?_
    refine v_iload O dL_law_857 rfl ?_
    refine v_iconst (v := nI 1) O dL_law_859 (by decide) ?_
    refine v_iaddN O dL_law_860 ?_
    refine v_sld O hX hL (show 4 * j + 1 < L by omega) dL_law_861 ?_
    refine v_aload_n O dL_law_862 rfl ?_
    refine v_iload O dL_law_863 rfl ?_
    refine v_iconst (v := nI 2) O dL_law_865 (by decide) ?_
    refine v_iaddN O dL_law_866 ?_
    refine v_sld O hX hL (show 4 * j + 2 < L by omega) dL_law_867 ?_
    refine v_aload_n O dL_law_868 rfl ?_
    refine v_iload O dL_law_869 rfl ?_
    refine v_iconst (v := nI 3) O dL_law_871 (by decide) ?_
    refine v_iaddN O dL_law_872 ?_
    refine v_sld O hX hL (show 4 * j + 3 < L by omega) dL_law_873 ?_
    refine v_nz O dL_law_874 dL_law_877 dL_law_878 dL_law_881 ?_
    refine v_callVJ (wa := []) (wb := wx ++ oW E o f o2 g) (w := wm) (As := [.int (xs (4 * j + 1)), .int (xs (4 * j + 2)), .int (bI (!decide (xs (4 * j + 3) = 0)))]) (st := []) O dL_law_882 lkL_141 CM 0 heM rfl rfl rfl ⟨m1, m2, by show _ + 1 ≤ 12; omega, by show _ ≤ 440; omega, by show k + 1 + 0 ≤ 1069; omega, by show n + 6 + 0 ≤ 11774; omega⟩ (fun r' u' h => ?_) (fun _ _ h => False.elim h)
    obtain ⟨rfl, rfl⟩ := h
    have R1 := hrel
    refine v_cv (pc' := 885) (lv' := st1 (lvL b (ax 0) (am 0) o o2 j) 6 (.int (nI 1))) (st' := [.int (nI 0)]) (w' := [] ++ (u' ++ (wx ++ oW E o f o2 g))) ?_
    refine v_istore O dL_law_885 (by rw [hN]; decide) ?_
    refine v_aload_n O dL_law_887 rfl ?_
    obtain ⟨fs1, he1⟩ := rel_m R1
    refine v_callVJ (wa := []) (wb := wx ++ oW E o f o2 g) (w := u') (As := []) (st := []) O dL_law_888 lkL_92 (rel_t hst R1) 0 he1 rfl rfl rfl ⟨rfl, rfl, by decide, by decide, by show k + 1 + 0 + 0 ≤ 1069; omega, by show n + 6 + 0 + 0 ≤ 11774; omega⟩ (fun r9 u9 h9 => ?_) (fun _ _ h => False.elim h)
    obtain ⟨rfl, rfl⟩ := h9
    refine v_iload O dL_law_891 rfl ?_
    refine v_icmp_eq (tgt := 898) O dL_law_893 (by decide) (fun _ => ?_) (fun h => absurd rfl h)
    refine v_iload O dL_law_898 rfl ?_
    refine v_if_ne (tgt := 915) O dL_law_900 (by decide) (fun _ => ?_) (fun h => absurd h (by decide))
    refine v_goto (tgt := 1543) O dL_law_915 (by decide) ?_
    exact v_ord [0, 1, 2, 3, 4, 5] (kk _ _ 1 wx u9 R1)
theorem b_bend {E : ET} {G : GT} {tb : List ExceptionTableEntry} (O : OKG E G cL_law RL room_1 tb) (hst : E.1.stackTraces = false) (hN : nLG G = 9) {b L : Nat} {xs : Nat → Int32} (hX : scrG G b L xs) (hL : L ≤ 2048) {ax am : Nat → Nat} {o o2 : Nat} {f : Nat → Int64} {g : Nat → UInt64} {th : Nat} {wx wm : va_W} (R : REL E ax am th wx wm) {j k n : Nat} (hj : 4 * j + 4 ≤ L) (hk : k + 1 ≤ 1069) (hn : n + 6 ≤ 11774) (kk : ∀ f g th wx wm, REL E ax am th wx wm → V E G (k + 1) (n + 6) 1543 (lvL b (ax 0) (am 0) o o2 j) [] (wm ++ (wx ++ oW E o f o2 g))) : V E G k n 918 (lvL b (ax 0) (am 0) o o2 j) [] (wm ++ (wx ++ oW E o f o2 g)) := by
  obtain ⟨fsX, heX⟩ := rel_x R
  obtain ⟨fsM, heM⟩ := rel_m R
  rcases op_bend hst R (xs (4 * j + 1)) with ⟨v9, rx, PX, rm, PM, gx, gm, CX, CM, hvX, hvM, hrel⟩ | ⟨rx, rm, wm1, gx, gm, CX, CM, hrel⟩
  · obtain ⟨m1, m2, m3, m4⟩ := gm
    refine v_aload_n O dL_law_918 rfl ?_
    refine v_aload_n O dL_law_919 rfl ?_
    refine v_iload O dL_law_920 rfl ?_
    refine v_iconst (v := nI 1) O dL_law_922 (by decide) ?_
    refine v_iaddN O dL_law_923 ?_
    refine v_sld O hX hL (show 4 * j + 1 < L by omega) dL_law_924 ?_
    refine v_aload_n O dL_law_925 rfl ?_
    refine v_w (w' := wm ++ ((wx ++ oW E o f o2 g) ++ [])) (by rw [List.append_nil]) ?_
    refine v_callHJ (wa := wm) (wb := []) (w := wx ++ oW E o f o2 g) (As := [.ref (ax 0), .int (xs (4 * j + 1)), .ref o]) (st := []) O dL_law_926 lkH_142 (l_bend hst (xs (4 * j + 1)) heX gx CX hvX) rfl rfl ⟨rfl, rfl, by decide, by decide, by show k + 0 ≤ 1069; omega, by show n + 0 ≤ 11774; omega⟩ (fun r u h => ?_) (fun _ _ h => False.elim h)
    obtain ⟨rfl, r0, u0, hp, rfl⟩ := h
    refine v_w (w' := [] ++ (wm ++ (u0 ++ oW E o (vp_updL f 0 v9.toInt64) o2 g))) (by rw [List.append_nil]; rfl) ?_
    refine v_cv (pc' := 929) (lv' := lvL b (ax 0) (am 0) o o2 j) (st' := [.int (nI 0)]) (w' := [] ++ (wm ++ (u0 ++ oW E o (vp_updL f 0 v9.toInt64) o2 g))) ?_
    refine v_istore O dL_law_929 (by rw [hN]; decide) ?_
    refine v_aload_n O dL_law_931 rfl ?_
    refine v_aload_n O dL_law_932 rfl ?_
    refine v_iload O dL_law_933 rfl ?_
    refine v_iconst (v := nI 1) O dL_law_935 (by decide) ?_
    refine v_iaddN O dL_law_936 ?_
    refine v_sld O hX hL (show 4 * j + 1 < L by omega) dL_law_937 ?_
    refine v_callVJ (wa := []) (wb := u0 ++ oW E o (vp_updL f 0 v9.toInt64) o2 g) (w := wm) (As := [.int (xs (4 * j + 1))]) (st := []) O dL_law_938 lkL_144 CM 0 heM rfl rfl rfl ⟨m1, m2, by show _ + 1 ≤ 12; omega, by show _ ≤ 440; omega, by show k + 0 + 0 ≤ 1069; omega, by show n + 0 + 0 ≤ 11774; omega⟩ (fun r' u' hp' => ?_) (fun _ _ h => False.elim h)
    obtain rfl := hvM r' u' hp'
    have R1 := hrel _ u0 _ u' hp hp'
    refine v_cv (pc' := 941) (lv' := st1 (lvL b (ax 0) (am 0) o o2 j) 6 (.int (nI 0))) (st' := [.int v9]) (w' := [] ++ (u' ++ (u0 ++ oW E o (vp_updL f 0 v9.toInt64) o2 g))) ?_
    refine v_istore O dL_law_941 (by rw [hN]; decide) ?_
    refine v_aload_n O dL_law_943 rfl ?_
    obtain ⟨fs1, he1⟩ := rel_m R1
    refine v_callVJ (wa := []) (wb := u0 ++ oW E o (vp_updL f 0 v9.toInt64) o2 g) (w := u') (As := []) (st := []) O dL_law_944 lkL_92 (rel_t hst R1) 0 he1 rfl rfl rfl ⟨rfl, rfl, by decide, by decide, by show k + 0 + 0 + 0 ≤ 1069; omega, by show n + 0 + 0 + 0 ≤ 11774; omega⟩ (fun r9 u9 h9 => ?_) (fun _ _ h => False.elim h)
    obtain ⟨rfl, rfl⟩ := h9
    refine v_iload O dL_law_947 rfl ?_
    refine v_icmp_eq (tgt := 954) O dL_law_949 (by decide) (fun _ => ?_) (fun h => absurd rfl h)
    refine v_iload O dL_law_954 rfl ?_
    refine v_if_ne (tgt := 971) O dL_law_956 (by decide) (fun h => absurd rfl h) (fun _ => ?_)
    refine v_aload_n O dL_law_959 rfl ?_
    refine v_iconst (v := nI 0) O dL_law_960 (by decide) ?_
    refine v_w (w' := (u9 ++ u0) ++ oW E o (vp_updL f 0 v9.toInt64) o2 g) ((List.nil_append _).trans (List.append_assoc _ _ _).symm) ?_
    refine v_laldO O dL_law_961 ?_
    refine v_iload O dL_law_962 rfl ?_
    refine v_i2l O dL_law_964 ?_
    refine v_lcmp O dL_law_965 ?_
    refine v_if_eq (tgt := 971) O dL_law_966 (by decide) (fun _ => ?_) (fun h => absurd (cmp_self v9.toInt64) h)
    refine v_goto (tgt := 1543) O dL_law_971 (by decide) ?_
    refine v_w (w' := u9 ++ (u0 ++ oW E o (vp_updL f 0 v9.toInt64) o2 g)) (List.append_assoc _ _ _) ?_
    exact v_widen (k' := k + 1) (n' := n + 6) (by omega) (by omega) (v_ord [0, 1, 2, 3, 4, 5] (kk _ _ 0 u0 u9 R1))
  · obtain ⟨m1, m2, m3, m4⟩ := gm
    refine v_aload_n O dL_law_918 rfl ?_
    refine v_aload_n O dL_law_919 rfl ?_
    refine v_iload O dL_law_920 rfl ?_
    refine v_iconst (v := nI 1) O dL_law_922 (by decide) ?_
    refine v_iaddN O dL_law_923 ?_
    refine v_sld O hX hL (show 4 * j + 1 < L by omega) dL_law_924 ?_
    refine v_aload_n O dL_law_925 rfl ?_
    refine v_w (w' := wm ++ ((wx ++ oW E o f o2 g) ++ [])) (by rw [List.append_nil]) ?_
    refine v_callHJ (wa := wm) (wb := []) (w := wx ++ oW E o f o2 g) (As := [.ref (ax 0), .int (xs (4 * j + 1)), .ref o]) (st := []) O dL_law_926 lkH_142 (lx_bend1 hst (xs (4 * j + 1)) heX gx CX) rfl rfl ⟨rfl, rfl, by decide, by decide, by show k + 1 ≤ 1069; omega, by show n + 6 ≤ 11774; omega⟩ (fun r u h => ?_) (fun _ _ h => False.elim h)
    obtain ⟨rfl, rfl⟩ := h
    refine v_w (w' := [] ++ (wm ++ (wx ++ oW E o f o2 g))) (by rw [List.append_nil]; rfl) ?_
    refine v_cv (pc' := 929) (lv' := lvL b (ax 0) (am 0) o o2 j) (st' := [.int (nI 1)]) (w' := [] ++ (wm ++ (wx ++ oW E o f o2 g))) ?_
    refine v_istore O dL_law_929 (by rw [hN]; decide) ?_
    refine v_aload_n O dL_law_931 rfl ?_
    refine v_aload_n O dL_law_932 rfl ?_
    refine v_iload O dL_law_933 rfl ?_
    refine v_iconst (v := nI 1) O dL_law_935 (by decide) ?_
    refine v_iaddN O dL_law_936 ?_
    refine v_sld O hX hL (show 4 * j + 1 < L by omega) dL_law_937 ?_
    refine v_callVJ (wa := []) (wb := wx ++ oW E o f o2 g) (w := wm) (As := [.int (xs (4 * j + 1))]) (st := []) O dL_law_938 lkL_144 CM 0 heM rfl rfl rfl ⟨m1, m2, by show _ + 1 ≤ 12; omega, by show _ ≤ 440; omega, by show k + 1 + 0 ≤ 1069; omega, by show n + 6 + 0 ≤ 11774; omega⟩ (fun r' u' h => ?_) (fun _ _ h => False.elim h)
    obtain ⟨rfl, rfl⟩ := h
    have R1 := hrel
    refine v_cv (pc' := 941) (lv' := st1 (lvL b (ax 0) (am 0) o o2 j) 6 (.int (nI 1))) (st' := [.int (nI 0)]) (w' := [] ++ (u' ++ (wx ++ oW E o f o2 g))) ?_
    refine v_istore O dL_law_941 (by rw [hN]; decide) ?_
    refine v_aload_n O dL_law_943 rfl ?_
    obtain ⟨fs1, he1⟩ := rel_m R1
    refine v_callVJ (wa := []) (wb := wx ++ oW E o f o2 g) (w := u') (As := []) (st := []) O dL_law_944 lkL_92 (rel_t hst R1) 0 he1 rfl rfl rfl ⟨rfl, rfl, by decide, by decide, by show k + 1 + 0 + 0 ≤ 1069; omega, by show n + 6 + 0 + 0 ≤ 11774; omega⟩ (fun r9 u9 h9 => ?_) (fun _ _ h => False.elim h)
    obtain ⟨rfl, rfl⟩ := h9
    refine v_iload O dL_law_947 rfl ?_
    refine v_icmp_eq (tgt := 954) O dL_law_949 (by decide) (fun _ => ?_) (fun h => absurd rfl h)
    refine v_iload O dL_law_954 rfl ?_
    refine v_if_ne (tgt := 971) O dL_law_956 (by decide) (fun _ => ?_) (fun h => absurd h (by decide))
    refine v_goto (tgt := 1543) O dL_law_971 (by decide) ?_
    exact v_ord [0, 1, 2, 3, 4, 5] (kk _ _ 1 wx u9 R1)
theorem b_lineSum {E : ET} {G : GT} {tb : List ExceptionTableEntry} (O : OKG E G cL_law RL room_1 tb) (hst : E.1.stackTraces = false) (hN : nLG G = 9) {b L : Nat} {xs : Nat → Int32} (hX : scrG G b L xs) (hL : L ≤ 2048) {ax am : Nat → Nat} {o o2 : Nat} {f : Nat → Int64} {g : Nat → UInt64} {th : Nat} {wx wm : va_W} (R : REL E ax am th wx wm) {j k n : Nat} (hj : 4 * j + 4 ≤ L) (hk : k + 1 ≤ 1069) (hn : n + 6 ≤ 11774) (kk : ∀ f g th wx wm, REL E ax am th wx wm → V E G (k + 1) (n + 6) 1543 (lvL b (ax 0) (am 0) o o2 j) [] (wm ++ (wx ++ oW E o f o2 g))) : V E G k n 974 (lvL b (ax 0) (am 0) o o2 j) [] (wm ++ (wx ++ oW E o f o2 g)) := by
  obtain ⟨fsX, heX⟩ := rel_x R
  obtain ⟨fsM, heM⟩ := rel_m R
  rcases op_lineSum hst R (xs (4 * j + 1)) (xs (4 * j + 2)) (!decide (xs (4 * j + 3) = 0)) with ⟨v9, rx, PX, rm, PM, gx, gm, CX, CM, hvX, hvM, hrel⟩ | ⟨rx, rm, wm1, gx, gm, CX, CM, hrel⟩
  · obtain ⟨m1, m2, m3, m4⟩ := gm
    refine v_aload_n O dL_law_974 rfl ?_
    refine v_aload_n O dL_law_975 rfl ?_
    refine v_iload O dL_law_976 rfl ?_
    refine v_iconst (v := nI 1) O dL_law_978 (by decide) ?_
    refine v_iaddN O dL_law_979 ?_
    refine v_sld O hX hL (show 4 * j + 1 < L by omega) dL_law_980 ?_
    refine v_aload_n O dL_law_981 rfl ?_
    refine v_iload O dL_law_982 rfl ?_
    refine v_iconst (v := nI 2) O dL_law_984 (by decide) ?_
    refine v_iaddN O dL_law_985 ?_
    refine v_sld O hX hL (show 4 * j + 2 < L by omega) dL_law_986 ?_
    refine v_aload_n O dL_law_987 rfl ?_
    refine v_iload O dL_law_988 rfl ?_
    refine v_iconst (v := nI 3) O dL_law_990 (by decide) ?_
    refine v_iaddN O dL_law_991 ?_
    refine v_sld O hX hL (show 4 * j + 3 < L by omega) dL_law_992 ?_
    refine v_nz O dL_law_993 dL_law_996 dL_law_997 dL_law_1000 ?_
    refine v_aload_n O dL_law_1001 rfl ?_
    refine v_w (w' := wm ++ ((wx ++ oW E o f o2 g) ++ [])) (by rw [List.append_nil]) ?_
    refine v_callHJ (wa := wm) (wb := []) (w := wx ++ oW E o f o2 g) (As := [.ref (ax 0), .int (xs (4 * j + 1)), .int (xs (4 * j + 2)), .int (bI (!decide (xs (4 * j + 3) = 0))), .ref o]) (st := []) O dL_law_1002 lkH_145 (l_lineSum hst (xs (4 * j + 1)) (xs (4 * j + 2)) (bI (!decide (xs (4 * j + 3) = 0))) heX gx CX hvX) rfl rfl ⟨rfl, rfl, by decide, by decide, by show k + 0 ≤ 1069; omega, by show n + 0 ≤ 11774; omega⟩ (fun r u h => ?_) (fun _ _ h => False.elim h)
    obtain ⟨rfl, r0, u0, hp, rfl⟩ := h
    refine v_w (w' := [] ++ (wm ++ (u0 ++ oW E o (vp_updL f 0 v9.toInt64) o2 g))) (by rw [List.append_nil]; rfl) ?_
    refine v_cv (pc' := 1005) (lv' := lvL b (ax 0) (am 0) o o2 j) (st' := [.int (nI 0)]) (w' := [] ++ (wm ++ (u0 ++ oW E o (vp_updL f 0 v9.toInt64) o2 g))) ?_
    refine v_istore O dL_law_1005 (by rw [hN]; decide) ?_
    refine v_aload_n O dL_law_1007 rfl ?_
    refine v_aload_n O dL_law_1008 rfl ?_
    refine v_iload O dL_law_1009 rfl ?_
    refine v_iconst (v := nI 1) O dL_law_1011 (by decide) ?_
    refine v_iaddN O dL_law_1012 ?_
    refine v_sld O hX hL (show 4 * j + 1 < L by omega) dL_law_1013 ?_
    refine v_aload_n O dL_law_1014 rfl ?_
    refine v_iload O dL_law_1015 rfl ?_
    refine v_iconst (v := nI 2) O dL_law_1017 (by decide) ?_
    refine v_iaddN O dL_law_1018 ?_
    refine v_sld O hX hL (show 4 * j + 2 < L by omega) dL_law_1019 ?_
    refine v_aload_n O dL_law_1020 rfl ?_
    refine v_iload O dL_law_1021 rfl ?_
    refine v_iconst (v := nI 3) O dL_law_1023 (by decide) ?_
    refine v_iaddN O dL_law_1024 ?_
    refine v_sld O hX hL (show 4 * j + 3 < L by omega) dL_law_1025 ?_
    refine v_nz O dL_law_1026 dL_law_1029 dL_law_1030 dL_law_1033 ?_
    refine v_callVJ (wa := []) (wb := u0 ++ oW E o (vp_updL f 0 v9.toInt64) o2 g) (w := wm) (As := [.int (xs (4 * j + 1)), .int (xs (4 * j + 2)), .int (bI (!decide (xs (4 * j + 3) = 0)))]) (st := []) O dL_law_1034 lkL_147 CM 0 heM rfl rfl rfl ⟨m1, m2, by show _ + 1 ≤ 12; omega, by show _ ≤ 440; omega, by show k + 0 + 0 ≤ 1069; omega, by show n + 0 + 0 ≤ 11774; omega⟩ (fun r' u' hp' => ?_) (fun _ _ h => False.elim h)
    obtain rfl := hvM r' u' hp'
    have R1 := hrel _ u0 _ u' hp hp'
    refine v_cv (pc' := 1037) (lv' := st1 (lvL b (ax 0) (am 0) o o2 j) 6 (.int (nI 0))) (st' := [.int v9]) (w' := [] ++ (u' ++ (u0 ++ oW E o (vp_updL f 0 v9.toInt64) o2 g))) ?_
    refine v_istore O dL_law_1037 (by rw [hN]; decide) ?_
    refine v_aload_n O dL_law_1039 rfl ?_
    obtain ⟨fs1, he1⟩ := rel_m R1
    refine v_callVJ (wa := []) (wb := u0 ++ oW E o (vp_updL f 0 v9.toInt64) o2 g) (w := u') (As := []) (st := []) O dL_law_1040 lkL_92 (rel_t hst R1) 0 he1 rfl rfl rfl ⟨rfl, rfl, by decide, by decide, by show k + 0 + 0 + 0 ≤ 1069; omega, by show n + 0 + 0 + 0 ≤ 11774; omega⟩ (fun r9 u9 h9 => ?_) (fun _ _ h => False.elim h)
    obtain ⟨rfl, rfl⟩ := h9
    refine v_iload O dL_law_1043 rfl ?_
    refine v_icmp_eq (tgt := 1050) O dL_law_1045 (by decide) (fun _ => ?_) (fun h => absurd rfl h)
    refine v_iload O dL_law_1050 rfl ?_
    refine v_if_ne (tgt := 1067) O dL_law_1052 (by decide) (fun h => absurd rfl h) (fun _ => ?_)
    refine v_aload_n O dL_law_1055 rfl ?_
    refine v_iconst (v := nI 0) O dL_law_1056 (by decide) ?_
    refine v_w (w' := (u9 ++ u0) ++ oW E o (vp_updL f 0 v9.toInt64) o2 g) ((List.nil_append _).trans (List.append_assoc _ _ _).symm) ?_
    refine v_laldO O dL_law_1057 ?_
    refine v_iload O dL_law_1058 rfl ?_
    refine v_i2l O dL_law_1060 ?_
    refine v_lcmp O dL_law_1061 ?_
    refine v_if_eq (tgt := 1067) O dL_law_1062 (by decide) (fun _ => ?_) (fun h => absurd (cmp_self v9.toInt64) h)
    refine v_goto (tgt := 1543) O dL_law_1067 (by decide) ?_
    refine v_w (w' := u9 ++ (u0 ++ oW E o (vp_updL f 0 v9.toInt64) o2 g)) (List.append_assoc _ _ _) ?_
    exact v_widen (k' := k + 1) (n' := n + 6) (by omega) (by omega) (v_ord [0, 1, 2, 3, 4, 5] (kk _ _ 0 u0 u9 R1))
  · obtain ⟨m1, m2, m3, m4⟩ := gm
    refine v_aload_n O dL_law_974 rfl ?_
    refine v_aload_n O dL_law_975 rfl ?_
    refine v_iload O dL_law_976 rfl ?_
    refine v_iconst (v := nI 1) O dL_law_978 (by decide) ?_
    refine v_iaddN O dL_law_979 ?_
    refine v_sld O hX hL (show 4 * j + 1 < L by omega) dL_law_980 ?_
    refine v_aload_n O dL_law_981 rfl ?_
    refine v_iload O dL_law_982 rfl ?_
    refine v_iconst (v := nI 2) O dL_law_984 (by decide) ?_
    refine v_iaddN O dL_law_985 ?_
    refine v_sld O hX hL (show 4 * j + 2 < L by omega) dL_law_986 ?_
    refine v_aload_n O dL_law_987 rfl ?_
    refine v_iload O dL_law_988 rfl ?_
    refine v_iconst (v := nI 3) O dL_law_990 (by decide) ?_
    refine v_iaddN O dL_law_991 ?_
    refine v_sld O hX hL (show 4 * j + 3 < L by omega) dL_law_992 ?_
    refine v_nz O dL_law_993 dL_law_996 dL_law_997 dL_law_1000 ?_
    refine v_aload_n O dL_law_1001 rfl ?_
    refine v_w (w' := wm ++ ((wx ++ oW E o f o2 g) ++ [])) (by rw [List.append_nil]) ?_
    refine v_callHJ (wa := wm) (wb := []) (w := wx ++ oW E o f o2 g) (As := [.ref (ax 0), .int (xs (4 * j + 1)), .int (xs (4 * j + 2)), .int (bI (!decide (xs (4 * j + 3) = 0))), .ref o]) (st := []) O dL_law_1002 lkH_145 (lx_lineSum1 hst (xs (4 * j + 1)) (xs (4 * j + 2)) (bI (!decide (xs (4 * j + 3) = 0))) heX gx CX) rfl rfl ⟨rfl, rfl, by decide, by decide, by show k + 1 ≤ 1069; omega, by show n + 6 ≤ 11774; omega⟩ (fun r u h => ?_) (fun _ _ h => False.elim h)
    obtain ⟨rfl, rfl⟩ := h
    refine v_w (w' := [] ++ (wm ++ (wx ++ oW E o f o2 g))) (by rw [List.append_nil]; rfl) ?_
    refine v_cv (pc' := 1005) (lv' := lvL b (ax 0) (am 0) o o2 j) (st' := [.int (nI 1)]) (w' := [] ++ (wm ++ (wx ++ oW E o f o2 g))) ?_
    refine v_istore O dL_law_1005 (by rw [hN]; decide) ?_
    refine v_aload_n O dL_law_1007 rfl ?_
    refine v_aload_n O dL_law_1008 rfl ?_
    refine v_iload O dL_law_1009 rfl ?_
    refine v_iconst (v := nI 1) O dL_law_1011 (by decide) ?_
    refine v_iaddN O dL_law_1012 ?_
    refine v_sld O hX hL (show 4 * j + 1 < L by omega) dL_law_1013 ?_
    refine v_aload_n O dL_law_1014 rfl ?_
    refine v_iload O dL_law_1015 rfl ?_
    refine v_iconst (v := nI 2) O dL_law_1017 (by decide) ?_
    refine v_iaddN O dL_law_1018 ?_
    refine v_sld O hX hL (show 4 * j + 2 < L by omega) dL_law_1019 ?_
    refine v_aload_n O dL_law_1020 rfl ?_
    refine v_iload O dL_law_1021 rfl ?_
    refine v_iconst (v := nI 3) O dL_law_1023 (by decide) ?_
    refine v_iaddN O dL_law_1024 ?_
    refine v_sld O hX hL (show 4 * j + 3 < L by omega) dL_law_1025 ?_
    refine v_nz O dL_law_1026 dL_law_1029 dL_law_1030 dL_law_1033 ?_
    refine v_callVJ (wa := []) (wb := wx ++ oW E o f o2 g) (w := wm) (As := [.int (xs (4 * j + 1)), .int (xs (4 * j + 2)), .int (bI (!decide (xs (4 * j + 3) = 0)))]) (st := []) O dL_law_1034 lkL_147 CM 0 heM rfl rfl rfl ⟨m1, m2, by show _ + 1 ≤ 12; omega, by show _ ≤ 440; omega, by show k + 1 + 0 ≤ 1069; omega, by show n + 6 + 0 ≤ 11774; omega⟩ (fun r' u' h => ?_) (fun _ _ h => False.elim h)
    obtain ⟨rfl, rfl⟩ := h
    have R1 := hrel
    refine v_cv (pc' := 1037) (lv' := st1 (lvL b (ax 0) (am 0) o o2 j) 6 (.int (nI 1))) (st' := [.int (nI 0)]) (w' := [] ++ (u' ++ (wx ++ oW E o f o2 g))) ?_
    refine v_istore O dL_law_1037 (by rw [hN]; decide) ?_
    refine v_aload_n O dL_law_1039 rfl ?_
    obtain ⟨fs1, he1⟩ := rel_m R1
    refine v_callVJ (wa := []) (wb := wx ++ oW E o f o2 g) (w := u') (As := []) (st := []) O dL_law_1040 lkL_92 (rel_t hst R1) 0 he1 rfl rfl rfl ⟨rfl, rfl, by decide, by decide, by show k + 1 + 0 + 0 ≤ 1069; omega, by show n + 6 + 0 + 0 ≤ 11774; omega⟩ (fun r9 u9 h9 => ?_) (fun _ _ h => False.elim h)
    obtain ⟨rfl, rfl⟩ := h9
    refine v_iload O dL_law_1043 rfl ?_
    refine v_icmp_eq (tgt := 1050) O dL_law_1045 (by decide) (fun _ => ?_) (fun h => absurd rfl h)
    refine v_iload O dL_law_1050 rfl ?_
    refine v_if_ne (tgt := 1067) O dL_law_1052 (by decide) (fun _ => ?_) (fun h => absurd h (by decide))
    refine v_goto (tgt := 1543) O dL_law_1067 (by decide) ?_
    exact v_ord [0, 1, 2, 3, 4, 5] (kk _ _ 1 wx u9 R1)
theorem b_mean {E : ET} {G : GT} {tb : List ExceptionTableEntry} (O : OKG E G cL_law RL room_1 tb) (hst : E.1.stackTraces = false) (hN : nLG G = 9) {b L : Nat} {xs : Nat → Int32} (hX : scrG G b L xs) (hL : L ≤ 2048) {ax am : Nat → Nat} {o o2 : Nat} {f : Nat → Int64} {g : Nat → UInt64} {th : Nat} {wx wm : va_W} (R : REL E ax am th wx wm) {j k n : Nat} (hj : 4 * j + 4 ≤ L) (hk : k + 1 ≤ 1069) (hn : n + 6 ≤ 11774) (kk : ∀ f g th wx wm, REL E ax am th wx wm → V E G (k + 1) (n + 6) 1543 (lvL b (ax 0) (am 0) o o2 j) [] (wm ++ (wx ++ oW E o f o2 g))) : V E G k n 1070 (lvL b (ax 0) (am 0) o o2 j) [] (wm ++ (wx ++ oW E o f o2 g)) := by
  obtain ⟨fsX, heX⟩ := rel_x R
  obtain ⟨fsM, heM⟩ := rel_m R
  rcases op_mean hst R (xs (4 * j + 1)) with ⟨v9, rx, PX, rm, PM, gx, gm, CX, CM, hvX, hvM, hrel⟩ | ⟨rx, rm, wm1, gx, gm, CX, CM, hrel⟩
  · obtain ⟨m1, m2, m3, m4⟩ := gm
    refine v_aload_n O dL_law_1070 rfl ?_
    refine v_aload_n O dL_law_1071 rfl ?_
    refine v_iload O dL_law_1072 rfl ?_
    refine v_iconst (v := nI 1) O dL_law_1074 (by decide) ?_
    refine v_iaddN O dL_law_1075 ?_
    refine v_sld O hX hL (show 4 * j + 1 < L by omega) dL_law_1076 ?_
    refine v_aload O dL_law_1077 rfl ?_
    refine v_w (w' := wm ++ ((wx ++ oW E o f o2 g) ++ [])) (by rw [List.append_nil]) ?_
    refine v_callHJ (wa := wm) (wb := []) (w := wx ++ oW E o f o2 g) (As := [.ref (ax 0), .int (xs (4 * j + 1)), .ref o2]) (st := []) O dL_law_1079 lkH_148 (l_mean hst (xs (4 * j + 1)) heX gx CX hvX) rfl rfl ⟨rfl, rfl, by decide, by decide, by show k + 0 ≤ 1069; omega, by show n + 0 ≤ 11774; omega⟩ (fun r u h => ?_) (fun _ _ h => False.elim h)
    obtain ⟨rfl, r0, u0, hp, rfl⟩ := h
    refine v_w (w' := [] ++ (wm ++ (u0 ++ oW E o f o2 (vf_upd g 0 v9)))) (by rw [List.append_nil]; rfl) ?_
    refine v_cv (pc' := 1082) (lv' := lvL b (ax 0) (am 0) o o2 j) (st' := [.int (nI 0)]) (w' := [] ++ (wm ++ (u0 ++ oW E o f o2 (vf_upd g 0 v9)))) ?_
    refine v_istore O dL_law_1082 (by rw [hN]; decide) ?_
    refine v_aload_n O dL_law_1084 rfl ?_
    refine v_aload_n O dL_law_1085 rfl ?_
    refine v_iload O dL_law_1086 rfl ?_
    refine v_iconst (v := nI 1) O dL_law_1088 (by decide) ?_
    refine v_iaddN O dL_law_1089 ?_
    refine v_sld O hX hL (show 4 * j + 1 < L by omega) dL_law_1090 ?_
    refine v_callVJ (wa := []) (wb := u0 ++ oW E o f o2 (vf_upd g 0 v9)) (w := wm) (As := [.int (xs (4 * j + 1))]) (st := []) O dL_law_1091 lkL_151 CM 0 heM rfl rfl rfl ⟨m1, m2, by show _ + 1 ≤ 12; omega, by show _ ≤ 440; omega, by show k + 0 + 0 ≤ 1069; omega, by show n + 0 + 0 ≤ 11774; omega⟩ (fun r' u' hp' => ?_) (fun _ _ h => False.elim h)
    obtain rfl := hvM r' u' hp'
    have R1 := hrel _ u0 _ u' hp hp'
    refine v_cv (pc' := 1094) (lv' := st1 (lvL b (ax 0) (am 0) o o2 j) 6 (.int (nI 0))) (st' := [.double v9]) (w' := [] ++ (u' ++ (u0 ++ oW E o f o2 (vf_upd g 0 v9)))) ?_
    refine v_dstore O dL_law_1094 (by rw [hN]; decide) ?_
    refine v_aload_n O dL_law_1096 rfl ?_
    obtain ⟨fs1, he1⟩ := rel_m R1
    refine v_callVJ (wa := []) (wb := u0 ++ oW E o f o2 (vf_upd g 0 v9)) (w := u') (As := []) (st := []) O dL_law_1097 lkL_92 (rel_t hst R1) 0 he1 rfl rfl rfl ⟨rfl, rfl, by decide, by decide, by show k + 0 + 0 + 0 ≤ 1069; omega, by show n + 0 + 0 + 0 ≤ 11774; omega⟩ (fun r9 u9 h9 => ?_) (fun _ _ h => False.elim h)
    obtain ⟨rfl, rfl⟩ := h9
    refine v_iload O dL_law_1100 rfl ?_
    refine v_icmp_eq (tgt := 1107) O dL_law_1102 (by decide) (fun _ => ?_) (fun h => absurd rfl h)
    refine v_iload O dL_law_1107 rfl ?_
    refine v_if_ne (tgt := 1144) O dL_law_1109 (by decide) (fun h => absurd rfl h) (fun _ => ?_)
    refine v_aload O dL_law_1112 rfl ?_
    refine v_iconst (v := nI 0) O dL_law_1114 (by decide) ?_
    refine v_w (w' := (u9 ++ u0) ++ oW E o f o2 (vf_upd g 0 v9)) ((List.nil_append _).trans (List.append_assoc _ _ _).symm) ?_
    refine v_daldO O dL_law_1115 ?_
    refine v_dload O dL_law_1116 rfl ?_
    refine v_dcmp O dL_law_1118 ?_
    have fin : ∀ lv9, ldv lv9 0 = some (.ref b) → ldv lv9 1 = some (.ref (ax 0)) → ldv lv9 2 = some (.ref (am 0)) → ldv lv9 3 = some (.ref o) → ldv lv9 4 = some (.ref o2) → ldv lv9 5 = some (.int (nI (4 * j))) → V E G (k + 0 + 0 + 0) (n + 0 + 0 + 0) 1144 lv9 [] ((u9 ++ u0) ++ oW E o f o2 (vf_upd g 0 v9)) := fun lv9 q0 q1 q2 q3 q4 q5 => by
      refine v_goto (tgt := 1543) O dL_law_1144 (by decide) ?_
      refine v_w (w' := u9 ++ (u0 ++ oW E o f o2 (vf_upd g 0 v9))) (List.append_assoc _ _ _) ?_
      refine v_widen (k' := k + 1) (n' := n + 6) (by omega) (by omega) (v_ord [0, 1, 2, 3, 4, 5] ?_)
      simp only [List.filterMap_cons, List.filterMap_nil, q0, q1, q2, q3, q4, q5, Option.map_some]
      exact kk _ _ 0 u0 u9 R1
    refine v_if_eq (tgt := 1144) O dL_law_1119 (by decide) (fun _ => fin _ rfl rfl rfl rfl rfl rfl) (fun h1 => ?_)
    refine v_aload O dL_law_1122 rfl ?_
    refine v_iconst (v := nI 0) O dL_law_1124 (by decide) ?_
    refine v_daldO O dL_law_1125 ?_
    refine v_aload O dL_law_1126 rfl ?_
    refine v_iconst (v := nI 0) O dL_law_1128 (by decide) ?_
    refine v_daldO O dL_law_1129 ?_
    refine v_dcmp O dL_law_1130 ?_
    refine v_if_eq (tgt := 1142) O dL_law_1131 (by decide) (fun h => absurd h h1) (fun _ => ?_)
    refine v_dload O dL_law_1134 rfl ?_
    refine v_dload O dL_law_1136 rfl ?_
    refine v_dcmp O dL_law_1138 ?_
    exact v_if_ne (tgt := 1144) O dL_law_1139 (by decide) (fun _ => fin _ rfl rfl rfl rfl rfl rfl) (fun h => absurd h h1)
  · obtain ⟨m1, m2, m3, m4⟩ := gm
    refine v_aload_n O dL_law_1070 rfl ?_
    refine v_aload_n O dL_law_1071 rfl ?_
    refine v_iload O dL_law_1072 rfl ?_
    refine v_iconst (v := nI 1) O dL_law_1074 (by decide) ?_
    refine v_iaddN O dL_law_1075 ?_
    refine v_sld O hX hL (show 4 * j + 1 < L by omega) dL_law_1076 ?_
    refine v_aload O dL_law_1077 rfl ?_
    refine v_w (w' := wm ++ ((wx ++ oW E o f o2 g) ++ [])) (by rw [List.append_nil]) ?_
    refine v_callHJ (wa := wm) (wb := []) (w := wx ++ oW E o f o2 g) (As := [.ref (ax 0), .int (xs (4 * j + 1)), .ref o2]) (st := []) O dL_law_1079 lkH_148 (lx_mean1 hst (xs (4 * j + 1)) heX gx CX) rfl rfl ⟨rfl, rfl, by decide, by decide, by show k + 1 ≤ 1069; omega, by show n + 6 ≤ 11774; omega⟩ (fun r u h => ?_) (fun _ _ h => False.elim h)
    obtain ⟨rfl, rfl⟩ := h
    refine v_w (w' := [] ++ (wm ++ (wx ++ oW E o f o2 g))) (by rw [List.append_nil]; rfl) ?_
    refine v_cv (pc' := 1082) (lv' := lvL b (ax 0) (am 0) o o2 j) (st' := [.int (nI 1)]) (w' := [] ++ (wm ++ (wx ++ oW E o f o2 g))) ?_
    refine v_istore O dL_law_1082 (by rw [hN]; decide) ?_
    refine v_aload_n O dL_law_1084 rfl ?_
    refine v_aload_n O dL_law_1085 rfl ?_
    refine v_iload O dL_law_1086 rfl ?_
    refine v_iconst (v := nI 1) O dL_law_1088 (by decide) ?_
    refine v_iaddN O dL_law_1089 ?_
    refine v_sld O hX hL (show 4 * j + 1 < L by omega) dL_law_1090 ?_
    refine v_callVJ (wa := []) (wb := wx ++ oW E o f o2 g) (w := wm) (As := [.int (xs (4 * j + 1))]) (st := []) O dL_law_1091 lkL_151 CM 0 heM rfl rfl rfl ⟨m1, m2, by show _ + 1 ≤ 12; omega, by show _ ≤ 440; omega, by show k + 1 + 0 ≤ 1069; omega, by show n + 6 + 0 ≤ 11774; omega⟩ (fun r' u' h => ?_) (fun _ _ h => False.elim h)
    obtain ⟨rfl, rfl⟩ := h
    have R1 := hrel
    refine v_cv (pc' := 1094) (lv' := st1 (lvL b (ax 0) (am 0) o o2 j) 6 (.int (nI 1))) (st' := [.double 0]) (w' := [] ++ (u' ++ (wx ++ oW E o f o2 g))) ?_
    refine v_dstore O dL_law_1094 (by rw [hN]; decide) ?_
    refine v_aload_n O dL_law_1096 rfl ?_
    obtain ⟨fs1, he1⟩ := rel_m R1
    refine v_callVJ (wa := []) (wb := wx ++ oW E o f o2 g) (w := u') (As := []) (st := []) O dL_law_1097 lkL_92 (rel_t hst R1) 0 he1 rfl rfl rfl ⟨rfl, rfl, by decide, by decide, by show k + 1 + 0 + 0 ≤ 1069; omega, by show n + 6 + 0 + 0 ≤ 11774; omega⟩ (fun r9 u9 h9 => ?_) (fun _ _ h => False.elim h)
    obtain ⟨rfl, rfl⟩ := h9
    refine v_iload O dL_law_1100 rfl ?_
    refine v_icmp_eq (tgt := 1107) O dL_law_1102 (by decide) (fun _ => ?_) (fun h => absurd rfl h)
    refine v_iload O dL_law_1107 rfl ?_
    refine v_if_ne (tgt := 1144) O dL_law_1109 (by decide) (fun _ => ?_) (fun h => absurd h (by decide))
    refine v_goto (tgt := 1543) O dL_law_1144 (by decide) ?_
    exact v_ord [0, 1, 2, 3, 4, 5] (kk _ _ 1 wx u9 R1)
theorem b_boxSum {E : ET} {G : GT} {tb : List ExceptionTableEntry} (O : OKG E G cL_law RL room_1 tb) (hst : E.1.stackTraces = false) (hN : nLG G = 9) {b L : Nat} {xs : Nat → Int32} (hX : scrG G b L xs) (hL : L ≤ 2048) {ax am : Nat → Nat} {o o2 : Nat} {f : Nat → Int64} {g : Nat → UInt64} {th : Nat} {wx wm : va_W} (R : REL E ax am th wx wm) {j k n : Nat} (hj : 4 * j + 4 ≤ L) (hk : k + 1 ≤ 1069) (hn : n + 6 ≤ 11774) (kk : ∀ f g th wx wm, REL E ax am th wx wm → V E G (k + 1) (n + 6) 1543 (lvL b (ax 0) (am 0) o o2 j) [] (wm ++ (wx ++ oW E o f o2 g))) : V E G k n 1147 (lvL b (ax 0) (am 0) o o2 j) [] (wm ++ (wx ++ oW E o f o2 g)) := by
  obtain ⟨fsX, heX⟩ := rel_x R
  obtain ⟨fsM, heM⟩ := rel_m R
  rcases op_boxSum hst R (xs (4 * j + 1)) (xs (4 * j + 2)) (xs (4 * j + 3)) with ⟨v9, rx, PX, rm, PM, gx, gm, CX, CM, hvX, hvM, hrel⟩ | ⟨rx, rm, wm1, gx, gm, CX, CM, hrel⟩ | ⟨rx, rm, wm1, gx, gm, CX, CM, hrel⟩
  · obtain ⟨m1, m2, m3, m4⟩ := gm
    refine v_aload_n O dL_law_1147 rfl ?_
    refine v_aload_n O dL_law_1148 rfl ?_
    refine v_iload O dL_law_1149 rfl ?_
    refine v_iconst (v := nI 1) O dL_law_1151 (by decide) ?_
    refine v_iaddN O dL_law_1152 ?_
    refine v_sld O hX hL (show 4 * j + 1 < L by omega) dL_law_1153 ?_
    refine v_aload_n O dL_law_1154 rfl ?_
    refine v_iload O dL_law_1155 rfl ?_
    refine v_iconst (v := nI 2) O dL_law_1157 (by decide) ?_
    refine v_iaddN O dL_law_1158 ?_
    refine v_sld O hX hL (show 4 * j + 2 < L by omega) dL_law_1159 ?_
    refine v_aload_n O dL_law_1160 rfl ?_
    refine v_iload O dL_law_1161 rfl ?_
    refine v_iconst (v := nI 3) O dL_law_1163 (by decide) ?_
    refine v_iaddN O dL_law_1164 ?_
    refine v_sld O hX hL (show 4 * j + 3 < L by omega) dL_law_1165 ?_
    refine v_aload_n O dL_law_1166 rfl ?_
    refine v_w (w' := wm ++ ((wx ++ oW E o f o2 g) ++ [])) (by rw [List.append_nil]) ?_
    refine v_callHJ (wa := wm) (wb := []) (w := wx ++ oW E o f o2 g) (As := [.ref (ax 0), .int (xs (4 * j + 1)), .int (xs (4 * j + 2)), .int (xs (4 * j + 3)), .ref o]) (st := []) O dL_law_1167 lkH_152 (l_boxSum hst (xs (4 * j + 1)) (xs (4 * j + 2)) (xs (4 * j + 3)) heX gx CX hvX) rfl rfl ⟨rfl, rfl, by decide, by decide, by show k + 0 ≤ 1069; omega, by show n + 0 ≤ 11774; omega⟩ (fun r u h => ?_) (fun _ _ h => False.elim h)
    obtain ⟨rfl, r0, u0, hp, rfl⟩ := h
    refine v_w (w' := [] ++ (wm ++ (u0 ++ oW E o (vp_updL f 0 v9.toInt64) o2 g))) (by rw [List.append_nil]; rfl) ?_
    refine v_cv (pc' := 1170) (lv' := lvL b (ax 0) (am 0) o o2 j) (st' := [.int (nI 0)]) (w' := [] ++ (wm ++ (u0 ++ oW E o (vp_updL f 0 v9.toInt64) o2 g))) ?_
    refine v_istore O dL_law_1170 (by rw [hN]; decide) ?_
    refine v_aload_n O dL_law_1172 rfl ?_
    refine v_aload_n O dL_law_1173 rfl ?_
    refine v_iload O dL_law_1174 rfl ?_
    refine v_iconst (v := nI 1) O dL_law_1176 (by decide) ?_
    refine v_iaddN O dL_law_1177 ?_
    refine v_sld O hX hL (show 4 * j + 1 < L by omega) dL_law_1178 ?_
    refine v_aload_n O dL_law_1179 rfl ?_
    refine v_iload O dL_law_1180 rfl ?_
    refine v_iconst (v := nI 2) O dL_law_1182 (by decide) ?_
    refine v_iaddN O dL_law_1183 ?_
    refine v_sld O hX hL (show 4 * j + 2 < L by omega) dL_law_1184 ?_
    refine v_aload_n O dL_law_1185 rfl ?_
    refine v_iload O dL_law_1186 rfl ?_
    refine v_iconst (v := nI 3) O dL_law_1188 (by decide) ?_
    refine v_iaddN O dL_law_1189 ?_
    refine v_sld O hX hL (show 4 * j + 3 < L by omega) dL_law_1190 ?_
    refine v_callVJ (wa := []) (wb := u0 ++ oW E o (vp_updL f 0 v9.toInt64) o2 g) (w := wm) (As := [.int (xs (4 * j + 1)), .int (xs (4 * j + 2)), .int (xs (4 * j + 3))]) (st := []) O dL_law_1191 lkL_154 CM 0 heM rfl rfl rfl ⟨m1, m2, by show _ + 1 ≤ 12; omega, by show _ ≤ 440; omega, by show k + 0 + 0 ≤ 1069; omega, by show n + 0 + 0 ≤ 11774; omega⟩ (fun r' u' hp' => ?_) (fun _ _ h => False.elim h)
    obtain rfl := hvM r' u' hp'
    have R1 := hrel _ u0 _ u' hp hp'
    refine v_cv (pc' := 1194) (lv' := st1 (lvL b (ax 0) (am 0) o o2 j) 6 (.int (nI 0))) (st' := [.int v9]) (w' := [] ++ (u' ++ (u0 ++ oW E o (vp_updL f 0 v9.toInt64) o2 g))) ?_
    refine v_istore O dL_law_1194 (by rw [hN]; decide) ?_
    refine v_aload_n O dL_law_1196 rfl ?_
    obtain ⟨fs1, he1⟩ := rel_m R1
    refine v_callVJ (wa := []) (wb := u0 ++ oW E o (vp_updL f 0 v9.toInt64) o2 g) (w := u') (As := []) (st := []) O dL_law_1197 lkL_92 (rel_t hst R1) 0 he1 rfl rfl rfl ⟨rfl, rfl, by decide, by decide, by show k + 0 + 0 + 0 ≤ 1069; omega, by show n + 0 + 0 + 0 ≤ 11774; omega⟩ (fun r9 u9 h9 => ?_) (fun _ _ h => False.elim h)
    obtain ⟨rfl, rfl⟩ := h9
    refine v_iload O dL_law_1200 rfl ?_
    refine v_icmp_eq (tgt := 1207) O dL_law_1202 (by decide) (fun _ => ?_) (fun h => absurd rfl h)
    refine v_iload O dL_law_1207 rfl ?_
    refine v_if_ne (tgt := 1224) O dL_law_1209 (by decide) (fun h => absurd rfl h) (fun _ => ?_)
    refine v_aload_n O dL_law_1212 rfl ?_
    refine v_iconst (v := nI 0) O dL_law_1213 (by decide) ?_
    refine v_w (w' := (u9 ++ u0) ++ oW E o (vp_updL f 0 v9.toInt64) o2 g) ((List.nil_append _).trans (List.append_assoc _ _ _).symm) ?_
    refine v_laldO O dL_law_1214 ?_
    refine v_iload O dL_law_1215 rfl ?_
    refine v_i2l O dL_law_1217 ?_
    refine v_lcmp O dL_law_1218 ?_
    refine v_if_eq (tgt := 1224) O dL_law_1219 (by decide) (fun _ => ?_) (fun h => absurd (cmp_self v9.toInt64) h)
    refine v_goto (tgt := 1543) O dL_law_1224 (by decide) ?_
    refine v_w (w' := u9 ++ (u0 ++ oW E o (vp_updL f 0 v9.toInt64) o2 g)) (List.append_assoc _ _ _) ?_
    exact v_widen (k' := k + 1) (n' := n + 6) (by omega) (by omega) (v_ord [0, 1, 2, 3, 4, 5] (kk _ _ 0 u0 u9 R1))
  · obtain ⟨m1, m2, m3, m4⟩ := gm
    refine v_aload_n O dL_law_1147 rfl ?_
    refine v_aload_n O dL_law_1148 rfl ?_
    refine v_iload O dL_law_1149 rfl ?_
    refine v_iconst (v := nI 1) O dL_law_1151 (by decide) ?_
    refine v_iaddN O dL_law_1152 ?_
    refine v_sld O hX hL (show 4 * j + 1 < L by omega) dL_law_1153 ?_
    refine v_aload_n O dL_law_1154 rfl ?_
    refine v_iload O dL_law_1155 rfl ?_
    refine v_iconst (v := nI 2) O dL_law_1157 (by decide) ?_
    refine v_iaddN O dL_law_1158 ?_
    refine v_sld O hX hL (show 4 * j + 2 < L by omega) dL_law_1159 ?_
    refine v_aload_n O dL_law_1160 rfl ?_
    refine v_iload O dL_law_1161 rfl ?_
    refine v_iconst (v := nI 3) O dL_law_1163 (by decide) ?_
    refine v_iaddN O dL_law_1164 ?_
    refine v_sld O hX hL (show 4 * j + 3 < L by omega) dL_law_1165 ?_
    refine v_aload_n O dL_law_1166 rfl ?_
    refine v_w (w' := wm ++ ((wx ++ oW E o f o2 g) ++ [])) (by rw [List.append_nil]) ?_
    refine v_callHJ (wa := wm) (wb := []) (w := wx ++ oW E o f o2 g) (As := [.ref (ax 0), .int (xs (4 * j + 1)), .int (xs (4 * j + 2)), .int (xs (4 * j + 3)), .ref o]) (st := []) O dL_law_1167 lkH_152 (lx_boxSum1 hst (xs (4 * j + 1)) (xs (4 * j + 2)) (xs (4 * j + 3)) heX gx CX) rfl rfl ⟨rfl, rfl, by decide, by decide, by show k + 1 ≤ 1069; omega, by show n + 6 ≤ 11774; omega⟩ (fun r u h => ?_) (fun _ _ h => False.elim h)
    obtain ⟨rfl, rfl⟩ := h
    refine v_w (w' := [] ++ (wm ++ (wx ++ oW E o f o2 g))) (by rw [List.append_nil]; rfl) ?_
    refine v_cv (pc' := 1170) (lv' := lvL b (ax 0) (am 0) o o2 j) (st' := [.int (nI 1)]) (w' := [] ++ (wm ++ (wx ++ oW E o f o2 g))) ?_
    refine v_istore O dL_law_1170 (by rw [hN]; decide) ?_
    refine v_aload_n O dL_law_1172 rfl ?_
    refine v_aload_n O dL_law_1173 rfl ?_
    refine v_iload O dL_law_1174 rfl ?_
    refine v_iconst (v := nI 1) O dL_law_1176 (by decide) ?_
    refine v_iaddN O dL_law_1177 ?_
    refine v_sld O hX hL (show 4 * j + 1 < L by omega) dL_law_1178 ?_
    refine v_aload_n O dL_law_1179 rfl ?_
    refine v_iload O dL_law_1180 rfl ?_
    refine v_iconst (v := nI 2) O dL_law_1182 (by decide) ?_
    refine v_iaddN O dL_law_1183 ?_
    refine v_sld O hX hL (show 4 * j + 2 < L by omega) dL_law_1184 ?_
    refine v_aload_n O dL_law_1185 rfl ?_
    refine v_iload O dL_law_1186 rfl ?_
    refine v_iconst (v := nI 3) O dL_law_1188 (by decide) ?_
    refine v_iaddN O dL_law_1189 ?_
    refine v_sld O hX hL (show 4 * j + 3 < L by omega) dL_law_1190 ?_
    refine v_callVJ (wa := []) (wb := wx ++ oW E o f o2 g) (w := wm) (As := [.int (xs (4 * j + 1)), .int (xs (4 * j + 2)), .int (xs (4 * j + 3))]) (st := []) O dL_law_1191 lkL_154 CM 0 heM rfl rfl rfl ⟨m1, m2, by show _ + 1 ≤ 12; omega, by show _ ≤ 440; omega, by show k + 1 + 0 ≤ 1069; omega, by show n + 6 + 0 ≤ 11774; omega⟩ (fun r' u' h => ?_) (fun _ _ h => False.elim h)
    obtain ⟨rfl, rfl⟩ := h
    have R1 := hrel
    refine v_cv (pc' := 1194) (lv' := st1 (lvL b (ax 0) (am 0) o o2 j) 6 (.int (nI 1))) (st' := [.int (nI 0)]) (w' := [] ++ (u' ++ (wx ++ oW E o f o2 g))) ?_
    refine v_istore O dL_law_1194 (by rw [hN]; decide) ?_
    refine v_aload_n O dL_law_1196 rfl ?_
    obtain ⟨fs1, he1⟩ := rel_m R1
    refine v_callVJ (wa := []) (wb := wx ++ oW E o f o2 g) (w := u') (As := []) (st := []) O dL_law_1197 lkL_92 (rel_t hst R1) 0 he1 rfl rfl rfl ⟨rfl, rfl, by decide, by decide, by show k + 1 + 0 + 0 ≤ 1069; omega, by show n + 6 + 0 + 0 ≤ 11774; omega⟩ (fun r9 u9 h9 => ?_) (fun _ _ h => False.elim h)
    obtain ⟨rfl, rfl⟩ := h9
    refine v_iload O dL_law_1200 rfl ?_
    refine v_icmp_eq (tgt := 1207) O dL_law_1202 (by decide) (fun _ => ?_) (fun h => absurd rfl h)
    refine v_iload O dL_law_1207 rfl ?_
    refine v_if_ne (tgt := 1224) O dL_law_1209 (by decide) (fun _ => ?_) (fun h => absurd h (by decide))
    refine v_goto (tgt := 1543) O dL_law_1224 (by decide) ?_
    exact v_ord [0, 1, 2, 3, 4, 5] (kk _ _ 1 wx u9 R1)
  · obtain ⟨m1, m2, m3, m4⟩ := gm
    refine v_aload_n O dL_law_1147 rfl ?_
    refine v_aload_n O dL_law_1148 rfl ?_
    refine v_iload O dL_law_1149 rfl ?_
    refine v_iconst (v := nI 1) O dL_law_1151 (by decide) ?_
    refine v_iaddN O dL_law_1152 ?_
    refine v_sld O hX hL (show 4 * j + 1 < L by omega) dL_law_1153 ?_
    refine v_aload_n O dL_law_1154 rfl ?_
    refine v_iload O dL_law_1155 rfl ?_
    refine v_iconst (v := nI 2) O dL_law_1157 (by decide) ?_
    refine v_iaddN O dL_law_1158 ?_
    refine v_sld O hX hL (show 4 * j + 2 < L by omega) dL_law_1159 ?_
    refine v_aload_n O dL_law_1160 rfl ?_
    refine v_iload O dL_law_1161 rfl ?_
    refine v_iconst (v := nI 3) O dL_law_1163 (by decide) ?_
    refine v_iaddN O dL_law_1164 ?_
    refine v_sld O hX hL (show 4 * j + 3 < L by omega) dL_law_1165 ?_
    refine v_aload_n O dL_law_1166 rfl ?_
    refine v_w (w' := wm ++ ((wx ++ oW E o f o2 g) ++ [])) (by rw [List.append_nil]) ?_
    refine v_callHJ (wa := wm) (wb := []) (w := wx ++ oW E o f o2 g) (As := [.ref (ax 0), .int (xs (4 * j + 1)), .int (xs (4 * j + 2)), .int (xs (4 * j + 3)), .ref o]) (st := []) O dL_law_1167 lkH_152 (lx_boxSum2 hst (xs (4 * j + 1)) (xs (4 * j + 2)) (xs (4 * j + 3)) heX gx CX) rfl rfl ⟨rfl, rfl, by decide, by decide, by show k + 1 ≤ 1069; omega, by show n + 6 ≤ 11774; omega⟩ (fun r u h => ?_) (fun _ _ h => False.elim h)
    obtain ⟨rfl, rfl⟩ := h
    refine v_w (w' := [] ++ (wm ++ (wx ++ oW E o f o2 g))) (by rw [List.append_nil]; rfl) ?_
    refine v_cv (pc' := 1170) (lv' := lvL b (ax 0) (am 0) o o2 j) (st' := [.int (nI 2)]) (w' := [] ++ (wm ++ (wx ++ oW E o f o2 g))) ?_
    refine v_istore O dL_law_1170 (by rw [hN]; decide) ?_
    refine v_aload_n O dL_law_1172 rfl ?_
    refine v_aload_n O dL_law_1173 rfl ?_
    refine v_iload O dL_law_1174 rfl ?_
    refine v_iconst (v := nI 1) O dL_law_1176 (by decide) ?_
    refine v_iaddN O dL_law_1177 ?_
    refine v_sld O hX hL (show 4 * j + 1 < L by omega) dL_law_1178 ?_
    refine v_aload_n O dL_law_1179 rfl ?_
    refine v_iload O dL_law_1180 rfl ?_
    refine v_iconst (v := nI 2) O dL_law_1182 (by decide) ?_
    refine v_iaddN O dL_law_1183 ?_
    refine v_sld O hX hL (show 4 * j + 2 < L by omega) dL_law_1184 ?_
    refine v_aload_n O dL_law_1185 rfl ?_
    refine v_iload O dL_law_1186 rfl ?_
    refine v_iconst (v := nI 3) O dL_law_1188 (by decide) ?_
    refine v_iaddN O dL_law_1189 ?_
    refine v_sld O hX hL (show 4 * j + 3 < L by omega) dL_law_1190 ?_
    refine v_callVJ (wa := []) (wb := wx ++ oW E o f o2 g) (w := wm) (As := [.int (xs (4 * j + 1)), .int (xs (4 * j + 2)), .int (xs (4 * j + 3))]) (st := []) O dL_law_1191 lkL_154 CM 0 heM rfl rfl rfl ⟨m1, m2, by show _ + 1 ≤ 12; omega, by show _ ≤ 440; omega, by show k + 1 + 0 ≤ 1069; omega, by show n + 6 + 0 ≤ 11774; omega⟩ (fun r' u' h => ?_) (fun _ _ h => False.elim h)
    obtain ⟨rfl, rfl⟩ := h
    have R1 := hrel
    refine v_cv (pc' := 1194) (lv' := st1 (lvL b (ax 0) (am 0) o o2 j) 6 (.int (nI 2))) (st' := [.int (nI 0)]) (w' := [] ++ (u' ++ (wx ++ oW E o f o2 g))) ?_
    refine v_istore O dL_law_1194 (by rw [hN]; decide) ?_
    refine v_aload_n O dL_law_1196 rfl ?_
    obtain ⟨fs1, he1⟩ := rel_m R1
    refine v_callVJ (wa := []) (wb := wx ++ oW E o f o2 g) (w := u') (As := []) (st := []) O dL_law_1197 lkL_92 (rel_t hst R1) 0 he1 rfl rfl rfl ⟨rfl, rfl, by decide, by decide, by show k + 1 + 0 + 0 ≤ 1069; omega, by show n + 6 + 0 + 0 ≤ 11774; omega⟩ (fun r9 u9 h9 => ?_) (fun _ _ h => False.elim h)
    obtain ⟨rfl, rfl⟩ := h9
    refine v_iload O dL_law_1200 rfl ?_
    refine v_icmp_eq (tgt := 1207) O dL_law_1202 (by decide) (fun _ => ?_) (fun h => absurd rfl h)
    refine v_iload O dL_law_1207 rfl ?_
    refine v_if_ne (tgt := 1224) O dL_law_1209 (by decide) (fun _ => ?_) (fun h => absurd h (by decide))
    refine v_goto (tgt := 1543) O dL_law_1224 (by decide) ?_
    exact v_ord [0, 1, 2, 3, 4, 5] (kk _ _ 2 wx u9 R1)
theorem b_score {E : ET} {G : GT} {tb : List ExceptionTableEntry} (O : OKG E G cL_law RL room_1 tb) (hst : E.1.stackTraces = false) (hN : nLG G = 9) {b L : Nat} {xs : Nat → Int32} (hX : scrG G b L xs) (hL : L ≤ 2048) {ax am : Nat → Nat} {o o2 : Nat} {f : Nat → Int64} {g : Nat → UInt64} {th : Nat} {wx wm : va_W} (R : REL E ax am th wx wm) {j k n : Nat} (hj : 4 * j + 4 ≤ L) (hk : k + 1 ≤ 1069) (hn : n + 6 ≤ 11774) (kk : ∀ f g th wx wm, REL E ax am th wx wm → V E G (k + 1) (n + 6) 1543 (lvL b (ax 0) (am 0) o o2 j) [] (wm ++ (wx ++ oW E o f o2 g))) : V E G k n 1227 (lvL b (ax 0) (am 0) o o2 j) [] (wm ++ (wx ++ oW E o f o2 g)) := by
  obtain ⟨fsX, heX⟩ := rel_x R
  obtain ⟨fsM, heM⟩ := rel_m R
  rcases op_score hst R (xs (4 * j + 1)) (xs (4 * j + 2)) (xs (4 * j + 3)) with ⟨v9, rx, PX, rm, PM, gx, gm, CX, CM, hvX, hvM, hrel⟩ | ⟨rx, rm, wm1, gx, gm, CX, CM, hrel⟩ | ⟨rx, rm, wm1, gx, gm, CX, CM, hrel⟩
  · obtain ⟨m1, m2, m3, m4⟩ := gm
    refine v_aload_n O dL_law_1227 rfl ?_
    refine v_aload_n O dL_law_1228 rfl ?_
    refine v_iload O dL_law_1229 rfl ?_
    refine v_iconst (v := nI 1) O dL_law_1231 (by decide) ?_
    refine v_iaddN O dL_law_1232 ?_
    refine v_sld O hX hL (show 4 * j + 1 < L by omega) dL_law_1233 ?_
    refine v_aload_n O dL_law_1234 rfl ?_
    refine v_iload O dL_law_1235 rfl ?_
    refine v_iconst (v := nI 2) O dL_law_1237 (by decide) ?_
    refine v_iaddN O dL_law_1238 ?_
    refine v_sld O hX hL (show 4 * j + 2 < L by omega) dL_law_1239 ?_
    refine v_aload_n O dL_law_1240 rfl ?_
    refine v_iload O dL_law_1241 rfl ?_
    refine v_iconst (v := nI 3) O dL_law_1243 (by decide) ?_
    refine v_iaddN O dL_law_1244 ?_
    refine v_sld O hX hL (show 4 * j + 3 < L by omega) dL_law_1245 ?_
    refine v_aload_n O dL_law_1246 rfl ?_
    refine v_w (w' := wm ++ ((wx ++ oW E o f o2 g) ++ [])) (by rw [List.append_nil]) ?_
    refine v_callHJ (wa := wm) (wb := []) (w := wx ++ oW E o f o2 g) (As := [.ref (ax 0), .int (xs (4 * j + 1)), .int (xs (4 * j + 2)), .int (xs (4 * j + 3)), .ref o]) (st := []) O dL_law_1247 lkH_155 (l_score hst (xs (4 * j + 1)) (xs (4 * j + 2)) (xs (4 * j + 3)) heX gx CX hvX) rfl rfl ⟨rfl, rfl, by decide, by decide, by show k + 0 ≤ 1069; omega, by show n + 0 ≤ 11774; omega⟩ (fun r u h => ?_) (fun _ _ h => False.elim h)
    obtain ⟨rfl, r0, u0, hp, rfl⟩ := h
    refine v_w (w' := [] ++ (wm ++ (u0 ++ oW E o (vp_updL f 0 v9) o2 g))) (by rw [List.append_nil]; rfl) ?_
    refine v_cv (pc' := 1250) (lv' := lvL b (ax 0) (am 0) o o2 j) (st' := [.int (nI 0)]) (w' := [] ++ (wm ++ (u0 ++ oW E o (vp_updL f 0 v9) o2 g))) ?_
    refine v_istore O dL_law_1250 (by rw [hN]; decide) ?_
    refine v_aload_n O dL_law_1252 rfl ?_
    refine v_aload_n O dL_law_1253 rfl ?_
    refine v_iload O dL_law_1254 rfl ?_
    refine v_iconst (v := nI 1) O dL_law_1256 (by decide) ?_
    refine v_iaddN O dL_law_1257 ?_
    refine v_sld O hX hL (show 4 * j + 1 < L by omega) dL_law_1258 ?_
    refine v_aload_n O dL_law_1259 rfl ?_
    refine v_iload O dL_law_1260 rfl ?_
    refine v_iconst (v := nI 2) O dL_law_1262 (by decide) ?_
    refine v_iaddN O dL_law_1263 ?_
    refine v_sld O hX hL (show 4 * j + 2 < L by omega) dL_law_1264 ?_
    refine v_aload_n O dL_law_1265 rfl ?_
    refine v_iload O dL_law_1266 rfl ?_
    refine v_iconst (v := nI 3) O dL_law_1268 (by decide) ?_
    refine v_iaddN O dL_law_1269 ?_
    refine v_sld O hX hL (show 4 * j + 3 < L by omega) dL_law_1270 ?_
    refine v_callVJ (wa := []) (wb := u0 ++ oW E o (vp_updL f 0 v9) o2 g) (w := wm) (As := [.int (xs (4 * j + 1)), .int (xs (4 * j + 2)), .int (xs (4 * j + 3))]) (st := []) O dL_law_1271 lkL_157 CM 0 heM rfl rfl rfl ⟨m1, m2, by show _ + 1 ≤ 12; omega, by show _ ≤ 440; omega, by show k + 0 + 0 ≤ 1069; omega, by show n + 0 + 0 ≤ 11774; omega⟩ (fun r' u' hp' => ?_) (fun _ _ h => False.elim h)
    obtain rfl := hvM r' u' hp'
    have R1 := hrel _ u0 _ u' hp hp'
    refine v_cv (pc' := 1274) (lv' := st1 (lvL b (ax 0) (am 0) o o2 j) 6 (.int (nI 0))) (st' := [.long v9]) (w' := [] ++ (u' ++ (u0 ++ oW E o (vp_updL f 0 v9) o2 g))) ?_
    refine v_lstore O dL_law_1274 (by rw [hN]; decide) ?_
    refine v_aload_n O dL_law_1276 rfl ?_
    obtain ⟨fs1, he1⟩ := rel_m R1
    refine v_callVJ (wa := []) (wb := u0 ++ oW E o (vp_updL f 0 v9) o2 g) (w := u') (As := []) (st := []) O dL_law_1277 lkL_92 (rel_t hst R1) 0 he1 rfl rfl rfl ⟨rfl, rfl, by decide, by decide, by show k + 0 + 0 + 0 ≤ 1069; omega, by show n + 0 + 0 + 0 ≤ 11774; omega⟩ (fun r9 u9 h9 => ?_) (fun _ _ h => False.elim h)
    obtain ⟨rfl, rfl⟩ := h9
    refine v_iload O dL_law_1280 rfl ?_
    refine v_icmp_eq (tgt := 1287) O dL_law_1282 (by decide) (fun _ => ?_) (fun h => absurd rfl h)
    refine v_iload O dL_law_1287 rfl ?_
    refine v_if_ne (tgt := 1303) O dL_law_1289 (by decide) (fun h => absurd rfl h) (fun _ => ?_)
    refine v_aload_n O dL_law_1292 rfl ?_
    refine v_iconst (v := nI 0) O dL_law_1293 (by decide) ?_
    refine v_w (w' := (u9 ++ u0) ++ oW E o (vp_updL f 0 v9) o2 g) ((List.nil_append _).trans (List.append_assoc _ _ _).symm) ?_
    refine v_laldO O dL_law_1294 ?_
    refine v_lload O dL_law_1295 rfl ?_
    refine v_lcmp O dL_law_1297 ?_
    refine v_if_eq (tgt := 1303) O dL_law_1298 (by decide) (fun _ => ?_) (fun h => absurd (cmp_self v9) h)
    refine v_goto (tgt := 1543) O dL_law_1303 (by decide) ?_
    refine v_w (w' := u9 ++ (u0 ++ oW E o (vp_updL f 0 v9) o2 g)) (List.append_assoc _ _ _) ?_
    exact v_widen (k' := k + 1) (n' := n + 6) (by omega) (by omega) (v_ord [0, 1, 2, 3, 4, 5] (kk _ _ 0 u0 u9 R1))
  · obtain ⟨m1, m2, m3, m4⟩ := gm
    refine v_aload_n O dL_law_1227 rfl ?_
    refine v_aload_n O dL_law_1228 rfl ?_
    refine v_iload O dL_law_1229 rfl ?_
    refine v_iconst (v := nI 1) O dL_law_1231 (by decide) ?_
    refine v_iaddN O dL_law_1232 ?_
    refine v_sld O hX hL (show 4 * j + 1 < L by omega) dL_law_1233 ?_
    refine v_aload_n O dL_law_1234 rfl ?_
    refine v_iload O dL_law_1235 rfl ?_
    refine v_iconst (v := nI 2) O dL_law_1237 (by decide) ?_
    refine v_iaddN O dL_law_1238 ?_
    refine v_sld O hX hL (show 4 * j + 2 < L by omega) dL_law_1239 ?_
    refine v_aload_n O dL_law_1240 rfl ?_
    refine v_iload O dL_law_1241 rfl ?_
    refine v_iconst (v := nI 3) O dL_law_1243 (by decide) ?_
    refine v_iaddN O dL_law_1244 ?_
    refine v_sld O hX hL (show 4 * j + 3 < L by omega) dL_law_1245 ?_
    refine v_aload_n O dL_law_1246 rfl ?_
    refine v_w (w' := wm ++ ((wx ++ oW E o f o2 g) ++ [])) (by rw [List.append_nil]) ?_
    refine v_callHJ (wa := wm) (wb := []) (w := wx ++ oW E o f o2 g) (As := [.ref (ax 0), .int (xs (4 * j + 1)), .int (xs (4 * j + 2)), .int (xs (4 * j + 3)), .ref o]) (st := []) O dL_law_1247 lkH_155 (lx_score1 hst (xs (4 * j + 1)) (xs (4 * j + 2)) (xs (4 * j + 3)) heX gx CX) rfl rfl ⟨rfl, rfl, by decide, by decide, by show k + 1 ≤ 1069; omega, by show n + 6 ≤ 11774; omega⟩ (fun r u h => ?_) (fun _ _ h => False.elim h)
    obtain ⟨rfl, rfl⟩ := h
    refine v_w (w' := [] ++ (wm ++ (wx ++ oW E o f o2 g))) (by rw [List.append_nil]; rfl) ?_
    refine v_cv (pc' := 1250) (lv' := lvL b (ax 0) (am 0) o o2 j) (st' := [.int (nI 1)]) (w' := [] ++ (wm ++ (wx ++ oW E o f o2 g))) ?_
    refine v_istore O dL_law_1250 (by rw [hN]; decide) ?_
    refine v_aload_n O dL_law_1252 rfl ?_
    refine v_aload_n O dL_law_1253 rfl ?_
    refine v_iload O dL_law_1254 rfl ?_
    refine v_iconst (v := nI 1) O dL_law_1256 (by decide) ?_
    refine v_iaddN O dL_law_1257 ?_
    refine v_sld O hX hL (show 4 * j + 1 < L by omega) dL_law_1258 ?_
    refine v_aload_n O dL_law_1259 rfl ?_
    refine v_iload O dL_law_1260 rfl ?_
    refine v_iconst (v := nI 2) O dL_law_1262 (by decide) ?_
    refine v_iaddN O dL_law_1263 ?_
    refine v_sld O hX hL (show 4 * j + 2 < L by omega) dL_law_1264 ?_
    refine v_aload_n O dL_law_1265 rfl ?_
    refine v_iload O dL_law_1266 rfl ?_
    refine v_iconst (v := nI 3) O dL_law_1268 (by decide) ?_
    refine v_iaddN O dL_law_1269 ?_
    refine v_sld O hX hL (show 4 * j + 3 < L by omega) dL_law_1270 ?_
    refine v_callVJ (wa := []) (wb := wx ++ oW E o f o2 g) (w := wm) (As := [.int (xs (4 * j + 1)), .int (xs (4 * j + 2)), .int (xs (4 * j + 3))]) (st := []) O dL_law_1271 lkL_157 CM 0 heM rfl rfl rfl ⟨m1, m2, by show _ + 1 ≤ 12; omega, by show _ ≤ 440; omega, by show k + 1 + 0 ≤ 1069; omega, by show n + 6 + 0 ≤ 11774; omega⟩ (fun r' u' h => ?_) (fun _ _ h => False.elim h)
    obtain ⟨rfl, rfl⟩ := h
    have R1 := hrel
    refine v_cv (pc' := 1274) (lv' := st1 (lvL b (ax 0) (am 0) o o2 j) 6 (.int (nI 1))) (st' := [.long 0]) (w' := [] ++ (u' ++ (wx ++ oW E o f o2 g))) ?_
    refine v_lstore O dL_law_1274 (by rw [hN]; decide) ?_
    refine v_aload_n O dL_law_1276 rfl ?_
    obtain ⟨fs1, he1⟩ := rel_m R1
    refine v_callVJ (wa := []) (wb := wx ++ oW E o f o2 g) (w := u') (As := []) (st := []) O dL_law_1277 lkL_92 (rel_t hst R1) 0 he1 rfl rfl rfl ⟨rfl, rfl, by decide, by decide, by show k + 1 + 0 + 0 ≤ 1069; omega, by show n + 6 + 0 + 0 ≤ 11774; omega⟩ (fun r9 u9 h9 => ?_) (fun _ _ h => False.elim h)
    obtain ⟨rfl, rfl⟩ := h9
    refine v_iload O dL_law_1280 rfl ?_
    refine v_icmp_eq (tgt := 1287) O dL_law_1282 (by decide) (fun _ => ?_) (fun h => absurd rfl h)
    refine v_iload O dL_law_1287 rfl ?_
    refine v_if_ne (tgt := 1303) O dL_law_1289 (by decide) (fun _ => ?_) (fun h => absurd h (by decide))
    refine v_goto (tgt := 1543) O dL_law_1303 (by decide) ?_
    exact v_ord [0, 1, 2, 3, 4, 5] (kk _ _ 1 wx u9 R1)
  · obtain ⟨m1, m2, m3, m4⟩ := gm
    refine v_aload_n O dL_law_1227 rfl ?_
    refine v_aload_n O dL_law_1228 rfl ?_
    refine v_iload O dL_law_1229 rfl ?_
    refine v_iconst (v := nI 1) O dL_law_1231 (by decide) ?_
    refine v_iaddN O dL_law_1232 ?_
    refine v_sld O hX hL (show 4 * j + 1 < L by omega) dL_law_1233 ?_
    refine v_aload_n O dL_law_1234 rfl ?_
    refine v_iload O dL_law_1235 rfl ?_
    refine v_iconst (v := nI 2) O dL_law_1237 (by decide) ?_
    refine v_iaddN O dL_law_1238 ?_
    refine v_sld O hX hL (show 4 * j + 2 < L by omega) dL_law_1239 ?_
    refine v_aload_n O dL_law_1240 rfl ?_
    refine v_iload O dL_law_1241 rfl ?_
    refine v_iconst (v := nI 3) O dL_law_1243 (by decide) ?_
    refine v_iaddN O dL_law_1244 ?_
    refine v_sld O hX hL (show 4 * j + 3 < L by omega) dL_law_1245 ?_
    refine v_aload_n O dL_law_1246 rfl ?_
    refine v_w (w' := wm ++ ((wx ++ oW E o f o2 g) ++ [])) (by rw [List.append_nil]) ?_
    refine v_callHJ (wa := wm) (wb := []) (w := wx ++ oW E o f o2 g) (As := [.ref (ax 0), .int (xs (4 * j + 1)), .int (xs (4 * j + 2)), .int (xs (4 * j + 3)), .ref o]) (st := []) O dL_law_1247 lkH_155 (lx_score2 hst (xs (4 * j + 1)) (xs (4 * j + 2)) (xs (4 * j + 3)) heX gx CX) rfl rfl ⟨rfl, rfl, by decide, by decide, by show k + 1 ≤ 1069; omega, by show n + 6 ≤ 11774; omega⟩ (fun r u h => ?_) (fun _ _ h => False.elim h)
    obtain ⟨rfl, rfl⟩ := h
    refine v_w (w' := [] ++ (wm ++ (wx ++ oW E o f o2 g))) (by rw [List.append_nil]; rfl) ?_
    refine v_cv (pc' := 1250) (lv' := lvL b (ax 0) (am 0) o o2 j) (st' := [.int (nI 2)]) (w' := [] ++ (wm ++ (wx ++ oW E o f o2 g))) ?_
    refine v_istore O dL_law_1250 (by rw [hN]; decide) ?_
    refine v_aload_n O dL_law_1252 rfl ?_
    refine v_aload_n O dL_law_1253 rfl ?_
    refine v_iload O dL_law_1254 rfl ?_
    refine v_iconst (v := nI 1) O dL_law_1256 (by decide) ?_
    refine v_iaddN O dL_law_1257 ?_
    refine v_sld O hX hL (show 4 * j + 1 < L by omega) dL_law_1258 ?_
    refine v_aload_n O dL_law_1259 rfl ?_
    refine v_iload O dL_law_1260 rfl ?_
    refine v_iconst (v := nI 2) O dL_law_1262 (by decide) ?_
    refine v_iaddN O dL_law_1263 ?_
    refine v_sld O hX hL (show 4 * j + 2 < L by omega) dL_law_1264 ?_
    refine v_aload_n O dL_law_1265 rfl ?_
    refine v_iload O dL_law_1266 rfl ?_
    refine v_iconst (v := nI 3) O dL_law_1268 (by decide) ?_
    refine v_iaddN O dL_law_1269 ?_
    refine v_sld O hX hL (show 4 * j + 3 < L by omega) dL_law_1270 ?_
    refine v_callVJ (wa := []) (wb := wx ++ oW E o f o2 g) (w := wm) (As := [.int (xs (4 * j + 1)), .int (xs (4 * j + 2)), .int (xs (4 * j + 3))]) (st := []) O dL_law_1271 lkL_157 CM 0 heM rfl rfl rfl ⟨m1, m2, by show _ + 1 ≤ 12; omega, by show _ ≤ 440; omega, by show k + 1 + 0 ≤ 1069; omega, by show n + 6 + 0 ≤ 11774; omega⟩ (fun r' u' h => ?_) (fun _ _ h => False.elim h)
    obtain ⟨rfl, rfl⟩ := h
    have R1 := hrel
    refine v_cv (pc' := 1274) (lv' := st1 (lvL b (ax 0) (am 0) o o2 j) 6 (.int (nI 2))) (st' := [.long 0]) (w' := [] ++ (u' ++ (wx ++ oW E o f o2 g))) ?_
    refine v_lstore O dL_law_1274 (by rw [hN]; decide) ?_
    refine v_aload_n O dL_law_1276 rfl ?_
    obtain ⟨fs1, he1⟩ := rel_m R1
    refine v_callVJ (wa := []) (wb := wx ++ oW E o f o2 g) (w := u') (As := []) (st := []) O dL_law_1277 lkL_92 (rel_t hst R1) 0 he1 rfl rfl rfl ⟨rfl, rfl, by decide, by decide, by show k + 1 + 0 + 0 ≤ 1069; omega, by show n + 6 + 0 + 0 ≤ 11774; omega⟩ (fun r9 u9 h9 => ?_) (fun _ _ h => False.elim h)
    obtain ⟨rfl, rfl⟩ := h9
    refine v_iload O dL_law_1280 rfl ?_
    refine v_icmp_eq (tgt := 1287) O dL_law_1282 (by decide) (fun _ => ?_) (fun h => absurd rfl h)
    refine v_iload O dL_law_1287 rfl ?_
    refine v_if_ne (tgt := 1303) O dL_law_1289 (by decide) (fun _ => ?_) (fun h => absurd h (by decide))
    refine v_goto (tgt := 1543) O dL_law_1303 (by decide) ?_
    exact v_ord [0, 1, 2, 3, 4, 5] (kk _ _ 2 wx u9 R1)
theorem b_find {E : ET} {G : GT} {tb : List ExceptionTableEntry} (O : OKG E G cL_law RL room_1 tb) (hst : E.1.stackTraces = false) (hN : nLG G = 9) {b L : Nat} {xs : Nat → Int32} (hX : scrG G b L xs) (hL : L ≤ 2048) {ax am : Nat → Nat} {o o2 : Nat} {f : Nat → Int64} {g : Nat → UInt64} {th : Nat} {wx wm : va_W} (R : REL E ax am th wx wm) {j k n : Nat} (hj : 4 * j + 4 ≤ L) (hk : k + 1 ≤ 1069) (hn : n + 6 ≤ 11774) (kk : ∀ f g th wx wm, REL E ax am th wx wm → V E G (k + 1) (n + 6) 1543 (lvL b (ax 0) (am 0) o o2 j) [] (wm ++ (wx ++ oW E o f o2 g))) : V E G k n 1306 (lvL b (ax 0) (am 0) o o2 j) [] (wm ++ (wx ++ oW E o f o2 g)) := by
  obtain ⟨fsX, heX⟩ := rel_x R
  obtain ⟨fsM, heM⟩ := rel_m R
  rcases op_find hst R ((xs (4 * j + 1)).toInt64 <<< ((nI 32).toInt64 &&& 63) ||| ((xs (4 * j + 2)).toInt64 &&& 4294967295)) (xs (4 * j + 3)) with ⟨v9, rx, PX, rm, PM, gx, gm, CX, CM, hvX, hvM, hrel⟩ | ⟨rx, rm, wm1, gx, gm, CX, CM, hrel⟩
  · obtain ⟨m1, m2, m3, m4⟩ := gm
    refine v_aload_n O dL_law_1306 rfl ?_
    refine v_aload_n O dL_law_1307 rfl ?_
    refine v_iload O dL_law_1308 rfl ?_
    refine v_iconst (v := nI 1) O dL_law_1310 (by decide) ?_
    refine v_iaddN O dL_law_1311 ?_
    refine v_sld O hX hL (show 4 * j + 1 < L by omega) dL_law_1312 ?_
    refine v_i2l O dL_law_1313 ?_
    refine v_bipush (v := nI 32) O dL_law_1314 (by decide) ?_
    refine v_lshl O dL_law_1316 ?_
    refine v_aload_n O dL_law_1317 rfl ?_
    refine v_iload O dL_law_1318 rfl ?_
    refine v_iconst (v := nI 2) O dL_law_1320 (by decide) ?_
    refine v_iaddN O dL_law_1321 ?_
    refine v_sld O hX hL (show 4 * j + 2 < L by omega) dL_law_1322 ?_
    refine v_i2l O dL_law_1323 ?_
    refine v_ldc2 O dL_law_1324 clL_158 ?_
    refine v_land O dL_law_1327 ?_
    refine v_lor O dL_law_1328 ?_
    refine v_aload_n O dL_law_1329 rfl ?_
    refine v_iload O dL_law_1330 rfl ?_
    refine v_iconst (v := nI 3) O dL_law_1332 (by decide) ?_
    refine v_iaddN O dL_law_1333 ?_
    refine v_sld O hX hL (show 4 * j + 3 < L by omega) dL_law_1334 ?_
    refine v_aload_n O dL_law_1335 rfl ?_
    refine v_w (w' := wm ++ ((wx ++ oW E o f o2 g) ++ [])) (by rw [List.append_nil]) ?_
    refine v_callHJ (wa := wm) (wb := []) (w := wx ++ oW E o f o2 g) (As := [.ref (ax 0), .long ((xs (4 * j + 1)).toInt64 <<< ((nI 32).toInt64 &&& 63) ||| ((xs (4 * j + 2)).toInt64 &&& 4294967295)), .int (xs (4 * j + 3)), .ref o]) (st := []) O dL_law_1336 lkH_160 (l_find hst ((xs (4 * j + 1)).toInt64 <<< ((nI 32).toInt64 &&& 63) ||| ((xs (4 * j + 2)).toInt64 &&& 4294967295)) (xs (4 * j + 3)) heX gx CX hvX) rfl rfl ⟨rfl, rfl, by decide, by decide, by show k + 0 ≤ 1069; omega, by show n + 0 ≤ 11774; omega⟩ (fun r u h => ?_) (fun _ _ h => False.elim h)
    obtain ⟨rfl, r0, u0, hp, rfl⟩ := h
    refine v_w (w' := [] ++ (wm ++ (u0 ++ oW E o (vp_updL f 0 v9.toInt64) o2 g))) (by rw [List.append_nil]; rfl) ?_
    refine v_cv (pc' := 1339) (lv' := lvL b (ax 0) (am 0) o o2 j) (st' := [.int (nI 0)]) (w' := [] ++ (wm ++ (u0 ++ oW E o (vp_updL f 0 v9.toInt64) o2 g))) ?_
    refine v_istore O dL_law_1339 (by rw [hN]; decide) ?_
    refine v_aload_n O dL_law_1341 rfl ?_
    refine v_aload_n O dL_law_1342 rfl ?_
    refine v_iload O dL_law_1343 rfl ?_
    refine v_iconst (v := nI 1) O dL_law_1345 (by decide) ?_
    refine v_iaddN O dL_law_1346 ?_
    refine v_sld O hX hL (show 4 * j + 1 < L by omega) dL_law_1347 ?_
    refine v_i2l O dL_law_1348 ?_
    refine v_bipush (v := nI 32) O dL_law_1349 (by decide) ?_
    refine v_lshl O dL_law_1351 ?_
    refine v_aload_n O dL_law_1352 rfl ?_
    refine v_iload O dL_law_1353 rfl ?_
    refine v_iconst (v := nI 2) O dL_law_1355 (by decide) ?_
    refine v_iaddN O dL_law_1356 ?_
    refine v_sld O hX hL (show 4 * j + 2 < L by omega) dL_law_1357 ?_
    refine v_i2l O dL_law_1358 ?_
    refine v_ldc2 O dL_law_1359 clL_158 ?_
    refine v_land O dL_law_1362 ?_
    refine v_lor O dL_law_1363 ?_
    refine v_aload_n O dL_law_1364 rfl ?_
    refine v_iload O dL_law_1365 rfl ?_
    refine v_iconst (v := nI 3) O dL_law_1367 (by decide) ?_
    refine v_iaddN O dL_law_1368 ?_
    refine v_sld O hX hL (show 4 * j + 3 < L by omega) dL_law_1369 ?_
    refine v_callVJ (wa := []) (wb := u0 ++ oW E o (vp_updL f 0 v9.toInt64) o2 g) (w := wm) (As := [.long ((xs (4 * j + 1)).toInt64 <<< ((nI 32).toInt64 &&& 63) ||| ((xs (4 * j + 2)).toInt64 &&& 4294967295)), .int (xs (4 * j + 3))]) (st := []) O dL_law_1370 lkL_163 CM 0 heM rfl rfl rfl ⟨m1, m2, by show _ + 1 ≤ 12; omega, by show _ ≤ 440; omega, by show k + 0 + 0 ≤ 1069; omega, by show n + 0 + 0 ≤ 11774; omega⟩ (fun r' u' hp' => ?_) (fun _ _ h => False.elim h)
    obtain rfl := hvM r' u' hp'
    have R1 := hrel _ u0 _ u' hp hp'
    refine v_cv (pc' := 1373) (lv' := st1 (lvL b (ax 0) (am 0) o o2 j) 6 (.int (nI 0))) (st' := [.int v9]) (w' := [] ++ (u' ++ (u0 ++ oW E o (vp_updL f 0 v9.toInt64) o2 g))) ?_
    refine v_istore O dL_law_1373 (by rw [hN]; decide) ?_
    refine v_aload_n O dL_law_1375 rfl ?_
    obtain ⟨fs1, he1⟩ := rel_m R1
    refine v_callVJ (wa := []) (wb := u0 ++ oW E o (vp_updL f 0 v9.toInt64) o2 g) (w := u') (As := []) (st := []) O dL_law_1376 lkL_92 (rel_t hst R1) 0 he1 rfl rfl rfl ⟨rfl, rfl, by decide, by decide, by show k + 0 + 0 + 0 ≤ 1069; omega, by show n + 0 + 0 + 0 ≤ 11774; omega⟩ (fun r9 u9 h9 => ?_) (fun _ _ h => False.elim h)
    obtain ⟨rfl, rfl⟩ := h9
    refine v_iload O dL_law_1379 rfl ?_
    refine v_icmp_eq (tgt := 1386) O dL_law_1381 (by decide) (fun _ => ?_) (fun h => absurd rfl h)
    refine v_iload O dL_law_1386 rfl ?_
    refine v_if_ne (tgt := 1403) O dL_law_1388 (by decide) (fun h => absurd rfl h) (fun _ => ?_)
    refine v_aload_n O dL_law_1391 rfl ?_
    refine v_iconst (v := nI 0) O dL_law_1392 (by decide) ?_
    refine v_w (w' := (u9 ++ u0) ++ oW E o (vp_updL f 0 v9.toInt64) o2 g) ((List.nil_append _).trans (List.append_assoc _ _ _).symm) ?_
    refine v_laldO O dL_law_1393 ?_
    refine v_iload O dL_law_1394 rfl ?_
    refine v_i2l O dL_law_1396 ?_
    refine v_lcmp O dL_law_1397 ?_
    refine v_if_eq (tgt := 1403) O dL_law_1398 (by decide) (fun _ => ?_) (fun h => absurd (cmp_self v9.toInt64) h)
    refine v_goto (tgt := 1543) O dL_law_1403 (by decide) ?_
    refine v_w (w' := u9 ++ (u0 ++ oW E o (vp_updL f 0 v9.toInt64) o2 g)) (List.append_assoc _ _ _) ?_
    exact v_widen (k' := k + 1) (n' := n + 6) (by omega) (by omega) (v_ord [0, 1, 2, 3, 4, 5] (kk _ _ 0 u0 u9 R1))
  · obtain ⟨m1, m2, m3, m4⟩ := gm
    refine v_aload_n O dL_law_1306 rfl ?_
    refine v_aload_n O dL_law_1307 rfl ?_
    refine v_iload O dL_law_1308 rfl ?_
    refine v_iconst (v := nI 1) O dL_law_1310 (by decide) ?_
    refine v_iaddN O dL_law_1311 ?_
    refine v_sld O hX hL (show 4 * j + 1 < L by omega) dL_law_1312 ?_
    refine v_i2l O dL_law_1313 ?_
    refine v_bipush (v := nI 32) O dL_law_1314 (by decide) ?_
    refine v_lshl O dL_law_1316 ?_
    refine v_aload_n O dL_law_1317 rfl ?_
    refine v_iload O dL_law_1318 rfl ?_
    refine v_iconst (v := nI 2) O dL_law_1320 (by decide) ?_
    refine v_iaddN O dL_law_1321 ?_
    refine v_sld O hX hL (show 4 * j + 2 < L by omega) dL_law_1322 ?_
    refine v_i2l O dL_law_1323 ?_
    refine v_ldc2 O dL_law_1324 clL_158 ?_
    refine v_land O dL_law_1327 ?_
    refine v_lor O dL_law_1328 ?_
    refine v_aload_n O dL_law_1329 rfl ?_
    refine v_iload O dL_law_1330 rfl ?_
    refine v_iconst (v := nI 3) O dL_law_1332 (by decide) ?_
    refine v_iaddN O dL_law_1333 ?_
    refine v_sld O hX hL (show 4 * j + 3 < L by omega) dL_law_1334 ?_
    refine v_aload_n O dL_law_1335 rfl ?_
    refine v_w (w' := wm ++ ((wx ++ oW E o f o2 g) ++ [])) (by rw [List.append_nil]) ?_
    refine v_callHJ (wa := wm) (wb := []) (w := wx ++ oW E o f o2 g) (As := [.ref (ax 0), .long ((xs (4 * j + 1)).toInt64 <<< ((nI 32).toInt64 &&& 63) ||| ((xs (4 * j + 2)).toInt64 &&& 4294967295)), .int (xs (4 * j + 3)), .ref o]) (st := []) O dL_law_1336 lkH_160 (lx_find1 hst ((xs (4 * j + 1)).toInt64 <<< ((nI 32).toInt64 &&& 63) ||| ((xs (4 * j + 2)).toInt64 &&& 4294967295)) (xs (4 * j + 3)) heX gx CX) rfl rfl ⟨rfl, rfl, by decide, by decide, by show k + 1 ≤ 1069; omega, by show n + 6 ≤ 11774; omega⟩ (fun r u h => ?_) (fun _ _ h => False.elim h)
    obtain ⟨rfl, rfl⟩ := h
    refine v_w (w' := [] ++ (wm ++ (wx ++ oW E o f o2 g))) (by rw [List.append_nil]; rfl) ?_
    refine v_cv (pc' := 1339) (lv' := lvL b (ax 0) (am 0) o o2 j) (st' := [.int (nI 1)]) (w' := [] ++ (wm ++ (wx ++ oW E o f o2 g))) ?_
    refine v_istore O dL_law_1339 (by rw [hN]; decide) ?_
    refine v_aload_n O dL_law_1341 rfl ?_
    refine v_aload_n O dL_law_1342 rfl ?_
    refine v_iload O dL_law_1343 rfl ?_
    refine v_iconst (v := nI 1) O dL_law_1345 (by decide) ?_
    refine v_iaddN O dL_law_1346 ?_
    refine v_sld O hX hL (show 4 * j + 1 < L by omega) dL_law_1347 ?_
    refine v_i2l O dL_law_1348 ?_
    refine v_bipush (v := nI 32) O dL_law_1349 (by decide) ?_
    refine v_lshl O dL_law_1351 ?_
    refine v_aload_n O dL_law_1352 rfl ?_
    refine v_iload O dL_law_1353 rfl ?_
    refine v_iconst (v := nI 2) O dL_law_1355 (by decide) ?_
    refine v_iaddN O dL_law_1356 ?_
    refine v_sld O hX hL (show 4 * j + 2 < L by omega) dL_law_1357 ?_
    refine v_i2l O dL_law_1358 ?_
    refine v_ldc2 O dL_law_1359 clL_158 ?_
    refine v_land O dL_law_1362 ?_
    refine v_lor O dL_law_1363 ?_
    refine v_aload_n O dL_law_1364 rfl ?_
    refine v_iload O dL_law_1365 rfl ?_
    refine v_iconst (v := nI 3) O dL_law_1367 (by decide) ?_
    refine v_iaddN O dL_law_1368 ?_
    refine v_sld O hX hL (show 4 * j + 3 < L by omega) dL_law_1369 ?_
    refine v_callVJ (wa := []) (wb := wx ++ oW E o f o2 g) (w := wm) (As := [.long ((xs (4 * j + 1)).toInt64 <<< ((nI 32).toInt64 &&& 63) ||| ((xs (4 * j + 2)).toInt64 &&& 4294967295)), .int (xs (4 * j + 3))]) (st := []) O dL_law_1370 lkL_163 CM 0 heM rfl rfl rfl ⟨m1, m2, by show _ + 1 ≤ 12; omega, by show _ ≤ 440; omega, by show k + 1 + 0 ≤ 1069; omega, by show n + 6 + 0 ≤ 11774; omega⟩ (fun r' u' h => ?_) (fun _ _ h => False.elim h)
    obtain ⟨rfl, rfl⟩ := h
    have R1 := hrel
    refine v_cv (pc' := 1373) (lv' := st1 (lvL b (ax 0) (am 0) o o2 j) 6 (.int (nI 1))) (st' := [.int (nI 0)]) (w' := [] ++ (u' ++ (wx ++ oW E o f o2 g))) ?_
    refine v_istore O dL_law_1373 (by rw [hN]; decide) ?_
    refine v_aload_n O dL_law_1375 rfl ?_
    obtain ⟨fs1, he1⟩ := rel_m R1
    refine v_callVJ (wa := []) (wb := wx ++ oW E o f o2 g) (w := u') (As := []) (st := []) O dL_law_1376 lkL_92 (rel_t hst R1) 0 he1 rfl rfl rfl ⟨rfl, rfl, by decide, by decide, by show k + 1 + 0 + 0 ≤ 1069; omega, by show n + 6 + 0 + 0 ≤ 11774; omega⟩ (fun r9 u9 h9 => ?_) (fun _ _ h => False.elim h)
    obtain ⟨rfl, rfl⟩ := h9
    refine v_iload O dL_law_1379 rfl ?_
    refine v_icmp_eq (tgt := 1386) O dL_law_1381 (by decide) (fun _ => ?_) (fun h => absurd rfl h)
    refine v_iload O dL_law_1386 rfl ?_
    refine v_if_ne (tgt := 1403) O dL_law_1388 (by decide) (fun _ => ?_) (fun h => absurd h (by decide))
    refine v_goto (tgt := 1543) O dL_law_1403 (by decide) ?_
    exact v_ord [0, 1, 2, 3, 4, 5] (kk _ _ 1 wx u9 R1)
theorem b_candidate {E : ET} {G : GT} {tb : List ExceptionTableEntry} (O : OKG E G cL_law RL room_1 tb) (hst : E.1.stackTraces = false) (hN : nLG G = 9) {b L : Nat} {xs : Nat → Int32} (hX : scrG G b L xs) (hL : L ≤ 2048) {ax am : Nat → Nat} {o o2 : Nat} {f : Nat → Int64} {g : Nat → UInt64} {th : Nat} {wx wm : va_W} (R : REL E ax am th wx wm) {j k n : Nat} (hj : 4 * j + 4 ≤ L) (hk : k + 1 ≤ 1069) (hn : n + 6 ≤ 11774) (kk : ∀ f g th wx wm, REL E ax am th wx wm → V E G (k + 1) (n + 6) 1543 (lvL b (ax 0) (am 0) o o2 j) [] (wm ++ (wx ++ oW E o f o2 g))) : V E G k n 1406 (lvL b (ax 0) (am 0) o o2 j) [] (wm ++ (wx ++ oW E o f o2 g)) := by
  obtain ⟨fsX, heX⟩ := rel_x R
  obtain ⟨fsM, heM⟩ := rel_m R
  rcases op_candidate hst R (xs (4 * j + 1)) (xs (4 * j + 2)) with ⟨v9, rx, PX, rm, PM, gx, gm, CX, CM, hvX, hvM, hrel⟩ | ⟨rx, rm, wm1, gx, gm, CX, CM, hrel⟩ | ⟨rx, rm, wm1, gx, gm, CX, CM, hrel⟩
  · obtain ⟨m1, m2, m3, m4⟩ := gm
    refine v_aload_n O dL_law_1406 rfl ?_
    refine v_aload_n O dL_law_1407 rfl ?_
    refine v_iload O dL_law_1408 rfl ?_
    refine v_iconst (v := nI 1) O dL_law_1410 (by decide) ?_
    refine v_iaddN O dL_law_1411 ?_
    refine v_sld O hX hL (show 4 * j + 1 < L by omega) dL_law_1412 ?_
    refine v_aload_n O dL_law_1413 rfl ?_
    refine v_iload O dL_law_1414 rfl ?_
    refine v_iconst (v := nI 2) O dL_law_1416 (by decide) ?_
    refine v_iaddN O dL_law_1417 ?_
    refine v_sld O hX hL (show 4 * j + 2 < L by omega) dL_law_1418 ?_
    refine v_aload_n O dL_law_1419 rfl ?_
    refine v_w (w' := wm ++ ((wx ++ oW E o f o2 g) ++ [])) (by rw [List.append_nil]) ?_
    refine v_callHJ (wa := wm) (wb := []) (w := wx ++ oW E o f o2 g) (As := [.ref (ax 0), .int (xs (4 * j + 1)), .int (xs (4 * j + 2)), .ref o]) (st := []) O dL_law_1420 lkH_164 (l_candidate hst (xs (4 * j + 1)) (xs (4 * j + 2)) heX gx CX hvX) rfl rfl ⟨rfl, rfl, by decide, by decide, by show k + 0 ≤ 1069; omega, by show n + 0 ≤ 11774; omega⟩ (fun r u h => ?_) (fun _ _ h => False.elim h)
    obtain ⟨rfl, r0, u0, hp, rfl⟩ := h
    refine v_w (w' := [] ++ (wm ++ (u0 ++ oW E o (vp_updL f 0 v9) o2 g))) (by rw [List.append_nil]; rfl) ?_
    refine v_cv (pc' := 1423) (lv' := lvL b (ax 0) (am 0) o o2 j) (st' := [.int (nI 0)]) (w' := [] ++ (wm ++ (u0 ++ oW E o (vp_updL f 0 v9) o2 g))) ?_
    refine v_istore O dL_law_1423 (by rw [hN]; decide) ?_
    refine v_aload_n O dL_law_1425 rfl ?_
    refine v_aload_n O dL_law_1426 rfl ?_
    refine v_iload O dL_law_1427 rfl ?_
    refine v_iconst (v := nI 1) O dL_law_1429 (by decide) ?_
    refine v_iaddN O dL_law_1430 ?_
    refine v_sld O hX hL (show 4 * j + 1 < L by omega) dL_law_1431 ?_
    refine v_aload_n O dL_law_1432 rfl ?_
    refine v_iload O dL_law_1433 rfl ?_
    refine v_iconst (v := nI 2) O dL_law_1435 (by decide) ?_
    refine v_iaddN O dL_law_1436 ?_
    refine v_sld O hX hL (show 4 * j + 2 < L by omega) dL_law_1437 ?_
    refine v_callVJ (wa := []) (wb := u0 ++ oW E o (vp_updL f 0 v9) o2 g) (w := wm) (As := [.int (xs (4 * j + 1)), .int (xs (4 * j + 2))]) (st := []) O dL_law_1438 lkL_166 CM 0 heM rfl rfl rfl ⟨m1, m2, by show _ + 1 ≤ 12; omega, by show _ ≤ 440; omega, by show k + 0 + 0 ≤ 1069; omega, by show n + 0 + 0 ≤ 11774; omega⟩ (fun r' u' hp' => ?_) (fun _ _ h => False.elim h)
    obtain rfl := hvM r' u' hp'
    have R1 := hrel _ u0 _ u' hp hp'
    refine v_cv (pc' := 1441) (lv' := st1 (lvL b (ax 0) (am 0) o o2 j) 6 (.int (nI 0))) (st' := [.long v9]) (w' := [] ++ (u' ++ (u0 ++ oW E o (vp_updL f 0 v9) o2 g))) ?_
    refine v_lstore O dL_law_1441 (by rw [hN]; decide) ?_
    refine v_aload_n O dL_law_1443 rfl ?_
    obtain ⟨fs1, he1⟩ := rel_m R1
    refine v_callVJ (wa := []) (wb := u0 ++ oW E o (vp_updL f 0 v9) o2 g) (w := u') (As := []) (st := []) O dL_law_1444 lkL_92 (rel_t hst R1) 0 he1 rfl rfl rfl ⟨rfl, rfl, by decide, by decide, by show k + 0 + 0 + 0 ≤ 1069; omega, by show n + 0 + 0 + 0 ≤ 11774; omega⟩ (fun r9 u9 h9 => ?_) (fun _ _ h => False.elim h)
    obtain ⟨rfl, rfl⟩ := h9
    refine v_iload O dL_law_1447 rfl ?_
    refine v_icmp_eq (tgt := 1454) O dL_law_1449 (by decide) (fun _ => ?_) (fun h => absurd rfl h)
    refine v_iload O dL_law_1454 rfl ?_
    refine v_if_ne (tgt := 1470) O dL_law_1456 (by decide) (fun h => absurd rfl h) (fun _ => ?_)
    refine v_aload_n O dL_law_1459 rfl ?_
    refine v_iconst (v := nI 0) O dL_law_1460 (by decide) ?_
    refine v_w (w' := (u9 ++ u0) ++ oW E o (vp_updL f 0 v9) o2 g) ((List.nil_append _).trans (List.append_assoc _ _ _).symm) ?_
    refine v_laldO O dL_law_1461 ?_
    refine v_lload O dL_law_1462 rfl ?_
    refine v_lcmp O dL_law_1464 ?_
    refine v_if_eq (tgt := 1470) O dL_law_1465 (by decide) (fun _ => ?_) (fun h => absurd (cmp_self v9) h)
    refine v_goto (tgt := 1543) O dL_law_1470 (by decide) ?_
    refine v_w (w' := u9 ++ (u0 ++ oW E o (vp_updL f 0 v9) o2 g)) (List.append_assoc _ _ _) ?_
    exact v_widen (k' := k + 1) (n' := n + 6) (by omega) (by omega) (v_ord [0, 1, 2, 3, 4, 5] (kk _ _ 0 u0 u9 R1))
  · obtain ⟨m1, m2, m3, m4⟩ := gm
    refine v_aload_n O dL_law_1406 rfl ?_
    refine v_aload_n O dL_law_1407 rfl ?_
    refine v_iload O dL_law_1408 rfl ?_
    refine v_iconst (v := nI 1) O dL_law_1410 (by decide) ?_
    refine v_iaddN O dL_law_1411 ?_
    refine v_sld O hX hL (show 4 * j + 1 < L by omega) dL_law_1412 ?_
    refine v_aload_n O dL_law_1413 rfl ?_
    refine v_iload O dL_law_1414 rfl ?_
    refine v_iconst (v := nI 2) O dL_law_1416 (by decide) ?_
    refine v_iaddN O dL_law_1417 ?_
    refine v_sld O hX hL (show 4 * j + 2 < L by omega) dL_law_1418 ?_
    refine v_aload_n O dL_law_1419 rfl ?_
    refine v_w (w' := wm ++ ((wx ++ oW E o f o2 g) ++ [])) (by rw [List.append_nil]) ?_
    refine v_callHJ (wa := wm) (wb := []) (w := wx ++ oW E o f o2 g) (As := [.ref (ax 0), .int (xs (4 * j + 1)), .int (xs (4 * j + 2)), .ref o]) (st := []) O dL_law_1420 lkH_164 (lx_candidate1 hst (xs (4 * j + 1)) (xs (4 * j + 2)) heX gx CX) rfl rfl ⟨rfl, rfl, by decide, by decide, by show k + 1 ≤ 1069; omega, by show n + 6 ≤ 11774; omega⟩ (fun r u h => ?_) (fun _ _ h => False.elim h)
    obtain ⟨rfl, rfl⟩ := h
    refine v_w (w' := [] ++ (wm ++ (wx ++ oW E o f o2 g))) (by rw [List.append_nil]; rfl) ?_
    refine v_cv (pc' := 1423) (lv' := lvL b (ax 0) (am 0) o o2 j) (st' := [.int (nI 1)]) (w' := [] ++ (wm ++ (wx ++ oW E o f o2 g))) ?_
    refine v_istore O dL_law_1423 (by rw [hN]; decide) ?_
    refine v_aload_n O dL_law_1425 rfl ?_
    refine v_aload_n O dL_law_1426 rfl ?_
    refine v_iload O dL_law_1427 rfl ?_
    refine v_iconst (v := nI 1) O dL_law_1429 (by decide) ?_
    refine v_iaddN O dL_law_1430 ?_
    refine v_sld O hX hL (show 4 * j + 1 < L by omega) dL_law_1431 ?_
    refine v_aload_n O dL_law_1432 rfl ?_
    refine v_iload O dL_law_1433 rfl ?_
    refine v_iconst (v := nI 2) O dL_law_1435 (by decide) ?_
    refine v_iaddN O dL_law_1436 ?_
    refine v_sld O hX hL (show 4 * j + 2 < L by omega) dL_law_1437 ?_
    refine v_callVJ (wa := []) (wb := wx ++ oW E o f o2 g) (w := wm) (As := [.int (xs (4 * j + 1)), .int (xs (4 * j + 2))]) (st := []) O dL_law_1438 lkL_166 CM 0 heM rfl rfl rfl ⟨m1, m2, by show _ + 1 ≤ 12; omega, by show _ ≤ 440; omega, by show k + 1 + 0 ≤ 1069; omega, by show n + 6 + 0 ≤ 11774; omega⟩ (fun r' u' h => ?_) (fun _ _ h => False.elim h)
    obtain ⟨rfl, rfl⟩ := h
    have R1 := hrel
    refine v_cv (pc' := 1441) (lv' := st1 (lvL b (ax 0) (am 0) o o2 j) 6 (.int (nI 1))) (st' := [.long 0]) (w' := [] ++ (u' ++ (wx ++ oW E o f o2 g))) ?_
    refine v_lstore O dL_law_1441 (by rw [hN]; decide) ?_
    refine v_aload_n O dL_law_1443 rfl ?_
    obtain ⟨fs1, he1⟩ := rel_m R1
    refine v_callVJ (wa := []) (wb := wx ++ oW E o f o2 g) (w := u') (As := []) (st := []) O dL_law_1444 lkL_92 (rel_t hst R1) 0 he1 rfl rfl rfl ⟨rfl, rfl, by decide, by decide, by show k + 1 + 0 + 0 ≤ 1069; omega, by show n + 6 + 0 + 0 ≤ 11774; omega⟩ (fun r9 u9 h9 => ?_) (fun _ _ h => False.elim h)
    obtain ⟨rfl, rfl⟩ := h9
    refine v_iload O dL_law_1447 rfl ?_
    refine v_icmp_eq (tgt := 1454) O dL_law_1449 (by decide) (fun _ => ?_) (fun h => absurd rfl h)
    refine v_iload O dL_law_1454 rfl ?_
    refine v_if_ne (tgt := 1470) O dL_law_1456 (by decide) (fun _ => ?_) (fun h => absurd h (by decide))
    refine v_goto (tgt := 1543) O dL_law_1470 (by decide) ?_
    exact v_ord [0, 1, 2, 3, 4, 5] (kk _ _ 1 wx u9 R1)
  · obtain ⟨m1, m2, m3, m4⟩ := gm
    refine v_aload_n O dL_law_1406 rfl ?_
    refine v_aload_n O dL_law_1407 rfl ?_
    refine v_iload O dL_law_1408 rfl ?_
    refine v_iconst (v := nI 1) O dL_law_1410 (by decide) ?_
    refine v_iaddN O dL_law_1411 ?_
    refine v_sld O hX hL (show 4 * j + 1 < L by omega) dL_law_1412 ?_
    refine v_aload_n O dL_law_1413 rfl ?_
    refine v_iload O dL_law_1414 rfl ?_
    refine v_iconst (v := nI 2) O dL_law_1416 (by decide) ?_
    refine v_iaddN O dL_law_1417 ?_
    refine v_sld O hX hL (show 4 * j + 2 < L by omega) dL_law_1418 ?_
    refine v_aload_n O dL_law_1419 rfl ?_
    refine v_w (w' := wm ++ ((wx ++ oW E o f o2 g) ++ [])) (by rw [List.append_nil]) ?_
    refine v_callHJ (wa := wm) (wb := []) (w := wx ++ oW E o f o2 g) (As := [.ref (ax 0), .int (xs (4 * j + 1)), .int (xs (4 * j + 2)), .ref o]) (st := []) O dL_law_1420 lkH_164 (lx_candidate2 hst (xs (4 * j + 1)) (xs (4 * j + 2)) heX gx CX) rfl rfl ⟨rfl, rfl, by decide, by decide, by show k + 1 ≤ 1069; omega, by show n + 6 ≤ 11774; omega⟩ (fun r u h => ?_) (fun _ _ h => False.elim h)
    obtain ⟨rfl, rfl⟩ := h
    refine v_w (w' := [] ++ (wm ++ (wx ++ oW E o f o2 g))) (by rw [List.append_nil]; rfl) ?_
    refine v_cv (pc' := 1423) (lv' := lvL b (ax 0) (am 0) o o2 j) (st' := [.int (nI 2)]) (w' := [] ++ (wm ++ (wx ++ oW E o f o2 g))) ?_
    refine v_istore O dL_law_1423 (by rw [hN]; decide) ?_
    refine v_aload_n O dL_law_1425 rfl ?_
    refine v_aload_n O dL_law_1426 rfl ?_
    refine v_iload O dL_law_1427 rfl ?_
    refine v_iconst (v := nI 1) O dL_law_1429 (by decide) ?_
    refine v_iaddN O dL_law_1430 ?_
    refine v_sld O hX hL (show 4 * j + 1 < L by omega) dL_law_1431 ?_
    refine v_aload_n O dL_law_1432 rfl ?_
    refine v_iload O dL_law_1433 rfl ?_
    refine v_iconst (v := nI 2) O dL_law_1435 (by decide) ?_
    refine v_iaddN O dL_law_1436 ?_
    refine v_sld O hX hL (show 4 * j + 2 < L by omega) dL_law_1437 ?_
    refine v_callVJ (wa := []) (wb := wx ++ oW E o f o2 g) (w := wm) (As := [.int (xs (4 * j + 1)), .int (xs (4 * j + 2))]) (st := []) O dL_law_1438 lkL_166 CM 0 heM rfl rfl rfl ⟨m1, m2, by show _ + 1 ≤ 12; omega, by show _ ≤ 440; omega, by show k + 1 + 0 ≤ 1069; omega, by show n + 6 + 0 ≤ 11774; omega⟩ (fun r' u' h => ?_) (fun _ _ h => False.elim h)
    obtain ⟨rfl, rfl⟩ := h
    have R1 := hrel
    refine v_cv (pc' := 1441) (lv' := st1 (lvL b (ax 0) (am 0) o o2 j) 6 (.int (nI 2))) (st' := [.long 0]) (w' := [] ++ (u' ++ (wx ++ oW E o f o2 g))) ?_
    refine v_lstore O dL_law_1441 (by rw [hN]; decide) ?_
    refine v_aload_n O dL_law_1443 rfl ?_
    obtain ⟨fs1, he1⟩ := rel_m R1
    refine v_callVJ (wa := []) (wb := wx ++ oW E o f o2 g) (w := u') (As := []) (st := []) O dL_law_1444 lkL_92 (rel_t hst R1) 0 he1 rfl rfl rfl ⟨rfl, rfl, by decide, by decide, by show k + 1 + 0 + 0 ≤ 1069; omega, by show n + 6 + 0 + 0 ≤ 11774; omega⟩ (fun r9 u9 h9 => ?_) (fun _ _ h => False.elim h)
    obtain ⟨rfl, rfl⟩ := h9
    refine v_iload O dL_law_1447 rfl ?_
    refine v_icmp_eq (tgt := 1454) O dL_law_1449 (by decide) (fun _ => ?_) (fun h => absurd rfl h)
    refine v_iload O dL_law_1454 rfl ?_
    refine v_if_ne (tgt := 1470) O dL_law_1456 (by decide) (fun _ => ?_) (fun h => absurd h (by decide))
    refine v_goto (tgt := 1543) O dL_law_1470 (by decide) ?_
    exact v_ord [0, 1, 2, 3, 4, 5] (kk _ _ 2 wx u9 R1)
theorem b_candidateAt {E : ET} {G : GT} {tb : List ExceptionTableEntry} (O : OKG E G cL_law RL room_1 tb) (hst : E.1.stackTraces = false) (hN : nLG G = 9) {b L : Nat} {xs : Nat → Int32} (hX : scrG G b L xs) (hL : L ≤ 2048) {ax am : Nat → Nat} {o o2 : Nat} {f : Nat → Int64} {g : Nat → UInt64} {th : Nat} {wx wm : va_W} (R : REL E ax am th wx wm) {j k n : Nat} (hj : 4 * j + 4 ≤ L) (hk : k + 1 ≤ 1069) (hn : n + 6 ≤ 11774) (kk : ∀ f g th wx wm, REL E ax am th wx wm → V E G (k + 1) (n + 6) 1543 (lvL b (ax 0) (am 0) o o2 j) [] (wm ++ (wx ++ oW E o f o2 g))) : V E G k n 1473 (lvL b (ax 0) (am 0) o o2 j) [] (wm ++ (wx ++ oW E o f o2 g)) := by
  obtain ⟨fsX, heX⟩ := rel_x R
  obtain ⟨fsM, heM⟩ := rel_m R
  rcases op_candidateAt hst R (xs (4 * j + 1)) with ⟨v9, rx, PX, rm, PM, gx, gm, CX, CM, hvX, hvM, hrel⟩ | ⟨rx, rm, wm1, gx, gm, CX, CM, hrel⟩
  · obtain ⟨m1, m2, m3, m4⟩ := gm
    refine v_aload_n O dL_law_1473 rfl ?_
    refine v_aload_n O dL_law_1474 rfl ?_
    refine v_iload O dL_law_1475 rfl ?_
    refine v_iconst (v := nI 1) O dL_law_1477 (by decide) ?_
    refine v_iaddN O dL_law_1478 ?_
    refine v_sld O hX hL (show 4 * j + 1 < L by omega) dL_law_1479 ?_
    refine v_aload_n O dL_law_1480 rfl ?_
    refine v_w (w' := wm ++ ((wx ++ oW E o f o2 g) ++ [])) (by rw [List.append_nil]) ?_
    refine v_callHJ (wa := wm) (wb := []) (w := wx ++ oW E o f o2 g) (As := [.ref (ax 0), .int (xs (4 * j + 1)), .ref o]) (st := []) O dL_law_1481 lkH_167 (l_candidateAt hst (xs (4 * j + 1)) heX gx CX hvX) rfl rfl ⟨rfl, rfl, by decide, by decide, by show k + 0 ≤ 1069; omega, by show n + 0 ≤ 11774; omega⟩ (fun r u h => ?_) (fun _ _ h => False.elim h)
    obtain ⟨rfl, r0, u0, hp, rfl⟩ := h
    refine v_w (w' := [] ++ (wm ++ (u0 ++ oW E o (vp_updL f 0 v9.toInt64) o2 g))) (by rw [List.append_nil]; rfl) ?_
    refine v_cv (pc' := 1484) (lv' := lvL b (ax 0) (am 0) o o2 j) (st' := [.int (nI 0)]) (w' := [] ++ (wm ++ (u0 ++ oW E o (vp_updL f 0 v9.toInt64) o2 g))) ?_
    refine v_istore O dL_law_1484 (by rw [hN]; decide) ?_
    refine v_aload_n O dL_law_1486 rfl ?_
    refine v_aload_n O dL_law_1487 rfl ?_
    refine v_iload O dL_law_1488 rfl ?_
    refine v_iconst (v := nI 1) O dL_law_1490 (by decide) ?_
    refine v_iaddN O dL_law_1491 ?_
    refine v_sld O hX hL (show 4 * j + 1 < L by omega) dL_law_1492 ?_
    refine v_callVJ (wa := []) (wb := u0 ++ oW E o (vp_updL f 0 v9.toInt64) o2 g) (w := wm) (As := [.int (xs (4 * j + 1))]) (st := []) O dL_law_1493 lkL_169 CM 0 heM rfl rfl rfl ⟨m1, m2, by show _ + 1 ≤ 12; omega, by show _ ≤ 440; omega, by show k + 0 + 0 ≤ 1069; omega, by show n + 0 + 0 ≤ 11774; omega⟩ (fun r' u' hp' => ?_) (fun _ _ h => False.elim h)
    obtain rfl := hvM r' u' hp'
    have R1 := hrel _ u0 _ u' hp hp'
    refine v_cv (pc' := 1496) (lv' := st1 (lvL b (ax 0) (am 0) o o2 j) 6 (.int (nI 0))) (st' := [.int v9]) (w' := [] ++ (u' ++ (u0 ++ oW E o (vp_updL f 0 v9.toInt64) o2 g))) ?_
    refine v_istore O dL_law_1496 (by rw [hN]; decide) ?_
    refine v_aload_n O dL_law_1498 rfl ?_
    obtain ⟨fs1, he1⟩ := rel_m R1
    refine v_callVJ (wa := []) (wb := u0 ++ oW E o (vp_updL f 0 v9.toInt64) o2 g) (w := u') (As := []) (st := []) O dL_law_1499 lkL_92 (rel_t hst R1) 0 he1 rfl rfl rfl ⟨rfl, rfl, by decide, by decide, by show k + 0 + 0 + 0 ≤ 1069; omega, by show n + 0 + 0 + 0 ≤ 11774; omega⟩ (fun r9 u9 h9 => ?_) (fun _ _ h => False.elim h)
    obtain ⟨rfl, rfl⟩ := h9
    refine v_iload O dL_law_1502 rfl ?_
    refine v_icmp_eq (tgt := 1509) O dL_law_1504 (by decide) (fun _ => ?_) (fun h => absurd rfl h)
    refine v_iload O dL_law_1509 rfl ?_
    refine v_if_ne (tgt := 1526) O dL_law_1511 (by decide) (fun h => absurd rfl h) (fun _ => ?_)
    refine v_aload_n O dL_law_1514 rfl ?_
    refine v_iconst (v := nI 0) O dL_law_1515 (by decide) ?_
    refine v_w (w' := (u9 ++ u0) ++ oW E o (vp_updL f 0 v9.toInt64) o2 g) ((List.nil_append _).trans (List.append_assoc _ _ _).symm) ?_
    refine v_laldO O dL_law_1516 ?_
    refine v_iload O dL_law_1517 rfl ?_
    refine v_i2l O dL_law_1519 ?_
    refine v_lcmp O dL_law_1520 ?_
    refine v_if_eq (tgt := 1526) O dL_law_1521 (by decide) (fun _ => ?_) (fun h => absurd (cmp_self v9.toInt64) h)
    refine v_goto (tgt := 1543) O dL_law_1526 (by decide) ?_
    refine v_w (w' := u9 ++ (u0 ++ oW E o (vp_updL f 0 v9.toInt64) o2 g)) (List.append_assoc _ _ _) ?_
    exact v_widen (k' := k + 1) (n' := n + 6) (by omega) (by omega) (v_ord [0, 1, 2, 3, 4, 5] (kk _ _ 0 u0 u9 R1))
  · obtain ⟨m1, m2, m3, m4⟩ := gm
    refine v_aload_n O dL_law_1473 rfl ?_
    refine v_aload_n O dL_law_1474 rfl ?_
    refine v_iload O dL_law_1475 rfl ?_
    refine v_iconst (v := nI 1) O dL_law_1477 (by decide) ?_
    refine v_iaddN O dL_law_1478 ?_
    refine v_sld O hX hL (show 4 * j + 1 < L by omega) dL_law_1479 ?_
    refine v_aload_n O dL_law_1480 rfl ?_
    refine v_w (w' := wm ++ ((wx ++ oW E o f o2 g) ++ [])) (by rw [List.append_nil]) ?_
    refine v_callHJ (wa := wm) (wb := []) (w := wx ++ oW E o f o2 g) (As := [.ref (ax 0), .int (xs (4 * j + 1)), .ref o]) (st := []) O dL_law_1481 lkH_167 (lx_candidateAt1 hst (xs (4 * j + 1)) heX gx CX) rfl rfl ⟨rfl, rfl, by decide, by decide, by show k + 1 ≤ 1069; omega, by show n + 6 ≤ 11774; omega⟩ (fun r u h => ?_) (fun _ _ h => False.elim h)
    obtain ⟨rfl, rfl⟩ := h
    refine v_w (w' := [] ++ (wm ++ (wx ++ oW E o f o2 g))) (by rw [List.append_nil]; rfl) ?_
    refine v_cv (pc' := 1484) (lv' := lvL b (ax 0) (am 0) o o2 j) (st' := [.int (nI 1)]) (w' := [] ++ (wm ++ (wx ++ oW E o f o2 g))) ?_
    refine v_istore O dL_law_1484 (by rw [hN]; decide) ?_
    refine v_aload_n O dL_law_1486 rfl ?_
    refine v_aload_n O dL_law_1487 rfl ?_
    refine v_iload O dL_law_1488 rfl ?_
    refine v_iconst (v := nI 1) O dL_law_1490 (by decide) ?_
    refine v_iaddN O dL_law_1491 ?_
    refine v_sld O hX hL (show 4 * j + 1 < L by omega) dL_law_1492 ?_
    refine v_callVJ (wa := []) (wb := wx ++ oW E o f o2 g) (w := wm) (As := [.int (xs (4 * j + 1))]) (st := []) O dL_law_1493 lkL_169 CM 0 heM rfl rfl rfl ⟨m1, m2, by show _ + 1 ≤ 12; omega, by show _ ≤ 440; omega, by show k + 1 + 0 ≤ 1069; omega, by show n + 6 + 0 ≤ 11774; omega⟩ (fun r' u' h => ?_) (fun _ _ h => False.elim h)
    obtain ⟨rfl, rfl⟩ := h
    have R1 := hrel
    refine v_cv (pc' := 1496) (lv' := st1 (lvL b (ax 0) (am 0) o o2 j) 6 (.int (nI 1))) (st' := [.int (nI 0)]) (w' := [] ++ (u' ++ (wx ++ oW E o f o2 g))) ?_
    refine v_istore O dL_law_1496 (by rw [hN]; decide) ?_
    refine v_aload_n O dL_law_1498 rfl ?_
    obtain ⟨fs1, he1⟩ := rel_m R1
    refine v_callVJ (wa := []) (wb := wx ++ oW E o f o2 g) (w := u') (As := []) (st := []) O dL_law_1499 lkL_92 (rel_t hst R1) 0 he1 rfl rfl rfl ⟨rfl, rfl, by decide, by decide, by show k + 1 + 0 + 0 ≤ 1069; omega, by show n + 6 + 0 + 0 ≤ 11774; omega⟩ (fun r9 u9 h9 => ?_) (fun _ _ h => False.elim h)
    obtain ⟨rfl, rfl⟩ := h9
    refine v_iload O dL_law_1502 rfl ?_
    refine v_icmp_eq (tgt := 1509) O dL_law_1504 (by decide) (fun _ => ?_) (fun h => absurd rfl h)
    refine v_iload O dL_law_1509 rfl ?_
    refine v_if_ne (tgt := 1526) O dL_law_1511 (by decide) (fun _ => ?_) (fun h => absurd h (by decide))
    refine v_goto (tgt := 1543) O dL_law_1526 (by decide) ?_
    exact v_ord [0, 1, 2, 3, 4, 5] (kk _ _ 1 wx u9 R1)
theorem b_digest {E : ET} {G : GT} {tb : List ExceptionTableEntry} (O : OKG E G cL_law RL room_1 tb) (hst : E.1.stackTraces = false) (hN : nLG G = 9) {b L : Nat} {xs : Nat → Int32} (hX : scrG G b L xs) (hL : L ≤ 2048) {ax am : Nat → Nat} {o o2 : Nat} {f : Nat → Int64} {g : Nat → UInt64} {th : Nat} {wx wm : va_W} (R : REL E ax am th wx wm) {j k n : Nat} (hj : 4 * j + 4 ≤ L) (hk : k + 1 ≤ 1069) (hn : n + 6 ≤ 11774) (kk : ∀ f g th wx wm, REL E ax am th wx wm → V E G (k + 1) (n + 6) 1543 (lvL b (ax 0) (am 0) o o2 j) [] (wm ++ (wx ++ oW E o f o2 g))) : V E G k n 1529 (lvL b (ax 0) (am 0) o o2 j) [] (wm ++ (wx ++ oW E o f o2 g)) := by
  obtain ⟨fsX, heX⟩ := rel_x R
  obtain ⟨fsM, heM⟩ := rel_m R
  obtain ⟨v9, rx, PX, rm, PM, gx, gm, CX, CM, hvX, hvM, hrel⟩ := op_digest hst R
  obtain ⟨x1, x2, x3, x4⟩ := gx
  obtain ⟨m1, m2, m3, m4⟩ := gm
  refine v_aload_n O dL_law_1529 rfl ?_
  refine v_callVJ (wa := wm) (wb := oW E o f o2 g) (w := wx) (As := []) (st := []) O dL_law_1530 lkL_170 CX 0 heX rfl rfl rfl ⟨x1, x2, by show _ + 1 ≤ 12; omega, by show _ ≤ 440; omega, by show k + 0 ≤ 1069; omega, by show n + 0 ≤ 11774; omega⟩ (fun r u hp => ?_) (fun _ _ h => False.elim h)
  obtain rfl := hvX r u hp
  refine v_cv (pc' := 1533) (lv' := lvL b (ax 0) (am 0) o o2 j) (st' := [.long v9]) (w' := [] ++ (wm ++ (u ++ oW E o f o2 g))) ?_
  refine v_aload_n O dL_law_1533 rfl ?_
  refine v_callVJ (wa := []) (wb := u ++ oW E o f o2 g) (w := wm) (As := []) (st := [.long v9]) O dL_law_1534 lkL_174 CM 0 heM rfl rfl rfl ⟨m1, m2, by show _ + 1 ≤ 12; omega, by show _ ≤ 440; omega, by show k + 0 + 0 ≤ 1069; omega, by show n + 0 + 0 ≤ 11774; omega⟩ (fun r' u' hp' => ?_) (fun _ _ h => False.elim h)
  obtain rfl := hvM r' u' hp'
  refine v_cv (pc' := 1537) (lv' := lvL b (ax 0) (am 0) o o2 j) (st' := [.long v9, .long v9]) (w' := u' ++ (u ++ oW E o f o2 g)) ?_
  refine v_lcmp O dL_law_1537 ?_
  refine v_if_eq (tgt := 1543) O dL_law_1538 (by decide) (fun _ => ?_) (fun h => absurd (cmp_self v9) h)
  exact v_widen (k' := k + 1) (n' := n + 6) (by omega) (by omega) (kk f g 0 u u' (hrel _ u _ u' hp hp'))
