theorem clL_13 : Cond.classLink RL 13 "java/lang/IllegalArgumentException" ∈ GW := gwm 368 (by decide +kernel) (by decide +kernel)
theorem ca_13 : Cond.castable "java/lang/IllegalArgumentException" "java/lang/IllegalArgumentException" ∈ NWL := nwm 234 (by decide +kernel) (by decide +kernel)
theorem clL_19 : Cond.classLink RL 19 "java/lang/IndexOutOfBoundsException" ∈ GW := gwm 381 (by decide +kernel) (by decide +kernel)
theorem ca_19 : Cond.castable "java/lang/IndexOutOfBoundsException" "java/lang/IndexOutOfBoundsException" ∈ NWL := nwm 347 (by decide +kernel) (by decide +kernel)
theorem clL_24 : Cond.classLink RL 24 "java/lang/IllegalStateException" ∈ GW := gwm 395 (by decide +kernel) (by decide +kernel)
theorem ca_24 : Cond.castable "java/lang/IllegalStateException" "java/lang/IllegalStateException" ∈ NWL := nwm 403 (by decide +kernel) (by decide +kernel)
theorem arr_int : Cond.arrayClass .int ∈ GW := gwm 56 (by decide +kernel) (by decide +kernel)
theorem arr_long : Cond.arrayClass .long ∈ GW := gwm 106 (by decide +kernel) (by decide +kernel)
theorem arr_boolean : Cond.arrayClass .boolean ∈ GW := gwm 57 (by decide +kernel) (by decide +kernel)
theorem arr_double : Cond.arrayClass .double ∈ GW := gwm 882 (by decide +kernel) (by decide +kernel)
theorem cnL_8 : Cond.classLink RL 8 RX4 ∈ GW := gwm 15 (by decide +kernel) (by decide +kernel)
theorem isX4 : Cond.instantiable RX4 4 ∈ GW := gwm 16 (by decide +kernel) (by decide +kernel)
theorem cnL_83 : Cond.classLink RL 83 RX5 ∈ GW := gwm 605 (by decide +kernel) (by decide +kernel)
theorem isX5 : Cond.instantiable RX5 19 ∈ GW := gwm 606 (by decide +kernel) (by decide +kernel)
theorem cnX4_7 : Cond.classLink RX4 7 RX1 ∈ GW := gwm 23 (by decide +kernel) (by decide +kernel)
theorem isX1 : Cond.instantiable RX1 6 ∈ GW := gwm 24 (by decide +kernel) (by decide +kernel)
theorem cnX4_16 : Cond.classLink RX4 16 RX3 ∈ GW := gwm 58 (by decide +kernel) (by decide +kernel)
theorem isX3 : Cond.instantiable RX3 2 ∈ GW := gwm 59 (by decide +kernel) (by decide +kernel)
theorem cnX4_23 : Cond.classLink RX4 23 RX2 ∈ GW := gwm 74 (by decide +kernel) (by decide +kernel)
theorem isX2 : Cond.instantiable RX2 7 ∈ GW := gwm 75 (by decide +kernel) (by decide +kernel)
theorem cnX4_30 : Cond.classLink RX4 30 RX0 ∈ GW := gwm 107 (by decide +kernel) (by decide +kernel)
theorem isX0 : Cond.instantiable RX0 6 ∈ GW := gwm 108 (by decide +kernel) (by decide +kernel)
theorem ob_i : Cond.instanceMethod Lib.objectInit ∈ GW := gwm 21 (by decide +kernel) (by decide +kernel)
theorem ob_c : Cond.code Lib.objectInit ⟨#[0xb1]⟩ 1 none ∈ GW := gwm 22 (by decide +kernel) (by decide +kernel)
theorem ob_X0 : Cond.methodLink RX0 3 Lib.objectInit ∈ GW := gwm 112 (by decide +kernel) (by decide +kernel)
theorem ob_X1 : Cond.methodLink RX1 3 Lib.objectInit ∈ GW := gwm 28 (by decide +kernel) (by decide +kernel)
theorem ob_X2 : Cond.methodLink RX2 3 Lib.objectInit ∈ GW := gwm 79 (by decide +kernel) (by decide +kernel)
theorem ob_X3 : Cond.methodLink RX3 3 Lib.objectInit ∈ GW := gwm 63 (by decide +kernel) (by decide +kernel)
theorem ob_X4 : Cond.methodLink RX4 1 Lib.objectInit ∈ GW := gwm 20 (by decide +kernel) (by decide +kernel)
theorem ob_X5 : Cond.methodLink RX5 1 Lib.objectInit ∈ GW := gwm 610 (by decide +kernel) (by decide +kernel)
theorem lkIL_82 : LkI RL 82 yX4_init cdX4_init 0 := ⟨mcX4_init, gwm 17 (by decide +kernel) (by decide +kernel), miX4_init, inX4, rfl, by decide +kernel⟩
theorem lkIL_85 : LkI RL 85 yX5_init cdX5_init 0 := ⟨mcX5_init, gwm 607 (by decide +kernel) (by decide +kernel), miX5_init, inX5, rfl, by decide +kernel⟩
theorem lkIX4_9 : LkIN RX4 9 yX1_init cdX1_init 0 := ⟨mcX1_init, nwm 25 (by decide +kernel) (by decide +kernel), miX1_init, inX1, rfl, by decide +kernel⟩
theorem lkIX4_18 : LkIN RX4 18 yX3_init cdX3_init 0 := ⟨mcX3_init, nwm 60 (by decide +kernel) (by decide +kernel), miX3_init, inX3, rfl, by decide +kernel⟩
theorem lkIX4_25 : LkIN RX4 25 yX2_init cdX2_init 0 := ⟨mcX2_init, nwm 76 (by decide +kernel) (by decide +kernel), miX2_init, inX2, rfl, by decide +kernel⟩
theorem lkIX4_32 : LkIN RX4 32 yX0_init cdX0_init 0 := ⟨mcX0_init, nwm 109 (by decide +kernel) (by decide +kernel), miX0_init, inX0, rfl, by decide +kernel⟩
theorem lkH_103 : LkH RL 103 yL_append cdL_append 3 := ⟨mcL_append, gwm 392 (by decide +kernel) (by decide +kernel), mtL_append, inL, by decide +kernel⟩
theorem lkH_114 : LkH RL 114 yL_load cdL_load 2 := ⟨mcL_load, gwm 417 (by decide +kernel) (by decide +kernel), mtL_load, inL, by decide +kernel⟩
theorem lkH_118 : LkH RL 118 yL_inject cdL_inject 5 := ⟨mcL_inject, gwm 435 (by decide +kernel) (by decide +kernel), mtL_inject, inL, by decide +kernel⟩
theorem lkH_122 : LkH RL 122 yL_power cdL_power 4 := ⟨mcL_power, gwm 460 (by decide +kernel) (by decide +kernel), mtL_power, inL, by decide +kernel⟩
theorem lkH_125 : LkH RL 125 yL_count cdL_count 3 := ⟨mcL_count, gwm 472 (by decide +kernel) (by decide +kernel), mtL_count, inL, by decide +kernel⟩
theorem lkH_128 : LkH RL 128 yL_setMasked cdL_setMasked 4 := ⟨mcL_setMasked, gwm 476 (by decide +kernel) (by decide +kernel), mtL_setMasked, inL, by decide +kernel⟩
theorem lkH_132 : LkH RL 132 yL_channelSum cdL_channelSum 3 := ⟨mcL_channelSum, gwm 483 (by decide +kernel) (by decide +kernel), mtL_channelSum, inL, by decide +kernel⟩
theorem lkH_135 : LkH RL 135 yL_strike cdL_strike 3 := ⟨mcL_strike, gwm 490 (by decide +kernel) (by decide +kernel), mtL_strike, inL, by decide +kernel⟩
theorem lkH_138 : LkH RL 138 yL_offset cdL_offset 5 := ⟨mcL_offset, gwm 503 (by decide +kernel) (by decide +kernel), mtL_offset, inL, by decide +kernel⟩
theorem lkH_142 : LkH RL 142 yL_bend cdL_bend 3 := ⟨mcL_bend, gwm 510 (by decide +kernel) (by decide +kernel), mtL_bend, inL, by decide +kernel⟩
theorem lkH_145 : LkH RL 145 yL_lineSum cdL_lineSum 5 := ⟨mcL_lineSum, gwm 517 (by decide +kernel) (by decide +kernel), mtL_lineSum, inL, by decide +kernel⟩
theorem lkH_148 : LkH RL 148 yL_mean cdL_mean 3 := ⟨mcL_mean, gwm 528 (by decide +kernel) (by decide +kernel), mtL_mean, inL, by decide +kernel⟩
theorem lkH_152 : LkH RL 152 yL_boxSum cdL_boxSum 5 := ⟨mcL_boxSum, gwm 535 (by decide +kernel) (by decide +kernel), mtL_boxSum, inL, by decide +kernel⟩
theorem lkH_155 : LkH RL 155 yL_score cdL_score 5 := ⟨mcL_score, gwm 550 (by decide +kernel) (by decide +kernel), mtL_score, inL, by decide +kernel⟩
theorem lkH_160 : LkH RL 160 yL_find cdL_find 4 := ⟨mcL_find, gwm 562 (by decide +kernel) (by decide +kernel), mtL_find, inL, by decide +kernel⟩
theorem lkH_164 : LkH RL 164 yL_candidate cdL_candidate 4 := ⟨mcL_candidate, gwm 593 (by decide +kernel) (by decide +kernel), mtL_candidate, inL, by decide +kernel⟩
theorem lkH_167 : LkH RL 167 yL_candidateAt cdL_candidateAt 3 := ⟨mcL_candidateAt, gwm 597 (by decide +kernel) (by decide +kernel), mtL_candidateAt, inL, by decide +kernel⟩
theorem lkH_86 : LkH RL 86 yL_setChannels cdL_setChannels 3 := ⟨mcL_setChannels, gwm 365 (by decide +kernel) (by decide +kernel), mtL_setChannels, inL, by decide +kernel⟩
theorem lkH_95 : LkH RL 95 yL_setPending cdL_setPending 4 := ⟨mcL_setPending, gwm 378 (by decide +kernel) (by decide +kernel), mtL_setPending, inL, by decide +kernel⟩
def oW (E : ET) (o : Nat) (f : Nat → Int64) (o2 : Nat) (g : Nat → UInt64) : va_W := [(o, .inl (E.2.2 1, 1, .inr (.inl f))), (o2, .inl (E.2.2 3, 1, .inr (.inr (.inr (.inl g)))))]
def Good (rm : Room) (mc ms : Nat) : Prop := rm.cells = mc ∧ rm.slots = ms ∧ rm.frames ≤ 8 ∧ rm.locals ≤ 272
section VO
variable {E : ET} {G : GT} {cc : ByteArray} {own : String} {R0 : Room} {tb : List ExceptionTableEntry} {k n pc : Nat} {lv : List (Nat × Value)} {st : List Value} {u : va_W} {o o2 : Nat} {f : Nat → Int64} {g : Nat → UInt64}
theorem v_lastO {x : Int64} (O : OKG E G cc own R0 tb) (d : decode cc pc = .ok (.lastore, 1)) (kk : V E G k n (pc + 1) lv st (u ++ oW E o (vp_updL f 0 x) o2 g)) : V E G k n pc lv (.long x :: .int (nI 0) :: .ref o :: st) (u ++ oW E o f o2 g) := by
  refine v_last (a := o) (len := 1) (f := f) (j := 0) O d u.length (by simp [oW]) (by decide) (by decide) ?_
  rw [show (u ++ oW E o f o2 g).set u.length (o, .inl (E.2.2 1, 1, .inr (.inl (vp_updL f 0 x)))) = u ++ oW E o (vp_updL f 0 x) o2 g by simp [oW, List.set_append]]
  exact kk
theorem v_dastO {x : UInt64} (O : OKG E G cc own R0 tb) (d : decode cc pc = .ok (.dastore, 1)) (kk : V E G k n (pc + 1) lv st (u ++ oW E o f o2 (vf_upd g 0 x))) : V E G k n pc lv (.double x :: .int (nI 0) :: .ref o2 :: st) (u ++ oW E o f o2 g) := by
  refine v_dast (a := o2) (len := 1) (f := g) (j := 0) O d (u.length + 1) (by simp [oW]) (by decide) (by decide) ?_
  rw [show (u ++ oW E o f o2 g).set (u.length + 1) (o2, .inl (E.2.2 3, 1, .inr (.inr (.inr (.inl (vf_upd g 0 x)))))) = u ++ oW E o f o2 (vf_upd g 0 x) by simp [oW, List.set_append]]
  exact kk
end VO
theorem l_setChannels {E : ET} {a o o2 : Nat} {w : va_W} {fs : List Value} {f : Nat → Int64} {g : Nat → UInt64} {rx : Room} {PX : Option Value → va_W → Prop} {x : Int32} (hst : E.1.stackTraces = false) (x0 : Int32) (he : w[0]? = some (a, .inr (4, fs))) (hG : Good rx 0 0) (M : Ctr E yX4_setChannels cdX4_setChannels rx (.ref a :: [.int x0]) w PX noX 0 0) (hv : ∀ r u, PX r u → r = some (.int x)) : Ctr E yL_setChannels cdL_setChannels (rmL 10) [.ref a, .int x0, .ref o] (w ++ oW E o f o2 g) (fun r u => r = some (.int (nI 0)) ∧ ∃ r0 u0, PX r0 u0 ∧ u = u0 ++ oW E o (vp_updL f 0 x.toInt64) o2 g) noX 0 0 := by
  refine ctr_ofH hst (by decide) (Nat.le_of_ble_eq_true rfl) (fun G O OR hN => ?_)
  have O : OKG E G cL_setChannels RL (rmL 10) (tableOf [(0, 9, 12, 13)]) := O
  have hN : nLG G = 4 := hN
  obtain ⟨g1, g2, g3, g4⟩ := hG
  refine v_aload_n O dL_setChannels_0 rfl ?_
  refine v_iconst (v := nI 0) O dL_setChannels_1 (by decide) ?_
  refine v_aload_n O dL_setChannels_2 rfl ?_
  refine v_iload_n O dL_setChannels_3 rfl ?_
  refine v_callVJ (wa := []) (wb := oW E o f o2 g) (w := w) (As := [.int x0]) (st := [.int (nI 0), .ref o]) O dL_setChannels_4 lkL_7 M 0 he rfl rfl rfl ⟨g1, g2, by show _ ≤ 10; omega, by show _ ≤ 34 * 10; omega, by decide, by decide⟩ (fun r u hp => ?_) (fun _ _ h => False.elim h)
  obtain rfl := hv r u hp
  refine v_cv (pc' := 7) (lv' := lv_args 0 [.ref a, .int x0, .ref o]) (st' := [.int x, .int (nI 0), .ref o]) (w' := u ++ oW E o f o2 g) ?_
  refine v_i2l O dL_setChannels_7 ?_
  refine v_lastO O dL_setChannels_8 ?_
  refine v_goto (tgt := 15) O dL_setChannels_9 (by decide) ?_
  refine v_iconst (v := nI 0) O dL_setChannels_15 (by decide) ?_
  exact v_ireturn O OR dL_setChannels_16 ⟨rfl, _, u, hp, rfl⟩ (Nat.le_of_ble_eq_true rfl) (Nat.le_of_ble_eq_true rfl)
theorem lx_setChannels1 {E : ET} {a o o2 : Nat} {w : va_W} {fs : List Value} {f : Nat → Int64} {g : Nat → UInt64} {rx : Room} (hst : E.1.stackTraces = false) (x0 : Int32) (he : w[0]? = some (a, .inr (4, fs))) (hG : Good rx 1 6) (M : Ctr E yX4_setChannels cdX4_setChannels rx (.ref a :: [.int x0]) w noR (pX sIAE w) 1 6) : Ctr E yL_setChannels cdL_setChannels (rmT 10) [.ref a, .int x0, .ref o] (w ++ oW E o f o2 g) (pR (some (.int (nI 1))) (w ++ oW E o f o2 g)) noX 1 6 := by
  refine ctr_ofH hst (by decide) (Nat.le_of_ble_eq_true rfl) (fun G O OR hN => ?_)
  have O : OKG E G cL_setChannels RL (rmT 10) (tableOf [(0, 9, 12, 13)]) := O
  have hN : nLG G = 4 := hN
  obtain ⟨g1, g2, g3, g4⟩ := hG
  refine v_aload_n O dL_setChannels_0 rfl ?_
  refine v_iconst (v := nI 0) O dL_setChannels_1 (by decide) ?_
  refine v_aload_n O dL_setChannels_2 rfl ?_
  refine v_iload_n O dL_setChannels_3 rfl ?_
  refine v_callVJ (wa := []) (wb := oW E o f o2 g) (w := w) (As := [.int x0]) (st := [.int (nI 0), .ref o]) O dL_setChannels_4 lkL_7 M 0 he rfl rfl rfl ⟨g1, g2, by show _ ≤ 10; omega, by show _ ≤ 34 * 10; omega, by decide, by decide⟩ (fun _ _ h => False.elim h) (fun X u h => ?_)
  obtain ⟨rfl, rfl⟩ := h
  refine v_catch (pre := []) (x := ⟨0, 9, 12, 13⟩) (suf := []) O rfl (fun z hz => by cases hz) (by decide) (by decide) clL_13 ca_13 (fun q => ?_)
  refine v_cv (pc' := 12) (lv' := lv_args 0 [.ref a, .int x0, .ref o]) (st' := [.ref q]) (w' := u ++ oW E o f o2 g) ?_
  refine v_astore_n O dL_setChannels_12 (by rw [hN]; decide) ?_
  refine v_iconst (v := nI 1) O dL_setChannels_13 (by decide) ?_
  exact v_ireturn O OR dL_setChannels_14 ⟨rfl, rfl⟩ (Nat.le_of_ble_eq_true rfl) (Nat.le_of_ble_eq_true rfl)
theorem l_setPending {E : ET} {a o o2 : Nat} {w : va_W} {fs : List Value} {f : Nat → Int64} {g : Nat → UInt64} {rx : Room} {PX : Option Value → va_W → Prop} {x : Int32} (hst : E.1.stackTraces = false) (x0 : Int32) (x1 : Int32) (he : w[0]? = some (a, .inr (4, fs))) (hG : Good rx 0 0) (M : Ctr E yX4_setPending cdX4_setPending rx (.ref a :: [.int x0, .int x1]) w PX noX 0 0) (hv : ∀ r u, PX r u → r = some (.int x)) : Ctr E yL_setPending cdL_setPending (rmL 10) [.ref a, .int x0, .int x1, .ref o] (w ++ oW E o f o2 g) (fun r u => r = some (.int (nI 0)) ∧ ∃ r0 u0, PX r0 u0 ∧ u = u0 ++ oW E o (vp_updL f 0 x.toInt64) o2 g) noX 0 0 := by
  refine ctr_ofH hst (by decide) (Nat.le_of_ble_eq_true rfl) (fun G O OR hN => ?_)
  have O : OKG E G cL_setPending RL (rmL 10) (tableOf [(0, 10, 13, 19), (0, 10, 17, 13)]) := O
  have hN : nLG G = 5 := hN
  obtain ⟨g1, g2, g3, g4⟩ := hG
  refine v_aload_n O dL_setPending_0 rfl ?_
  refine v_iconst (v := nI 0) O dL_setPending_1 (by decide) ?_
  refine v_aload_n O dL_setPending_2 rfl ?_
  refine v_iload_n O dL_setPending_3 rfl ?_
  refine v_iload_n O dL_setPending_4 rfl ?_
  refine v_callVJ (wa := []) (wb := oW E o f o2 g) (w := w) (As := [.int x0, .int x1]) (st := [.int (nI 0), .ref o]) O dL_setPending_5 lkL_15 M 0 he rfl rfl rfl ⟨g1, g2, by show _ ≤ 10; omega, by show _ ≤ 34 * 10; omega, by decide, by decide⟩ (fun r u hp => ?_) (fun _ _ h => False.elim h)
  obtain rfl := hv r u hp
  refine v_cv (pc' := 8) (lv' := lv_args 0 [.ref a, .int x0, .int x1, .ref o]) (st' := [.int x, .int (nI 0), .ref o]) (w' := u ++ oW E o f o2 g) ?_
  refine v_i2l O dL_setPending_8 ?_
  refine v_lastO O dL_setPending_9 ?_
  refine v_goto (tgt := 21) O dL_setPending_10 (by decide) ?_
  refine v_iconst (v := nI 0) O dL_setPending_21 (by decide) ?_
  exact v_ireturn O OR dL_setPending_22 ⟨rfl, _, u, hp, rfl⟩ (Nat.le_of_ble_eq_true rfl) (Nat.le_of_ble_eq_true rfl)
theorem lx_setPending1 {E : ET} {a o o2 : Nat} {w : va_W} {fs : List Value} {f : Nat → Int64} {g : Nat → UInt64} {rx : Room} (hst : E.1.stackTraces = false) (x0 : Int32) (x1 : Int32) (he : w[0]? = some (a, .inr (4, fs))) (hG : Good rx 1 6) (M : Ctr E yX4_setPending cdX4_setPending rx (.ref a :: [.int x0, .int x1]) w noR (pX sIOB w) 1 6) : Ctr E yL_setPending cdL_setPending (rmT 10) [.ref a, .int x0, .int x1, .ref o] (w ++ oW E o f o2 g) (pR (some (.int (nI 1))) (w ++ oW E o f o2 g)) noX 1 6 := by
  refine ctr_ofH hst (by decide) (Nat.le_of_ble_eq_true rfl) (fun G O OR hN => ?_)
  have O : OKG E G cL_setPending RL (rmT 10) (tableOf [(0, 10, 13, 19), (0, 10, 17, 13)]) := O
  have hN : nLG G = 5 := hN
  obtain ⟨g1, g2, g3, g4⟩ := hG
  refine v_aload_n O dL_setPending_0 rfl ?_
  refine v_iconst (v := nI 0) O dL_setPending_1 (by decide) ?_
  refine v_aload_n O dL_setPending_2 rfl ?_
  refine v_iload_n O dL_setPending_3 rfl ?_
  refine v_iload_n O dL_setPending_4 rfl ?_
  refine v_callVJ (wa := []) (wb := oW E o f o2 g) (w := w) (As := [.int x0, .int x1]) (st := [.int (nI 0), .ref o]) O dL_setPending_5 lkL_15 M 0 he rfl rfl rfl ⟨g1, g2, by show _ ≤ 10; omega, by show _ ≤ 34 * 10; omega, by decide, by decide⟩ (fun _ _ h => False.elim h) (fun X u h => ?_)
  obtain ⟨rfl, rfl⟩ := h
  refine v_catch (pre := []) (x := ⟨0, 10, 13, 19⟩) (suf := [⟨0, 10, 17, 13⟩]) O rfl (fun z hz => by cases hz) (by decide) (by decide) clL_19 ca_19 (fun q => ?_)
  refine v_cv (pc' := 13) (lv' := lv_args 0 [.ref a, .int x0, .int x1, .ref o]) (st' := [.ref q]) (w' := u ++ oW E o f o2 g) ?_
  refine v_astore O dL_setPending_13 (by rw [hN]; decide) ?_
  refine v_iconst (v := nI 1) O dL_setPending_15 (by decide) ?_
  exact v_ireturn O OR dL_setPending_16 ⟨rfl, rfl⟩ (Nat.le_of_ble_eq_true rfl) (Nat.le_of_ble_eq_true rfl)
theorem lx_setPending2 {E : ET} {a o o2 : Nat} {w : va_W} {fs : List Value} {f : Nat → Int64} {g : Nat → UInt64} {rx : Room} (hst : E.1.stackTraces = false) (x0 : Int32) (x1 : Int32) (he : w[0]? = some (a, .inr (4, fs))) (hG : Good rx 1 6) (M : Ctr E yX4_setPending cdX4_setPending rx (.ref a :: [.int x0, .int x1]) w noR (pX sIAE w) 1 6) : Ctr E yL_setPending cdL_setPending (rmT 10) [.ref a, .int x0, .int x1, .ref o] (w ++ oW E o f o2 g) (pR (some (.int (nI 2))) (w ++ oW E o f o2 g)) noX 1 6 := by
  refine ctr_ofH hst (by decide) (Nat.le_of_ble_eq_true rfl) (fun G O OR hN => ?_)
  have O : OKG E G cL_setPending RL (rmT 10) (tableOf [(0, 10, 13, 19), (0, 10, 17, 13)]) := O
  have hN : nLG G = 5 := hN
  obtain ⟨g1, g2, g3, g4⟩ := hG
  refine v_aload_n O dL_setPending_0 rfl ?_
  refine v_iconst (v := nI 0) O dL_setPending_1 (by decide) ?_
  refine v_aload_n O dL_setPending_2 rfl ?_
  refine v_iload_n O dL_setPending_3 rfl ?_
  refine v_iload_n O dL_setPending_4 rfl ?_
  refine v_callVJ (wa := []) (wb := oW E o f o2 g) (w := w) (As := [.int x0, .int x1]) (st := [.int (nI 0), .ref o]) O dL_setPending_5 lkL_15 M 0 he rfl rfl rfl ⟨g1, g2, by show _ ≤ 10; omega, by show _ ≤ 34 * 10; omega, by decide, by decide⟩ (fun _ _ h => False.elim h) (fun X u h => ?_)
  obtain ⟨rfl, rfl⟩ := h
  refine v_catch (pre := [⟨0, 10, 13, 19⟩]) (x := ⟨0, 10, 17, 13⟩) (suf := []) O rfl (fun z hz => by rw [List.mem_singleton.mp hz]; exact ⟨by decide, _, clL_19, by decide⟩) (by decide) (by decide) clL_13 ca_13 (fun q => ?_)
  refine v_cv (pc' := 17) (lv' := lv_args 0 [.ref a, .int x0, .int x1, .ref o]) (st' := [.ref q]) (w' := u ++ oW E o f o2 g) ?_
  refine v_astore O dL_setPending_17 (by rw [hN]; decide) ?_
  refine v_iconst (v := nI 2) O dL_setPending_19 (by decide) ?_
  exact v_ireturn O OR dL_setPending_20 ⟨rfl, rfl⟩ (Nat.le_of_ble_eq_true rfl) (Nat.le_of_ble_eq_true rfl)
theorem l_append {E : ET} {a o o2 : Nat} {w : va_W} {fs : List Value} {f : Nat → Int64} {g : Nat → UInt64} {rx : Room} {PX : Option Value → va_W → Prop} {x : Int32} (hst : E.1.stackTraces = false) (x0 : Int32) (he : w[0]? = some (a, .inr (4, fs))) (hG : Good rx 0 0) (M : Ctr E yX4_append cdX4_append rx (.ref a :: [.int x0]) w PX noX 0 0) (hv : ∀ r u, PX r u → r = some (.int x)) : Ctr E yL_append cdL_append (rmL 10) [.ref a, .int x0, .ref o] (w ++ oW E o f o2 g) (fun r u => r = some (.int (nI 0)) ∧ ∃ r0 u0, PX r0 u0 ∧ u = u0 ++ oW E o (vp_updL f 0 x.toInt64) o2 g) noX 0 0 := by
  refine ctr_ofH hst (by decide) (Nat.le_of_ble_eq_true rfl) (fun G O OR hN => ?_)
  have O : OKG E G cL_append RL (rmL 10) (tableOf [(0, 9, 12, 13), (0, 9, 15, 24)]) := O
  have hN : nLG G = 4 := hN
  obtain ⟨g1, g2, g3, g4⟩ := hG
  refine v_aload_n O dL_append_0 rfl ?_
  refine v_iconst (v := nI 0) O dL_append_1 (by decide) ?_
  refine v_aload_n O dL_append_2 rfl ?_
  refine v_iload_n O dL_append_3 rfl ?_
  refine v_callVJ (wa := []) (wb := oW E o f o2 g) (w := w) (As := [.int x0]) (st := [.int (nI 0), .ref o]) O dL_append_4 lkL_21 M 0 he rfl rfl rfl ⟨g1, g2, by show _ ≤ 10; omega, by show _ ≤ 34 * 10; omega, by decide, by decide⟩ (fun r u hp => ?_) (fun _ _ h => False.elim h)
  obtain rfl := hv r u hp
  refine v_cv (pc' := 7) (lv' := lv_args 0 [.ref a, .int x0, .ref o]) (st' := [.int x, .int (nI 0), .ref o]) (w' := u ++ oW E o f o2 g) ?_
  refine v_i2l O dL_append_7 ?_
  refine v_lastO O dL_append_8 ?_
  refine v_goto (tgt := 18) O dL_append_9 (by decide) ?_
  refine v_iconst (v := nI 0) O dL_append_18 (by decide) ?_
  exact v_ireturn O OR dL_append_19 ⟨rfl, _, u, hp, rfl⟩ (Nat.le_of_ble_eq_true rfl) (Nat.le_of_ble_eq_true rfl)
theorem lx_append1 {E : ET} {a o o2 : Nat} {w : va_W} {fs : List Value} {f : Nat → Int64} {g : Nat → UInt64} {rx : Room} (hst : E.1.stackTraces = false) (x0 : Int32) (he : w[0]? = some (a, .inr (4, fs))) (hG : Good rx 1 6) (M : Ctr E yX4_append cdX4_append rx (.ref a :: [.int x0]) w noR (pX sIAE w) 1 6) : Ctr E yL_append cdL_append (rmT 10) [.ref a, .int x0, .ref o] (w ++ oW E o f o2 g) (pR (some (.int (nI 1))) (w ++ oW E o f o2 g)) noX 1 6 := by
  refine ctr_ofH hst (by decide) (Nat.le_of_ble_eq_true rfl) (fun G O OR hN => ?_)
  have O : OKG E G cL_append RL (rmT 10) (tableOf [(0, 9, 12, 13), (0, 9, 15, 24)]) := O
  have hN : nLG G = 4 := hN
  obtain ⟨g1, g2, g3, g4⟩ := hG
  refine v_aload_n O dL_append_0 rfl ?_
  refine v_iconst (v := nI 0) O dL_append_1 (by decide) ?_
  refine v_aload_n O dL_append_2 rfl ?_
  refine v_iload_n O dL_append_3 rfl ?_
  refine v_callVJ (wa := []) (wb := oW E o f o2 g) (w := w) (As := [.int x0]) (st := [.int (nI 0), .ref o]) O dL_append_4 lkL_21 M 0 he rfl rfl rfl ⟨g1, g2, by show _ ≤ 10; omega, by show _ ≤ 34 * 10; omega, by decide, by decide⟩ (fun _ _ h => False.elim h) (fun X u h => ?_)
  obtain ⟨rfl, rfl⟩ := h
  refine v_catch (pre := []) (x := ⟨0, 9, 12, 13⟩) (suf := [⟨0, 9, 15, 24⟩]) O rfl (fun z hz => by cases hz) (by decide) (by decide) clL_13 ca_13 (fun q => ?_)
  refine v_cv (pc' := 12) (lv' := lv_args 0 [.ref a, .int x0, .ref o]) (st' := [.ref q]) (w' := u ++ oW E o f o2 g) ?_
  refine v_astore_n O dL_append_12 (by rw [hN]; decide) ?_
  refine v_iconst (v := nI 1) O dL_append_13 (by decide) ?_
  exact v_ireturn O OR dL_append_14 ⟨rfl, rfl⟩ (Nat.le_of_ble_eq_true rfl) (Nat.le_of_ble_eq_true rfl)
theorem lx_append2 {E : ET} {a o o2 : Nat} {w : va_W} {fs : List Value} {f : Nat → Int64} {g : Nat → UInt64} {rx : Room} (hst : E.1.stackTraces = false) (x0 : Int32) (he : w[0]? = some (a, .inr (4, fs))) (hG : Good rx 1 6) (M : Ctr E yX4_append cdX4_append rx (.ref a :: [.int x0]) w noR (pX sISE w) 1 6) : Ctr E yL_append cdL_append (rmT 10) [.ref a, .int x0, .ref o] (w ++ oW E o f o2 g) (pR (some (.int (nI 2))) (w ++ oW E o f o2 g)) noX 1 6 := by
  refine ctr_ofH hst (by decide) (Nat.le_of_ble_eq_true rfl) (fun G O OR hN => ?_)
  have O : OKG E G cL_append RL (rmT 10) (tableOf [(0, 9, 12, 13), (0, 9, 15, 24)]) := O
  have hN : nLG G = 4 := hN
  obtain ⟨g1, g2, g3, g4⟩ := hG
  refine v_aload_n O dL_append_0 rfl ?_
  refine v_iconst (v := nI 0) O dL_append_1 (by decide) ?_
  refine v_aload_n O dL_append_2 rfl ?_
  refine v_iload_n O dL_append_3 rfl ?_
  refine v_callVJ (wa := []) (wb := oW E o f o2 g) (w := w) (As := [.int x0]) (st := [.int (nI 0), .ref o]) O dL_append_4 lkL_21 M 0 he rfl rfl rfl ⟨g1, g2, by show _ ≤ 10; omega, by show _ ≤ 34 * 10; omega, by decide, by decide⟩ (fun _ _ h => False.elim h) (fun X u h => ?_)
  obtain ⟨rfl, rfl⟩ := h
  refine v_catch (pre := [⟨0, 9, 12, 13⟩]) (x := ⟨0, 9, 15, 24⟩) (suf := []) O rfl (fun z hz => by rw [List.mem_singleton.mp hz]; exact ⟨by decide, _, clL_13, by decide⟩) (by decide) (by decide) clL_24 ca_24 (fun q => ?_)
  refine v_cv (pc' := 15) (lv' := lv_args 0 [.ref a, .int x0, .ref o]) (st' := [.ref q]) (w' := u ++ oW E o f o2 g) ?_
  refine v_astore_n O dL_append_15 (by rw [hN]; decide) ?_
  refine v_iconst (v := nI 2) O dL_append_16 (by decide) ?_
  exact v_ireturn O OR dL_append_17 ⟨rfl, rfl⟩ (Nat.le_of_ble_eq_true rfl) (Nat.le_of_ble_eq_true rfl)
theorem l_load {E : ET} {a o o2 : Nat} {w : va_W} {fs : List Value} {f : Nat → Int64} {g : Nat → UInt64} {rx : Room} {PX : Option Value → va_W → Prop} {x : Int32} (hst : E.1.stackTraces = false)  (he : w[0]? = some (a, .inr (4, fs))) (hG : Good rx 0 0) (M : Ctr E yX4_load cdX4_load rx (.ref a :: []) w PX noX 0 0) (hv : ∀ r u, PX r u → r = some (.int x)) : Ctr E yL_load cdL_load (rmL 10) [.ref a, .ref o] (w ++ oW E o f o2 g) (fun r u => r = some (.int (nI 0)) ∧ ∃ r0 u0, PX r0 u0 ∧ u = u0 ++ oW E o (vp_updL f 0 x.toInt64) o2 g) noX 0 0 := by
  refine ctr_ofH hst (by decide) (Nat.le_of_ble_eq_true rfl) (fun G O OR hN => ?_)
  have O : OKG E G cL_load RL (rmL 10) (tableOf [(0, 8, 11, 24)]) := O
  have hN : nLG G = 3 := hN
  obtain ⟨g1, g2, g3, g4⟩ := hG
  refine v_aload_n O dL_load_0 rfl ?_
  refine v_iconst (v := nI 0) O dL_load_1 (by decide) ?_
  refine v_aload_n O dL_load_2 rfl ?_
  refine v_callVJ (wa := []) (wb := oW E o f o2 g) (w := w) (As := []) (st := [.int (nI 0), .ref o]) O dL_load_3 lkL_26 M 0 he rfl rfl rfl ⟨g1, g2, by show _ ≤ 10; omega, by show _ ≤ 34 * 10; omega, by decide, by decide⟩ (fun r u hp => ?_) (fun _ _ h => False.elim h)
  obtain rfl := hv r u hp
  refine v_cv (pc' := 6) (lv' := lv_args 0 [.ref a, .ref o]) (st' := [.int x, .int (nI 0), .ref o]) (w' := u ++ oW E o f o2 g) ?_
  refine v_i2l O dL_load_6 ?_
  refine v_lastO O dL_load_7 ?_
  refine v_goto (tgt := 14) O dL_load_8 (by decide) ?_
  refine v_iconst (v := nI 0) O dL_load_14 (by decide) ?_
  exact v_ireturn O OR dL_load_15 ⟨rfl, _, u, hp, rfl⟩ (Nat.le_of_ble_eq_true rfl) (Nat.le_of_ble_eq_true rfl)
theorem lx_load1 {E : ET} {a o o2 : Nat} {w : va_W} {fs : List Value} {f : Nat → Int64} {g : Nat → UInt64} {rx : Room} (hst : E.1.stackTraces = false)  (he : w[0]? = some (a, .inr (4, fs))) (hG : Good rx 1 6) (M : Ctr E yX4_load cdX4_load rx (.ref a :: []) w noR (pX sISE w) 1 6) : Ctr E yL_load cdL_load (rmT 10) [.ref a, .ref o] (w ++ oW E o f o2 g) (pR (some (.int (nI 1))) (w ++ oW E o f o2 g)) noX 1 6 := by
  refine ctr_ofH hst (by decide) (Nat.le_of_ble_eq_true rfl) (fun G O OR hN => ?_)
  have O : OKG E G cL_load RL (rmT 10) (tableOf [(0, 8, 11, 24)]) := O
  have hN : nLG G = 3 := hN
  obtain ⟨g1, g2, g3, g4⟩ := hG
  refine v_aload_n O dL_load_0 rfl ?_
  refine v_iconst (v := nI 0) O dL_load_1 (by decide) ?_
  refine v_aload_n O dL_load_2 rfl ?_
  refine v_callVJ (wa := []) (wb := oW E o f o2 g) (w := w) (As := []) (st := [.int (nI 0), .ref o]) O dL_load_3 lkL_26 M 0 he rfl rfl rfl ⟨g1, g2, by show _ ≤ 10; omega, by show _ ≤ 34 * 10; omega, by decide, by decide⟩ (fun _ _ h => False.elim h) (fun X u h => ?_)
  obtain ⟨rfl, rfl⟩ := h
  refine v_catch (pre := []) (x := ⟨0, 8, 11, 24⟩) (suf := []) O rfl (fun z hz => by cases hz) (by decide) (by decide) clL_24 ca_24 (fun q => ?_)
  refine v_cv (pc' := 11) (lv' := lv_args 0 [.ref a, .ref o]) (st' := [.ref q]) (w' := u ++ oW E o f o2 g) ?_
  refine v_astore_n O dL_load_11 (by rw [hN]; decide) ?_
  refine v_iconst (v := nI 1) O dL_load_12 (by decide) ?_
  exact v_ireturn O OR dL_load_13 ⟨rfl, rfl⟩ (Nat.le_of_ble_eq_true rfl) (Nat.le_of_ble_eq_true rfl)
theorem l_inject {E : ET} {a o o2 : Nat} {w : va_W} {fs : List Value} {f : Nat → Int64} {g : Nat → UInt64} {rx : Room} {PX : Option Value → va_W → Prop} {x : Int32} (hst : E.1.stackTraces = false) (x0 : Int32) (x1 : Int32) (x2 : Int32) (he : w[0]? = some (a, .inr (4, fs))) (hG : Good rx 0 0) (M : Ctr E yX4_inject cdX4_inject rx (.ref a :: [.int x0, .int x1, .int x2]) w PX noX 0 0) (hv : ∀ r u, PX r u → r = some (.int x)) : Ctr E yL_inject cdL_inject (rmL 10) [.ref a, .int x0, .int x1, .int x2, .ref o] (w ++ oW E o f o2 g) (fun r u => r = some (.int (nI 0)) ∧ ∃ r0 u0, PX r0 u0 ∧ u = u0 ++ oW E o (vp_updL f 0 x.toInt64) o2 g) noX 0 0 := by
  refine ctr_ofH hst (by decide) (Nat.le_of_ble_eq_true rfl) (fun G O OR hN => ?_)
  have O : OKG E G cL_inject RL (rmL 10) (tableOf [(0, 12, 15, 19), (0, 12, 19, 13)]) := O
  have hN : nLG G = 6 := hN
  obtain ⟨g1, g2, g3, g4⟩ := hG
  refine v_aload O dL_inject_0 rfl ?_
  refine v_iconst (v := nI 0) O dL_inject_2 (by decide) ?_
  refine v_aload_n O dL_inject_3 rfl ?_
  refine v_iload_n O dL_inject_4 rfl ?_
  refine v_iload_n O dL_inject_5 rfl ?_
  refine v_iload_n O dL_inject_6 rfl ?_
  refine v_callVJ (wa := []) (wb := oW E o f o2 g) (w := w) (As := [.int x0, .int x1, .int x2]) (st := [.int (nI 0), .ref o]) O dL_inject_7 lkL_30 M 0 he rfl rfl rfl ⟨g1, g2, by show _ ≤ 10; omega, by show _ ≤ 34 * 10; omega, by decide, by decide⟩ (fun r u hp => ?_) (fun _ _ h => False.elim h)
  obtain rfl := hv r u hp
  refine v_cv (pc' := 10) (lv' := lv_args 0 [.ref a, .int x0, .int x1, .int x2, .ref o]) (st' := [.int x, .int (nI 0), .ref o]) (w' := u ++ oW E o f o2 g) ?_
  refine v_i2l O dL_inject_10 ?_
  refine v_lastO O dL_inject_11 ?_
  refine v_goto (tgt := 23) O dL_inject_12 (by decide) ?_
  refine v_iconst (v := nI 0) O dL_inject_23 (by decide) ?_
  exact v_ireturn O OR dL_inject_24 ⟨rfl, _, u, hp, rfl⟩ (Nat.le_of_ble_eq_true rfl) (Nat.le_of_ble_eq_true rfl)
theorem lx_inject1 {E : ET} {a o o2 : Nat} {w : va_W} {fs : List Value} {f : Nat → Int64} {g : Nat → UInt64} {rx : Room} (hst : E.1.stackTraces = false) (x0 : Int32) (x1 : Int32) (x2 : Int32) (he : w[0]? = some (a, .inr (4, fs))) (hG : Good rx 1 6) (M : Ctr E yX4_inject cdX4_inject rx (.ref a :: [.int x0, .int x1, .int x2]) w noR (pX sIOB w) 1 6) : Ctr E yL_inject cdL_inject (rmT 10) [.ref a, .int x0, .int x1, .int x2, .ref o] (w ++ oW E o f o2 g) (pR (some (.int (nI 1))) (w ++ oW E o f o2 g)) noX 1 6 := by
  refine ctr_ofH hst (by decide) (Nat.le_of_ble_eq_true rfl) (fun G O OR hN => ?_)
  have O : OKG E G cL_inject RL (rmT 10) (tableOf [(0, 12, 15, 19), (0, 12, 19, 13)]) := O
  have hN : nLG G = 6 := hN
  obtain ⟨g1, g2, g3, g4⟩ := hG
  refine v_aload O dL_inject_0 rfl ?_
  refine v_iconst (v := nI 0) O dL_inject_2 (by decide) ?_
  refine v_aload_n O dL_inject_3 rfl ?_
  refine v_iload_n O dL_inject_4 rfl ?_
  refine v_iload_n O dL_inject_5 rfl ?_
  refine v_iload_n O dL_inject_6 rfl ?_
  refine v_callVJ (wa := []) (wb := oW E o f o2 g) (w := w) (As := [.int x0, .int x1, .int x2]) (st := [.int (nI 0), .ref o]) O dL_inject_7 lkL_30 M 0 he rfl rfl rfl ⟨g1, g2, by show _ ≤ 10; omega, by show _ ≤ 34 * 10; omega, by decide, by decide⟩ (fun _ _ h => False.elim h) (fun X u h => ?_)
  obtain ⟨rfl, rfl⟩ := h
  refine v_catch (pre := []) (x := ⟨0, 12, 15, 19⟩) (suf := [⟨0, 12, 19, 13⟩]) O rfl (fun z hz => by cases hz) (by decide) (by decide) clL_19 ca_19 (fun q => ?_)
  refine v_cv (pc' := 15) (lv' := lv_args 0 [.ref a, .int x0, .int x1, .int x2, .ref o]) (st' := [.ref q]) (w' := u ++ oW E o f o2 g) ?_
  refine v_astore O dL_inject_15 (by rw [hN]; decide) ?_
  refine v_iconst (v := nI 1) O dL_inject_17 (by decide) ?_
  exact v_ireturn O OR dL_inject_18 ⟨rfl, rfl⟩ (Nat.le_of_ble_eq_true rfl) (Nat.le_of_ble_eq_true rfl)
theorem lx_inject2 {E : ET} {a o o2 : Nat} {w : va_W} {fs : List Value} {f : Nat → Int64} {g : Nat → UInt64} {rx : Room} (hst : E.1.stackTraces = false) (x0 : Int32) (x1 : Int32) (x2 : Int32) (he : w[0]? = some (a, .inr (4, fs))) (hG : Good rx 1 6) (M : Ctr E yX4_inject cdX4_inject rx (.ref a :: [.int x0, .int x1, .int x2]) w noR (pX sIAE w) 1 6) : Ctr E yL_inject cdL_inject (rmT 10) [.ref a, .int x0, .int x1, .int x2, .ref o] (w ++ oW E o f o2 g) (pR (some (.int (nI 2))) (w ++ oW E o f o2 g)) noX 1 6 := by
  refine ctr_ofH hst (by decide) (Nat.le_of_ble_eq_true rfl) (fun G O OR hN => ?_)
  have O : OKG E G cL_inject RL (rmT 10) (tableOf [(0, 12, 15, 19), (0, 12, 19, 13)]) := O
  have hN : nLG G = 6 := hN
  obtain ⟨g1, g2, g3, g4⟩ := hG
  refine v_aload O dL_inject_0 rfl ?_
  refine v_iconst (v := nI 0) O dL_inject_2 (by decide) ?_
  refine v_aload_n O dL_inject_3 rfl ?_
  refine v_iload_n O dL_inject_4 rfl ?_
  refine v_iload_n O dL_inject_5 rfl ?_
  refine v_iload_n O dL_inject_6 rfl ?_
  refine v_callVJ (wa := []) (wb := oW E o f o2 g) (w := w) (As := [.int x0, .int x1, .int x2]) (st := [.int (nI 0), .ref o]) O dL_inject_7 lkL_30 M 0 he rfl rfl rfl ⟨g1, g2, by show _ ≤ 10; omega, by show _ ≤ 34 * 10; omega, by decide, by decide⟩ (fun _ _ h => False.elim h) (fun X u h => ?_)
  obtain ⟨rfl, rfl⟩ := h
  refine v_catch (pre := [⟨0, 12, 15, 19⟩]) (x := ⟨0, 12, 19, 13⟩) (suf := []) O rfl (fun z hz => by rw [List.mem_singleton.mp hz]; exact ⟨by decide, _, clL_19, by decide⟩) (by decide) (by decide) clL_13 ca_13 (fun q => ?_)
  refine v_cv (pc' := 19) (lv' := lv_args 0 [.ref a, .int x0, .int x1, .int x2, .ref o]) (st' := [.ref q]) (w' := u ++ oW E o f o2 g) ?_
  refine v_astore O dL_inject_19 (by rw [hN]; decide) ?_
  refine v_iconst (v := nI 2) O dL_inject_21 (by decide) ?_
  exact v_ireturn O OR dL_inject_22 ⟨rfl, rfl⟩ (Nat.le_of_ble_eq_true rfl) (Nat.le_of_ble_eq_true rfl)
theorem l_power {E : ET} {a o o2 : Nat} {w : va_W} {fs : List Value} {f : Nat → Int64} {g : Nat → UInt64} {rx : Room} {PX : Option Value → va_W → Prop} {x : Int32} (hst : E.1.stackTraces = false) (x0 : Int32) (x1 : Int32) (he : w[0]? = some (a, .inr (4, fs))) (hG : Good rx 0 0) (M : Ctr E yX4_power cdX4_power rx (.ref a :: [.int x0, .int x1]) w PX noX 0 0) (hv : ∀ r u, PX r u → r = some (.int x)) : Ctr E yL_power cdL_power (rmL 10) [.ref a, .int x0, .int x1, .ref o] (w ++ oW E o f o2 g) (fun r u => r = some (.int (nI 0)) ∧ ∃ r0 u0, PX r0 u0 ∧ u = u0 ++ oW E o (vp_updL f 0 x.toInt64) o2 g) noX 0 0 := by
  refine ctr_ofH hst (by decide) (Nat.le_of_ble_eq_true rfl) (fun G O OR hN => ?_)
  have O : OKG E G cL_power RL (rmL 10) (tableOf [(0, 10, 13, 19)]) := O
  have hN : nLG G = 5 := hN
  obtain ⟨g1, g2, g3, g4⟩ := hG
  refine v_aload_n O dL_power_0 rfl ?_
  refine v_iconst (v := nI 0) O dL_power_1 (by decide) ?_
  refine v_aload_n O dL_power_2 rfl ?_
  refine v_iload_n O dL_power_3 rfl ?_
  refine v_iload_n O dL_power_4 rfl ?_
  refine v_callVJ (wa := []) (wb := oW E o f o2 g) (w := w) (As := [.int x0, .int x1]) (st := [.int (nI 0), .ref o]) O dL_power_5 lkL_34 M 0 he rfl rfl rfl ⟨g1, g2, by show _ ≤ 10; omega, by show _ ≤ 34 * 10; omega, by decide, by decide⟩ (fun r u hp => ?_) (fun _ _ h => False.elim h)
  obtain rfl := hv r u hp
  refine v_cv (pc' := 8) (lv' := lv_args 0 [.ref a, .int x0, .int x1, .ref o]) (st' := [.int x, .int (nI 0), .ref o]) (w' := u ++ oW E o f o2 g) ?_
  refine v_i2l O dL_power_8 ?_
  refine v_lastO O dL_power_9 ?_
  refine v_goto (tgt := 17) O dL_power_10 (by decide) ?_
  refine v_iconst (v := nI 0) O dL_power_17 (by decide) ?_
  exact v_ireturn O OR dL_power_18 ⟨rfl, _, u, hp, rfl⟩ (Nat.le_of_ble_eq_true rfl) (Nat.le_of_ble_eq_true rfl)
theorem lx_power1 {E : ET} {a o o2 : Nat} {w : va_W} {fs : List Value} {f : Nat → Int64} {g : Nat → UInt64} {rx : Room} (hst : E.1.stackTraces = false) (x0 : Int32) (x1 : Int32) (he : w[0]? = some (a, .inr (4, fs))) (hG : Good rx 1 6) (M : Ctr E yX4_power cdX4_power rx (.ref a :: [.int x0, .int x1]) w noR (pX sIOB w) 1 6) : Ctr E yL_power cdL_power (rmT 10) [.ref a, .int x0, .int x1, .ref o] (w ++ oW E o f o2 g) (pR (some (.int (nI 1))) (w ++ oW E o f o2 g)) noX 1 6 := by
  refine ctr_ofH hst (by decide) (Nat.le_of_ble_eq_true rfl) (fun G O OR hN => ?_)
  have O : OKG E G cL_power RL (rmT 10) (tableOf [(0, 10, 13, 19)]) := O
  have hN : nLG G = 5 := hN
  obtain ⟨g1, g2, g3, g4⟩ := hG
  refine v_aload_n O dL_power_0 rfl ?_
  refine v_iconst (v := nI 0) O dL_power_1 (by decide) ?_
  refine v_aload_n O dL_power_2 rfl ?_
  refine v_iload_n O dL_power_3 rfl ?_
  refine v_iload_n O dL_power_4 rfl ?_
  refine v_callVJ (wa := []) (wb := oW E o f o2 g) (w := w) (As := [.int x0, .int x1]) (st := [.int (nI 0), .ref o]) O dL_power_5 lkL_34 M 0 he rfl rfl rfl ⟨g1, g2, by show _ ≤ 10; omega, by show _ ≤ 34 * 10; omega, by decide, by decide⟩ (fun _ _ h => False.elim h) (fun X u h => ?_)
  obtain ⟨rfl, rfl⟩ := h
  refine v_catch (pre := []) (x := ⟨0, 10, 13, 19⟩) (suf := []) O rfl (fun z hz => by cases hz) (by decide) (by decide) clL_19 ca_19 (fun q => ?_)
  refine v_cv (pc' := 13) (lv' := lv_args 0 [.ref a, .int x0, .int x1, .ref o]) (st' := [.ref q]) (w' := u ++ oW E o f o2 g) ?_
  refine v_astore O dL_power_13 (by rw [hN]; decide) ?_
  refine v_iconst (v := nI 1) O dL_power_15 (by decide) ?_
  exact v_ireturn O OR dL_power_16 ⟨rfl, rfl⟩ (Nat.le_of_ble_eq_true rfl) (Nat.le_of_ble_eq_true rfl)
theorem l_count {E : ET} {a o o2 : Nat} {w : va_W} {fs : List Value} {f : Nat → Int64} {g : Nat → UInt64} {rx : Room} {PX : Option Value → va_W → Prop} {x : Int32} (hst : E.1.stackTraces = false) (x0 : Int32) (he : w[0]? = some (a, .inr (4, fs))) (hG : Good rx 0 0) (M : Ctr E yX4_count cdX4_count rx (.ref a :: [.int x0]) w PX noX 0 0) (hv : ∀ r u, PX r u → r = some (.int x)) : Ctr E yL_count cdL_count (rmL 10) [.ref a, .int x0, .ref o] (w ++ oW E o f o2 g) (fun r u => r = some (.int (nI 0)) ∧ ∃ r0 u0, PX r0 u0 ∧ u = u0 ++ oW E o (vp_updL f 0 x.toInt64) o2 g) noX 0 0 := by
  refine ctr_ofH hst (by decide) (Nat.le_of_ble_eq_true rfl) (fun G O OR hN => ?_)
  have O : OKG E G cL_count RL (rmL 10) (tableOf [(0, 9, 12, 13)]) := O
  have hN : nLG G = 4 := hN
  obtain ⟨g1, g2, g3, g4⟩ := hG
  refine v_aload_n O dL_count_0 rfl ?_
  refine v_iconst (v := nI 0) O dL_count_1 (by decide) ?_
  refine v_aload_n O dL_count_2 rfl ?_
  refine v_iload_n O dL_count_3 rfl ?_
  refine v_callVJ (wa := []) (wb := oW E o f o2 g) (w := w) (As := [.int x0]) (st := [.int (nI 0), .ref o]) O dL_count_4 lkL_37 M 0 he rfl rfl rfl ⟨g1, g2, by show _ ≤ 10; omega, by show _ ≤ 34 * 10; omega, by decide, by decide⟩ (fun r u hp => ?_) (fun _ _ h => False.elim h)
  obtain rfl := hv r u hp
  refine v_cv (pc' := 7) (lv' := lv_args 0 [.ref a, .int x0, .ref o]) (st' := [.int x, .int (nI 0), .ref o]) (w' := u ++ oW E o f o2 g) ?_
  refine v_i2l O dL_count_7 ?_
  refine v_lastO O dL_count_8 ?_
  refine v_goto (tgt := 15) O dL_count_9 (by decide) ?_
  refine v_iconst (v := nI 0) O dL_count_15 (by decide) ?_
  exact v_ireturn O OR dL_count_16 ⟨rfl, _, u, hp, rfl⟩ (Nat.le_of_ble_eq_true rfl) (Nat.le_of_ble_eq_true rfl)
theorem lx_count1 {E : ET} {a o o2 : Nat} {w : va_W} {fs : List Value} {f : Nat → Int64} {g : Nat → UInt64} {rx : Room} (hst : E.1.stackTraces = false) (x0 : Int32) (he : w[0]? = some (a, .inr (4, fs))) (hG : Good rx 1 6) (M : Ctr E yX4_count cdX4_count rx (.ref a :: [.int x0]) w noR (pX sIAE w) 1 6) : Ctr E yL_count cdL_count (rmT 10) [.ref a, .int x0, .ref o] (w ++ oW E o f o2 g) (pR (some (.int (nI 1))) (w ++ oW E o f o2 g)) noX 1 6 := by
  refine ctr_ofH hst (by decide) (Nat.le_of_ble_eq_true rfl) (fun G O OR hN => ?_)
  have O : OKG E G cL_count RL (rmT 10) (tableOf [(0, 9, 12, 13)]) := O
  have hN : nLG G = 4 := hN
  obtain ⟨g1, g2, g3, g4⟩ := hG
  refine v_aload_n O dL_count_0 rfl ?_
  refine v_iconst (v := nI 0) O dL_count_1 (by decide) ?_
  refine v_aload_n O dL_count_2 rfl ?_
  refine v_iload_n O dL_count_3 rfl ?_
  refine v_callVJ (wa := []) (wb := oW E o f o2 g) (w := w) (As := [.int x0]) (st := [.int (nI 0), .ref o]) O dL_count_4 lkL_37 M 0 he rfl rfl rfl ⟨g1, g2, by show _ ≤ 10; omega, by show _ ≤ 34 * 10; omega, by decide, by decide⟩ (fun _ _ h => False.elim h) (fun X u h => ?_)
  obtain ⟨rfl, rfl⟩ := h
  refine v_catch (pre := []) (x := ⟨0, 9, 12, 13⟩) (suf := []) O rfl (fun z hz => by cases hz) (by decide) (by decide) clL_13 ca_13 (fun q => ?_)
  refine v_cv (pc' := 12) (lv' := lv_args 0 [.ref a, .int x0, .ref o]) (st' := [.ref q]) (w' := u ++ oW E o f o2 g) ?_
  refine v_astore_n O dL_count_12 (by rw [hN]; decide) ?_
  refine v_iconst (v := nI 1) O dL_count_13 (by decide) ?_
  exact v_ireturn O OR dL_count_14 ⟨rfl, rfl⟩ (Nat.le_of_ble_eq_true rfl) (Nat.le_of_ble_eq_true rfl)
theorem l_setMasked {E : ET} {a o o2 : Nat} {w : va_W} {fs : List Value} {f : Nat → Int64} {g : Nat → UInt64} {rx : Room} {PX : Option Value → va_W → Prop} {x : Bool} (hst : E.1.stackTraces = false) (x0 : Int32) (x1 : Int32) (he : w[0]? = some (a, .inr (4, fs))) (hG : Good rx 0 0) (M : Ctr E yX4_setMasked cdX4_setMasked rx (.ref a :: [.int x0, .int x1]) w PX noX 0 0) (hv : ∀ r u, PX r u → r = some (.int (bI x))) : Ctr E yL_setMasked cdL_setMasked (rmL 10) [.ref a, .int x0, .int x1, .ref o] (w ++ oW E o f o2 g) (fun r u => r = some (.int (nI 0)) ∧ ∃ r0 u0, PX r0 u0 ∧ u = u0 ++ oW E o (vp_updL f 0 (bI x).toInt64) o2 g) noX 0 0 := by
  refine ctr_ofH hst (by decide) (Nat.le_of_ble_eq_true rfl) (fun G O OR hN => ?_)
  have O : OKG E G cL_setMasked RL (rmL 10) (tableOf [(0, 17, 20, 19)]) := O
  have hN : nLG G = 5 := hN
  obtain ⟨g1, g2, g3, g4⟩ := hG
  refine v_aload_n O dL_setMasked_0 rfl ?_
  refine v_iconst (v := nI 0) O dL_setMasked_1 (by decide) ?_
  refine v_aload_n O dL_setMasked_2 rfl ?_
  refine v_iload_n O dL_setMasked_3 rfl ?_
  refine v_iload_n O dL_setMasked_4 rfl ?_
  refine v_callVJ (wa := []) (wb := oW E o f o2 g) (w := w) (As := [.int x0, .int x1]) (st := [.int (nI 0), .ref o]) O dL_setMasked_5 lkL_40 M 0 he rfl rfl rfl ⟨g1, g2, by show _ ≤ 10; omega, by show _ ≤ 34 * 10; omega, by decide, by decide⟩ (fun r u hp => ?_) (fun _ _ h => False.elim h)
  obtain rfl := hv r u hp
  refine v_cv (pc' := 8) (lv' := lv_args 0 [.ref a, .int x0, .int x1, .ref o]) (st' := [.int (bI x), .int (nI 0), .ref o]) (w' := u ++ oW E o f o2 g) ?_
  cases x
  · refine v_if_eq (tgt := 15) O dL_setMasked_8 (by decide) (fun h => ?_) (fun h => ?_)
    · refine v_lconst (v := 0) O dL_setMasked_15 (by decide) ?_
      refine v_lastO O dL_setMasked_16 ?_
      refine v_goto (tgt := 24) O dL_setMasked_17 (by decide) ?_
      refine v_iconst (v := nI 0) O dL_setMasked_24 (by decide) ?_
      exact v_ireturn O OR dL_setMasked_25 ⟨rfl, _, u, hp, rfl⟩ (Nat.le_of_ble_eq_true rfl) (Nat.le_of_ble_eq_true rfl)
    · exact absurd rfl h
  · refine v_if_eq (tgt := 15) O dL_setMasked_8 (by decide) (fun h => ?_) (fun h => ?_)
    · exact absurd h (by decide)
    · refine v_lconst (v := 1) O dL_setMasked_11 (by decide) ?_
      refine v_goto (tgt := 16) O dL_setMasked_12 (by decide) ?_
      refine v_lastO O dL_setMasked_16 ?_
      refine v_goto (tgt := 24) O dL_setMasked_17 (by decide) ?_
      refine v_iconst (v := nI 0) O dL_setMasked_24 (by decide) ?_
      exact v_ireturn O OR dL_setMasked_25 ⟨rfl, _, u, hp, rfl⟩ (Nat.le_of_ble_eq_true rfl) (Nat.le_of_ble_eq_true rfl)
theorem lx_setMasked1 {E : ET} {a o o2 : Nat} {w : va_W} {fs : List Value} {f : Nat → Int64} {g : Nat → UInt64} {rx : Room} (hst : E.1.stackTraces = false) (x0 : Int32) (x1 : Int32) (he : w[0]? = some (a, .inr (4, fs))) (hG : Good rx 1 6) (M : Ctr E yX4_setMasked cdX4_setMasked rx (.ref a :: [.int x0, .int x1]) w noR (pX sIOB w) 1 6) : Ctr E yL_setMasked cdL_setMasked (rmT 10) [.ref a, .int x0, .int x1, .ref o] (w ++ oW E o f o2 g) (pR (some (.int (nI 1))) (w ++ oW E o f o2 g)) noX 1 6 := by
  refine ctr_ofH hst (by decide) (Nat.le_of_ble_eq_true rfl) (fun G O OR hN => ?_)
  have O : OKG E G cL_setMasked RL (rmT 10) (tableOf [(0, 17, 20, 19)]) := O
  have hN : nLG G = 5 := hN
  obtain ⟨g1, g2, g3, g4⟩ := hG
  refine v_aload_n O dL_setMasked_0 rfl ?_
  refine v_iconst (v := nI 0) O dL_setMasked_1 (by decide) ?_
  refine v_aload_n O dL_setMasked_2 rfl ?_
  refine v_iload_n O dL_setMasked_3 rfl ?_
  refine v_iload_n O dL_setMasked_4 rfl ?_
  refine v_callVJ (wa := []) (wb := oW E o f o2 g) (w := w) (As := [.int x0, .int x1]) (st := [.int (nI 0), .ref o]) O dL_setMasked_5 lkL_40 M 0 he rfl rfl rfl ⟨g1, g2, by show _ ≤ 10; omega, by show _ ≤ 34 * 10; omega, by decide, by decide⟩ (fun _ _ h => False.elim h) (fun X u h => ?_)
  obtain ⟨rfl, rfl⟩ := h
  refine v_catch (pre := []) (x := ⟨0, 17, 20, 19⟩) (suf := []) O rfl (fun z hz => by cases hz) (by decide) (by decide) clL_19 ca_19 (fun q => ?_)
  refine v_cv (pc' := 20) (lv' := lv_args 0 [.ref a, .int x0, .int x1, .ref o]) (st' := [.ref q]) (w' := u ++ oW E o f o2 g) ?_
  refine v_astore O dL_setMasked_20 (by rw [hN]; decide) ?_
  refine v_iconst (v := nI 1) O dL_setMasked_22 (by decide) ?_
  exact v_ireturn O OR dL_setMasked_23 ⟨rfl, rfl⟩ (Nat.le_of_ble_eq_true rfl) (Nat.le_of_ble_eq_true rfl)
theorem l_channelSum {E : ET} {a o o2 : Nat} {w : va_W} {fs : List Value} {f : Nat → Int64} {g : Nat → UInt64} {rx : Room} {PX : Option Value → va_W → Prop} {x : Int32} (hst : E.1.stackTraces = false) (x0 : Int32) (he : w[0]? = some (a, .inr (4, fs))) (hG : Good rx 0 0) (M : Ctr E yX4_channelSum cdX4_channelSum rx (.ref a :: [.int x0]) w PX noX 0 0) (hv : ∀ r u, PX r u → r = some (.int x)) : Ctr E yL_channelSum cdL_channelSum (rmL 10) [.ref a, .int x0, .ref o] (w ++ oW E o f o2 g) (fun r u => r = some (.int (nI 0)) ∧ ∃ r0 u0, PX r0 u0 ∧ u = u0 ++ oW E o (vp_updL f 0 x.toInt64) o2 g) noX 0 0 := by
  refine ctr_ofH hst (by decide) (Nat.le_of_ble_eq_true rfl) (fun G O OR hN => ?_)
  have O : OKG E G cL_channelSum RL (rmL 10) (tableOf [(0, 9, 12, 19)]) := O
  have hN : nLG G = 4 := hN
  obtain ⟨g1, g2, g3, g4⟩ := hG
  refine v_aload_n O dL_channelSum_0 rfl ?_
  refine v_iconst (v := nI 0) O dL_channelSum_1 (by decide) ?_
  refine v_aload_n O dL_channelSum_2 rfl ?_
  refine v_iload_n O dL_channelSum_3 rfl ?_
  refine v_callVJ (wa := []) (wb := oW E o f o2 g) (w := w) (As := [.int x0]) (st := [.int (nI 0), .ref o]) O dL_channelSum_4 lkL_44 M 0 he rfl rfl rfl ⟨g1, g2, by show _ ≤ 10; omega, by show _ ≤ 34 * 10; omega, by decide, by decide⟩ (fun r u hp => ?_) (fun _ _ h => False.elim h)
  obtain rfl := hv r u hp
  refine v_cv (pc' := 7) (lv' := lv_args 0 [.ref a, .int x0, .ref o]) (st' := [.int x, .int (nI 0), .ref o]) (w' := u ++ oW E o f o2 g) ?_
  refine v_i2l O dL_channelSum_7 ?_
  refine v_lastO O dL_channelSum_8 ?_
  refine v_goto (tgt := 15) O dL_channelSum_9 (by decide) ?_
  refine v_iconst (v := nI 0) O dL_channelSum_15 (by decide) ?_
  exact v_ireturn O OR dL_channelSum_16 ⟨rfl, _, u, hp, rfl⟩ (Nat.le_of_ble_eq_true rfl) (Nat.le_of_ble_eq_true rfl)
theorem lx_channelSum1 {E : ET} {a o o2 : Nat} {w : va_W} {fs : List Value} {f : Nat → Int64} {g : Nat → UInt64} {rx : Room} (hst : E.1.stackTraces = false) (x0 : Int32) (he : w[0]? = some (a, .inr (4, fs))) (hG : Good rx 1 6) (M : Ctr E yX4_channelSum cdX4_channelSum rx (.ref a :: [.int x0]) w noR (pX sIOB w) 1 6) : Ctr E yL_channelSum cdL_channelSum (rmT 10) [.ref a, .int x0, .ref o] (w ++ oW E o f o2 g) (pR (some (.int (nI 1))) (w ++ oW E o f o2 g)) noX 1 6 := by
  refine ctr_ofH hst (by decide) (Nat.le_of_ble_eq_true rfl) (fun G O OR hN => ?_)
  have O : OKG E G cL_channelSum RL (rmT 10) (tableOf [(0, 9, 12, 19)]) := O
  have hN : nLG G = 4 := hN
  obtain ⟨g1, g2, g3, g4⟩ := hG
  refine v_aload_n O dL_channelSum_0 rfl ?_
  refine v_iconst (v := nI 0) O dL_channelSum_1 (by decide) ?_
  refine v_aload_n O dL_channelSum_2 rfl ?_
  refine v_iload_n O dL_channelSum_3 rfl ?_
  refine v_callVJ (wa := []) (wb := oW E o f o2 g) (w := w) (As := [.int x0]) (st := [.int (nI 0), .ref o]) O dL_channelSum_4 lkL_44 M 0 he rfl rfl rfl ⟨g1, g2, by show _ ≤ 10; omega, by show _ ≤ 34 * 10; omega, by decide, by decide⟩ (fun _ _ h => False.elim h) (fun X u h => ?_)
  obtain ⟨rfl, rfl⟩ := h
  refine v_catch (pre := []) (x := ⟨0, 9, 12, 19⟩) (suf := []) O rfl (fun z hz => by cases hz) (by decide) (by decide) clL_19 ca_19 (fun q => ?_)
  refine v_cv (pc' := 12) (lv' := lv_args 0 [.ref a, .int x0, .ref o]) (st' := [.ref q]) (w' := u ++ oW E o f o2 g) ?_
  refine v_astore_n O dL_channelSum_12 (by rw [hN]; decide) ?_
  refine v_iconst (v := nI 1) O dL_channelSum_13 (by decide) ?_
  exact v_ireturn O OR dL_channelSum_14 ⟨rfl, rfl⟩ (Nat.le_of_ble_eq_true rfl) (Nat.le_of_ble_eq_true rfl)
theorem l_strike {E : ET} {a o o2 : Nat} {w : va_W} {fs : List Value} {f : Nat → Int64} {g : Nat → UInt64} {rx : Room} {PX : Option Value → va_W → Prop} {x : Int32} (hst : E.1.stackTraces = false) (x0 : Int32) (he : w[0]? = some (a, .inr (4, fs))) (hG : Good rx 0 0) (M : Ctr E yX4_strike cdX4_strike rx (.ref a :: [.int x0]) w PX noX 0 0) (hv : ∀ r u, PX r u → r = some (.int x)) : Ctr E yL_strike cdL_strike (rmL 10) [.ref a, .int x0, .ref o] (w ++ oW E o f o2 g) (fun r u => r = some (.int (nI 0)) ∧ ∃ r0 u0, PX r0 u0 ∧ u = u0 ++ oW E o (vp_updL f 0 x.toInt64) o2 g) noX 0 0 := by
  refine ctr_ofH hst (by decide) (Nat.le_of_ble_eq_true rfl) (fun G O OR hN => ?_)
  have O : OKG E G cL_strike RL (rmL 10) (tableOf [(0, 9, 12, 13)]) := O
  have hN : nLG G = 4 := hN
  obtain ⟨g1, g2, g3, g4⟩ := hG
  refine v_aload_n O dL_strike_0 rfl ?_
  refine v_iconst (v := nI 0) O dL_strike_1 (by decide) ?_
  refine v_aload_n O dL_strike_2 rfl ?_
  refine v_iload_n O dL_strike_3 rfl ?_
  refine v_callVJ (wa := []) (wb := oW E o f o2 g) (w := w) (As := [.int x0]) (st := [.int (nI 0), .ref o]) O dL_strike_4 lkL_47 M 0 he rfl rfl rfl ⟨g1, g2, by show _ ≤ 10; omega, by show _ ≤ 34 * 10; omega, by decide, by decide⟩ (fun r u hp => ?_) (fun _ _ h => False.elim h)
  obtain rfl := hv r u hp
  refine v_cv (pc' := 7) (lv' := lv_args 0 [.ref a, .int x0, .ref o]) (st' := [.int x, .int (nI 0), .ref o]) (w' := u ++ oW E o f o2 g) ?_
  refine v_i2l O dL_strike_7 ?_
  refine v_lastO O dL_strike_8 ?_
  refine v_goto (tgt := 15) O dL_strike_9 (by decide) ?_
  refine v_iconst (v := nI 0) O dL_strike_15 (by decide) ?_
  exact v_ireturn O OR dL_strike_16 ⟨rfl, _, u, hp, rfl⟩ (Nat.le_of_ble_eq_true rfl) (Nat.le_of_ble_eq_true rfl)
theorem lx_strike1 {E : ET} {a o o2 : Nat} {w : va_W} {fs : List Value} {f : Nat → Int64} {g : Nat → UInt64} {rx : Room} (hst : E.1.stackTraces = false) (x0 : Int32) (he : w[0]? = some (a, .inr (4, fs))) (hG : Good rx 1 6) (M : Ctr E yX4_strike cdX4_strike rx (.ref a :: [.int x0]) w noR (pX sIAE w) 1 6) : Ctr E yL_strike cdL_strike (rmT 10) [.ref a, .int x0, .ref o] (w ++ oW E o f o2 g) (pR (some (.int (nI 1))) (w ++ oW E o f o2 g)) noX 1 6 := by
  refine ctr_ofH hst (by decide) (Nat.le_of_ble_eq_true rfl) (fun G O OR hN => ?_)
  have O : OKG E G cL_strike RL (rmT 10) (tableOf [(0, 9, 12, 13)]) := O
  have hN : nLG G = 4 := hN
  obtain ⟨g1, g2, g3, g4⟩ := hG
  refine v_aload_n O dL_strike_0 rfl ?_
  refine v_iconst (v := nI 0) O dL_strike_1 (by decide) ?_
  refine v_aload_n O dL_strike_2 rfl ?_
  refine v_iload_n O dL_strike_3 rfl ?_
  refine v_callVJ (wa := []) (wb := oW E o f o2 g) (w := w) (As := [.int x0]) (st := [.int (nI 0), .ref o]) O dL_strike_4 lkL_47 M 0 he rfl rfl rfl ⟨g1, g2, by show _ ≤ 10; omega, by show _ ≤ 34 * 10; omega, by decide, by decide⟩ (fun _ _ h => False.elim h) (fun X u h => ?_)
  obtain ⟨rfl, rfl⟩ := h
  refine v_catch (pre := []) (x := ⟨0, 9, 12, 13⟩) (suf := []) O rfl (fun z hz => by cases hz) (by decide) (by decide) clL_13 ca_13 (fun q => ?_)
  refine v_cv (pc' := 12) (lv' := lv_args 0 [.ref a, .int x0, .ref o]) (st' := [.ref q]) (w' := u ++ oW E o f o2 g) ?_
  refine v_astore_n O dL_strike_12 (by rw [hN]; decide) ?_
  refine v_iconst (v := nI 1) O dL_strike_13 (by decide) ?_
  exact v_ireturn O OR dL_strike_14 ⟨rfl, rfl⟩ (Nat.le_of_ble_eq_true rfl) (Nat.le_of_ble_eq_true rfl)
theorem l_offset {E : ET} {a o o2 : Nat} {w : va_W} {fs : List Value} {f : Nat → Int64} {g : Nat → UInt64} {rx : Room} {PX : Option Value → va_W → Prop} {x : Int32} (hst : E.1.stackTraces = false) (x0 : Int32) (x1 : Int32) (x2 : Int32) (he : w[0]? = some (a, .inr (4, fs))) (hG : Good rx 0 0) (M : Ctr E yX4_offset cdX4_offset rx (.ref a :: [.int x0, .int x1, .int x2]) w PX noX 0 0) (hv : ∀ r u, PX r u → r = some (.int x)) : Ctr E yL_offset cdL_offset (rmL 10) [.ref a, .int x0, .int x1, .int x2, .ref o] (w ++ oW E o f o2 g) (fun r u => r = some (.int (nI 0)) ∧ ∃ r0 u0, PX r0 u0 ∧ u = u0 ++ oW E o (vp_updL f 0 x.toInt64) o2 g) noX 0 0 := by
  refine ctr_ofH hst (by decide) (Nat.le_of_ble_eq_true rfl) (fun G O OR hN => ?_)
  have O : OKG E G cL_offset RL (rmL 10) (tableOf [(0, 12, 15, 19)]) := O
  have hN : nLG G = 6 := hN
  obtain ⟨g1, g2, g3, g4⟩ := hG
  refine v_aload O dL_offset_0 rfl ?_
  refine v_iconst (v := nI 0) O dL_offset_2 (by decide) ?_
  refine v_aload_n O dL_offset_3 rfl ?_
  refine v_iload_n O dL_offset_4 rfl ?_
  refine v_iload_n O dL_offset_5 rfl ?_
  refine v_iload_n O dL_offset_6 rfl ?_
  refine v_callVJ (wa := []) (wb := oW E o f o2 g) (w := w) (As := [.int x0, .int x1, .int x2]) (st := [.int (nI 0), .ref o]) O dL_offset_7 lkL_50 M 0 he rfl rfl rfl ⟨g1, g2, by show _ ≤ 10; omega, by show _ ≤ 34 * 10; omega, by decide, by decide⟩ (fun r u hp => ?_) (fun _ _ h => False.elim h)
  obtain rfl := hv r u hp
  refine v_cv (pc' := 10) (lv' := lv_args 0 [.ref a, .int x0, .int x1, .int x2, .ref o]) (st' := [.int x, .int (nI 0), .ref o]) (w' := u ++ oW E o f o2 g) ?_
  refine v_i2l O dL_offset_10 ?_
  refine v_lastO O dL_offset_11 ?_
  refine v_goto (tgt := 19) O dL_offset_12 (by decide) ?_
  refine v_iconst (v := nI 0) O dL_offset_19 (by decide) ?_
  exact v_ireturn O OR dL_offset_20 ⟨rfl, _, u, hp, rfl⟩ (Nat.le_of_ble_eq_true rfl) (Nat.le_of_ble_eq_true rfl)
theorem lx_offset1 {E : ET} {a o o2 : Nat} {w : va_W} {fs : List Value} {f : Nat → Int64} {g : Nat → UInt64} {rx : Room} (hst : E.1.stackTraces = false) (x0 : Int32) (x1 : Int32) (x2 : Int32) (he : w[0]? = some (a, .inr (4, fs))) (hG : Good rx 1 6) (M : Ctr E yX4_offset cdX4_offset rx (.ref a :: [.int x0, .int x1, .int x2]) w noR (pX sIOB w) 1 6) : Ctr E yL_offset cdL_offset (rmT 10) [.ref a, .int x0, .int x1, .int x2, .ref o] (w ++ oW E o f o2 g) (pR (some (.int (nI 1))) (w ++ oW E o f o2 g)) noX 1 6 := by
  refine ctr_ofH hst (by decide) (Nat.le_of_ble_eq_true rfl) (fun G O OR hN => ?_)
  have O : OKG E G cL_offset RL (rmT 10) (tableOf [(0, 12, 15, 19)]) := O
  have hN : nLG G = 6 := hN
  obtain ⟨g1, g2, g3, g4⟩ := hG
  refine v_aload O dL_offset_0 rfl ?_
  refine v_iconst (v := nI 0) O dL_offset_2 (by decide) ?_
  refine v_aload_n O dL_offset_3 rfl ?_
  refine v_iload_n O dL_offset_4 rfl ?_
  refine v_iload_n O dL_offset_5 rfl ?_
  refine v_iload_n O dL_offset_6 rfl ?_
  refine v_callVJ (wa := []) (wb := oW E o f o2 g) (w := w) (As := [.int x0, .int x1, .int x2]) (st := [.int (nI 0), .ref o]) O dL_offset_7 lkL_50 M 0 he rfl rfl rfl ⟨g1, g2, by show _ ≤ 10; omega, by show _ ≤ 34 * 10; omega, by decide, by decide⟩ (fun _ _ h => False.elim h) (fun X u h => ?_)
  obtain ⟨rfl, rfl⟩ := h
  refine v_catch (pre := []) (x := ⟨0, 12, 15, 19⟩) (suf := []) O rfl (fun z hz => by cases hz) (by decide) (by decide) clL_19 ca_19 (fun q => ?_)
  refine v_cv (pc' := 15) (lv' := lv_args 0 [.ref a, .int x0, .int x1, .int x2, .ref o]) (st' := [.ref q]) (w' := u ++ oW E o f o2 g) ?_
  refine v_astore O dL_offset_15 (by rw [hN]; decide) ?_
  refine v_iconst (v := nI 1) O dL_offset_17 (by decide) ?_
  exact v_ireturn O OR dL_offset_18 ⟨rfl, rfl⟩ (Nat.le_of_ble_eq_true rfl) (Nat.le_of_ble_eq_true rfl)
theorem l_bend {E : ET} {a o o2 : Nat} {w : va_W} {fs : List Value} {f : Nat → Int64} {g : Nat → UInt64} {rx : Room} {PX : Option Value → va_W → Prop} {x : Int32} (hst : E.1.stackTraces = false) (x0 : Int32) (he : w[0]? = some (a, .inr (4, fs))) (hG : Good rx 0 0) (M : Ctr E yX4_bend cdX4_bend rx (.ref a :: [.int x0]) w PX noX 0 0) (hv : ∀ r u, PX r u → r = some (.int x)) : Ctr E yL_bend cdL_bend (rmL 10) [.ref a, .int x0, .ref o] (w ++ oW E o f o2 g) (fun r u => r = some (.int (nI 0)) ∧ ∃ r0 u0, PX r0 u0 ∧ u = u0 ++ oW E o (vp_updL f 0 x.toInt64) o2 g) noX 0 0 := by
  refine ctr_ofH hst (by decide) (Nat.le_of_ble_eq_true rfl) (fun G O OR hN => ?_)
  have O : OKG E G cL_bend RL (rmL 10) (tableOf [(0, 9, 12, 19)]) := O
  have hN : nLG G = 4 := hN
  obtain ⟨g1, g2, g3, g4⟩ := hG
  refine v_aload_n O dL_bend_0 rfl ?_
  refine v_iconst (v := nI 0) O dL_bend_1 (by decide) ?_
  refine v_aload_n O dL_bend_2 rfl ?_
  refine v_iload_n O dL_bend_3 rfl ?_
  refine v_callVJ (wa := []) (wb := oW E o f o2 g) (w := w) (As := [.int x0]) (st := [.int (nI 0), .ref o]) O dL_bend_4 lkL_54 M 0 he rfl rfl rfl ⟨g1, g2, by show _ ≤ 10; omega, by show _ ≤ 34 * 10; omega, by decide, by decide⟩ (fun r u hp => ?_) (fun _ _ h => False.elim h)
  obtain rfl := hv r u hp
  refine v_cv (pc' := 7) (lv' := lv_args 0 [.ref a, .int x0, .ref o]) (st' := [.int x, .int (nI 0), .ref o]) (w' := u ++ oW E o f o2 g) ?_
  refine v_i2l O dL_bend_7 ?_
  refine v_lastO O dL_bend_8 ?_
  refine v_goto (tgt := 15) O dL_bend_9 (by decide) ?_
  refine v_iconst (v := nI 0) O dL_bend_15 (by decide) ?_
  exact v_ireturn O OR dL_bend_16 ⟨rfl, _, u, hp, rfl⟩ (Nat.le_of_ble_eq_true rfl) (Nat.le_of_ble_eq_true rfl)
theorem lx_bend1 {E : ET} {a o o2 : Nat} {w : va_W} {fs : List Value} {f : Nat → Int64} {g : Nat → UInt64} {rx : Room} (hst : E.1.stackTraces = false) (x0 : Int32) (he : w[0]? = some (a, .inr (4, fs))) (hG : Good rx 1 6) (M : Ctr E yX4_bend cdX4_bend rx (.ref a :: [.int x0]) w noR (pX sIOB w) 1 6) : Ctr E yL_bend cdL_bend (rmT 10) [.ref a, .int x0, .ref o] (w ++ oW E o f o2 g) (pR (some (.int (nI 1))) (w ++ oW E o f o2 g)) noX 1 6 := by
  refine ctr_ofH hst (by decide) (Nat.le_of_ble_eq_true rfl) (fun G O OR hN => ?_)
  have O : OKG E G cL_bend RL (rmT 10) (tableOf [(0, 9, 12, 19)]) := O
  have hN : nLG G = 4 := hN
  obtain ⟨g1, g2, g3, g4⟩ := hG
  refine v_aload_n O dL_bend_0 rfl ?_
  refine v_iconst (v := nI 0) O dL_bend_1 (by decide) ?_
  refine v_aload_n O dL_bend_2 rfl ?_
  refine v_iload_n O dL_bend_3 rfl ?_
  refine v_callVJ (wa := []) (wb := oW E o f o2 g) (w := w) (As := [.int x0]) (st := [.int (nI 0), .ref o]) O dL_bend_4 lkL_54 M 0 he rfl rfl rfl ⟨g1, g2, by show _ ≤ 10; omega, by show _ ≤ 34 * 10; omega, by decide, by decide⟩ (fun _ _ h => False.elim h) (fun X u h => ?_)
  obtain ⟨rfl, rfl⟩ := h
  refine v_catch (pre := []) (x := ⟨0, 9, 12, 19⟩) (suf := []) O rfl (fun z hz => by cases hz) (by decide) (by decide) clL_19 ca_19 (fun q => ?_)
  refine v_cv (pc' := 12) (lv' := lv_args 0 [.ref a, .int x0, .ref o]) (st' := [.ref q]) (w' := u ++ oW E o f o2 g) ?_
  refine v_astore_n O dL_bend_12 (by rw [hN]; decide) ?_
  refine v_iconst (v := nI 1) O dL_bend_13 (by decide) ?_
  exact v_ireturn O OR dL_bend_14 ⟨rfl, rfl⟩ (Nat.le_of_ble_eq_true rfl) (Nat.le_of_ble_eq_true rfl)
theorem l_lineSum {E : ET} {a o o2 : Nat} {w : va_W} {fs : List Value} {f : Nat → Int64} {g : Nat → UInt64} {rx : Room} {PX : Option Value → va_W → Prop} {x : Int32} (hst : E.1.stackTraces = false) (x0 : Int32) (x1 : Int32) (x2 : Int32) (he : w[0]? = some (a, .inr (4, fs))) (hG : Good rx 0 0) (M : Ctr E yX4_lineSum cdX4_lineSum rx (.ref a :: [.int x0, .int x1, .int x2]) w PX noX 0 0) (hv : ∀ r u, PX r u → r = some (.int x)) : Ctr E yL_lineSum cdL_lineSum (rmL 10) [.ref a, .int x0, .int x1, .int x2, .ref o] (w ++ oW E o f o2 g) (fun r u => r = some (.int (nI 0)) ∧ ∃ r0 u0, PX r0 u0 ∧ u = u0 ++ oW E o (vp_updL f 0 x.toInt64) o2 g) noX 0 0 := by
  refine ctr_ofH hst (by decide) (Nat.le_of_ble_eq_true rfl) (fun G O OR hN => ?_)
  have O : OKG E G cL_lineSum RL (rmL 10) (tableOf [(0, 12, 15, 19)]) := O
  have hN : nLG G = 6 := hN
  obtain ⟨g1, g2, g3, g4⟩ := hG
  refine v_aload O dL_lineSum_0 rfl ?_
  refine v_iconst (v := nI 0) O dL_lineSum_2 (by decide) ?_
  refine v_aload_n O dL_lineSum_3 rfl ?_
  refine v_iload_n O dL_lineSum_4 rfl ?_
  refine v_iload_n O dL_lineSum_5 rfl ?_
  refine v_iload_n O dL_lineSum_6 rfl ?_
  refine v_callVJ (wa := []) (wb := oW E o f o2 g) (w := w) (As := [.int x0, .int x1, .int x2]) (st := [.int (nI 0), .ref o]) O dL_lineSum_7 lkL_57 M 0 he rfl rfl rfl ⟨g1, g2, by show _ ≤ 10; omega, by show _ ≤ 34 * 10; omega, by decide, by decide⟩ (fun r u hp => ?_) (fun _ _ h => False.elim h)
  obtain rfl := hv r u hp
  refine v_cv (pc' := 10) (lv' := lv_args 0 [.ref a, .int x0, .int x1, .int x2, .ref o]) (st' := [.int x, .int (nI 0), .ref o]) (w' := u ++ oW E o f o2 g) ?_
  refine v_i2l O dL_lineSum_10 ?_
  refine v_lastO O dL_lineSum_11 ?_
  refine v_goto (tgt := 19) O dL_lineSum_12 (by decide) ?_
  refine v_iconst (v := nI 0) O dL_lineSum_19 (by decide) ?_
  exact v_ireturn O OR dL_lineSum_20 ⟨rfl, _, u, hp, rfl⟩ (Nat.le_of_ble_eq_true rfl) (Nat.le_of_ble_eq_true rfl)
theorem lx_lineSum1 {E : ET} {a o o2 : Nat} {w : va_W} {fs : List Value} {f : Nat → Int64} {g : Nat → UInt64} {rx : Room} (hst : E.1.stackTraces = false) (x0 : Int32) (x1 : Int32) (x2 : Int32) (he : w[0]? = some (a, .inr (4, fs))) (hG : Good rx 1 6) (M : Ctr E yX4_lineSum cdX4_lineSum rx (.ref a :: [.int x0, .int x1, .int x2]) w noR (pX sIOB w) 1 6) : Ctr E yL_lineSum cdL_lineSum (rmT 10) [.ref a, .int x0, .int x1, .int x2, .ref o] (w ++ oW E o f o2 g) (pR (some (.int (nI 1))) (w ++ oW E o f o2 g)) noX 1 6 := by
  refine ctr_ofH hst (by decide) (Nat.le_of_ble_eq_true rfl) (fun G O OR hN => ?_)
  have O : OKG E G cL_lineSum RL (rmT 10) (tableOf [(0, 12, 15, 19)]) := O
  have hN : nLG G = 6 := hN
  obtain ⟨g1, g2, g3, g4⟩ := hG
  refine v_aload O dL_lineSum_0 rfl ?_
  refine v_iconst (v := nI 0) O dL_lineSum_2 (by decide) ?_
  refine v_aload_n O dL_lineSum_3 rfl ?_
  refine v_iload_n O dL_lineSum_4 rfl ?_
  refine v_iload_n O dL_lineSum_5 rfl ?_
  refine v_iload_n O dL_lineSum_6 rfl ?_
  refine v_callVJ (wa := []) (wb := oW E o f o2 g) (w := w) (As := [.int x0, .int x1, .int x2]) (st := [.int (nI 0), .ref o]) O dL_lineSum_7 lkL_57 M 0 he rfl rfl rfl ⟨g1, g2, by show _ ≤ 10; omega, by show _ ≤ 34 * 10; omega, by decide, by decide⟩ (fun _ _ h => False.elim h) (fun X u h => ?_)
  obtain ⟨rfl, rfl⟩ := h
  refine v_catch (pre := []) (x := ⟨0, 12, 15, 19⟩) (suf := []) O rfl (fun z hz => by cases hz) (by decide) (by decide) clL_19 ca_19 (fun q => ?_)
  refine v_cv (pc' := 15) (lv' := lv_args 0 [.ref a, .int x0, .int x1, .int x2, .ref o]) (st' := [.ref q]) (w' := u ++ oW E o f o2 g) ?_
  refine v_astore O dL_lineSum_15 (by rw [hN]; decide) ?_
  refine v_iconst (v := nI 1) O dL_lineSum_17 (by decide) ?_
  exact v_ireturn O OR dL_lineSum_18 ⟨rfl, rfl⟩ (Nat.le_of_ble_eq_true rfl) (Nat.le_of_ble_eq_true rfl)
theorem l_mean {E : ET} {a o o2 : Nat} {w : va_W} {fs : List Value} {f : Nat → Int64} {g : Nat → UInt64} {rx : Room} {PX : Option Value → va_W → Prop} {x : UInt64} (hst : E.1.stackTraces = false) (x0 : Int32) (he : w[0]? = some (a, .inr (4, fs))) (hG : Good rx 0 0) (M : Ctr E yX4_mean cdX4_mean rx (.ref a :: [.int x0]) w PX noX 0 0) (hv : ∀ r u, PX r u → r = some (.double x)) : Ctr E yL_mean cdL_mean (rmL 10) [.ref a, .int x0, .ref o2] (w ++ oW E o f o2 g) (fun r u => r = some (.int (nI 0)) ∧ ∃ r0 u0, PX r0 u0 ∧ u = u0 ++ oW E o f o2 (vf_upd g 0 x)) noX 0 0 := by
  refine ctr_ofH hst (by decide) (Nat.le_of_ble_eq_true rfl) (fun G O OR hN => ?_)
  have O : OKG E G cL_mean RL (rmL 10) (tableOf [(0, 8, 11, 19)]) := O
  have hN : nLG G = 4 := hN
  obtain ⟨g1, g2, g3, g4⟩ := hG
  refine v_aload_n O dL_mean_0 rfl ?_
  refine v_iconst (v := nI 0) O dL_mean_1 (by decide) ?_
  refine v_aload_n O dL_mean_2 rfl ?_
  refine v_iload_n O dL_mean_3 rfl ?_
  refine v_callVJ (wa := []) (wb := oW E o f o2 g) (w := w) (As := [.int x0]) (st := [.int (nI 0), .ref o2]) O dL_mean_4 lkL_60 M 0 he rfl rfl rfl ⟨g1, g2, by show _ ≤ 10; omega, by show _ ≤ 34 * 10; omega, by decide, by decide⟩ (fun r u hp => ?_) (fun _ _ h => False.elim h)
  obtain rfl := hv r u hp
  refine v_cv (pc' := 7) (lv' := lv_args 0 [.ref a, .int x0, .ref o2]) (st' := [.double x, .int (nI 0), .ref o2]) (w' := u ++ oW E o f o2 g) ?_
  refine v_dastO O dL_mean_7 ?_
  refine v_goto (tgt := 14) O dL_mean_8 (by decide) ?_
  refine v_iconst (v := nI 0) O dL_mean_14 (by decide) ?_
  exact v_ireturn O OR dL_mean_15 ⟨rfl, _, u, hp, rfl⟩ (Nat.le_of_ble_eq_true rfl) (Nat.le_of_ble_eq_true rfl)
theorem lx_mean1 {E : ET} {a o o2 : Nat} {w : va_W} {fs : List Value} {f : Nat → Int64} {g : Nat → UInt64} {rx : Room} (hst : E.1.stackTraces = false) (x0 : Int32) (he : w[0]? = some (a, .inr (4, fs))) (hG : Good rx 1 6) (M : Ctr E yX4_mean cdX4_mean rx (.ref a :: [.int x0]) w noR (pX sIOB w) 1 6) : Ctr E yL_mean cdL_mean (rmT 10) [.ref a, .int x0, .ref o2] (w ++ oW E o f o2 g) (pR (some (.int (nI 1))) (w ++ oW E o f o2 g)) noX 1 6 := by
  refine ctr_ofH hst (by decide) (Nat.le_of_ble_eq_true rfl) (fun G O OR hN => ?_)
  have O : OKG E G cL_mean RL (rmT 10) (tableOf [(0, 8, 11, 19)]) := O
  have hN : nLG G = 4 := hN
  obtain ⟨g1, g2, g3, g4⟩ := hG
  refine v_aload_n O dL_mean_0 rfl ?_
  refine v_iconst (v := nI 0) O dL_mean_1 (by decide) ?_
  refine v_aload_n O dL_mean_2 rfl ?_
  refine v_iload_n O dL_mean_3 rfl ?_
  refine v_callVJ (wa := []) (wb := oW E o f o2 g) (w := w) (As := [.int x0]) (st := [.int (nI 0), .ref o2]) O dL_mean_4 lkL_60 M 0 he rfl rfl rfl ⟨g1, g2, by show _ ≤ 10; omega, by show _ ≤ 34 * 10; omega, by decide, by decide⟩ (fun _ _ h => False.elim h) (fun X u h => ?_)
  obtain ⟨rfl, rfl⟩ := h
  refine v_catch (pre := []) (x := ⟨0, 8, 11, 19⟩) (suf := []) O rfl (fun z hz => by cases hz) (by decide) (by decide) clL_19 ca_19 (fun q => ?_)
  refine v_cv (pc' := 11) (lv' := lv_args 0 [.ref a, .int x0, .ref o2]) (st' := [.ref q]) (w' := u ++ oW E o f o2 g) ?_
  refine v_astore_n O dL_mean_11 (by rw [hN]; decide) ?_
  refine v_iconst (v := nI 1) O dL_mean_12 (by decide) ?_
  exact v_ireturn O OR dL_mean_13 ⟨rfl, rfl⟩ (Nat.le_of_ble_eq_true rfl) (Nat.le_of_ble_eq_true rfl)
theorem l_boxSum {E : ET} {a o o2 : Nat} {w : va_W} {fs : List Value} {f : Nat → Int64} {g : Nat → UInt64} {rx : Room} {PX : Option Value → va_W → Prop} {x : Int32} (hst : E.1.stackTraces = false) (x0 : Int32) (x1 : Int32) (x2 : Int32) (he : w[0]? = some (a, .inr (4, fs))) (hG : Good rx 0 0) (M : Ctr E yX4_boxSum cdX4_boxSum rx (.ref a :: [.int x0, .int x1, .int x2]) w PX noX 0 0) (hv : ∀ r u, PX r u → r = some (.int x)) : Ctr E yL_boxSum cdL_boxSum (rmL 10) [.ref a, .int x0, .int x1, .int x2, .ref o] (w ++ oW E o f o2 g) (fun r u => r = some (.int (nI 0)) ∧ ∃ r0 u0, PX r0 u0 ∧ u = u0 ++ oW E o (vp_updL f 0 x.toInt64) o2 g) noX 0 0 := by
  refine ctr_ofH hst (by decide) (Nat.le_of_ble_eq_true rfl) (fun G O OR hN => ?_)
  have O : OKG E G cL_boxSum RL (rmL 10) (tableOf [(0, 12, 15, 13), (0, 12, 19, 19)]) := O
  have hN : nLG G = 6 := hN
  obtain ⟨g1, g2, g3, g4⟩ := hG
  refine v_aload O dL_boxSum_0 rfl ?_
  refine v_iconst (v := nI 0) O dL_boxSum_2 (by decide) ?_
  refine v_aload_n O dL_boxSum_3 rfl ?_
  refine v_iload_n O dL_boxSum_4 rfl ?_
  refine v_iload_n O dL_boxSum_5 rfl ?_
  refine v_iload_n O dL_boxSum_6 rfl ?_
  refine v_callVJ (wa := []) (wb := oW E o f o2 g) (w := w) (As := [.int x0, .int x1, .int x2]) (st := [.int (nI 0), .ref o]) O dL_boxSum_7 lkL_64 M 0 he rfl rfl rfl ⟨g1, g2, by show _ ≤ 10; omega, by show _ ≤ 34 * 10; omega, by decide, by decide⟩ (fun r u hp => ?_) (fun _ _ h => False.elim h)
  obtain rfl := hv r u hp
  refine v_cv (pc' := 10) (lv' := lv_args 0 [.ref a, .int x0, .int x1, .int x2, .ref o]) (st' := [.int x, .int (nI 0), .ref o]) (w' := u ++ oW E o f o2 g) ?_
  refine v_i2l O dL_boxSum_10 ?_
  refine v_lastO O dL_boxSum_11 ?_
  refine v_goto (tgt := 23) O dL_boxSum_12 (by decide) ?_
  refine v_iconst (v := nI 0) O dL_boxSum_23 (by decide) ?_
  exact v_ireturn O OR dL_boxSum_24 ⟨rfl, _, u, hp, rfl⟩ (Nat.le_of_ble_eq_true rfl) (Nat.le_of_ble_eq_true rfl)
theorem lx_boxSum1 {E : ET} {a o o2 : Nat} {w : va_W} {fs : List Value} {f : Nat → Int64} {g : Nat → UInt64} {rx : Room} (hst : E.1.stackTraces = false) (x0 : Int32) (x1 : Int32) (x2 : Int32) (he : w[0]? = some (a, .inr (4, fs))) (hG : Good rx 1 6) (M : Ctr E yX4_boxSum cdX4_boxSum rx (.ref a :: [.int x0, .int x1, .int x2]) w noR (pX sIAE w) 1 6) : Ctr E yL_boxSum cdL_boxSum (rmT 10) [.ref a, .int x0, .int x1, .int x2, .ref o] (w ++ oW E o f o2 g) (pR (some (.int (nI 1))) (w ++ oW E o f o2 g)) noX 1 6 := by
  refine ctr_ofH hst (by decide) (Nat.le_of_ble_eq_true rfl) (fun G O OR hN => ?_)
  have O : OKG E G cL_boxSum RL (rmT 10) (tableOf [(0, 12, 15, 13), (0, 12, 19, 19)]) := O
  have hN : nLG G = 6 := hN
  obtain ⟨g1, g2, g3, g4⟩ := hG
  refine v_aload O dL_boxSum_0 rfl ?_
  refine v_iconst (v := nI 0) O dL_boxSum_2 (by decide) ?_
  refine v_aload_n O dL_boxSum_3 rfl ?_
  refine v_iload_n O dL_boxSum_4 rfl ?_
  refine v_iload_n O dL_boxSum_5 rfl ?_
  refine v_iload_n O dL_boxSum_6 rfl ?_
  refine v_callVJ (wa := []) (wb := oW E o f o2 g) (w := w) (As := [.int x0, .int x1, .int x2]) (st := [.int (nI 0), .ref o]) O dL_boxSum_7 lkL_64 M 0 he rfl rfl rfl ⟨g1, g2, by show _ ≤ 10; omega, by show _ ≤ 34 * 10; omega, by decide, by decide⟩ (fun _ _ h => False.elim h) (fun X u h => ?_)
  obtain ⟨rfl, rfl⟩ := h
  refine v_catch (pre := []) (x := ⟨0, 12, 15, 13⟩) (suf := [⟨0, 12, 19, 19⟩]) O rfl (fun z hz => by cases hz) (by decide) (by decide) clL_13 ca_13 (fun q => ?_)
  refine v_cv (pc' := 15) (lv' := lv_args 0 [.ref a, .int x0, .int x1, .int x2, .ref o]) (st' := [.ref q]) (w' := u ++ oW E o f o2 g) ?_
  refine v_astore O dL_boxSum_15 (by rw [hN]; decide) ?_
  refine v_iconst (v := nI 1) O dL_boxSum_17 (by decide) ?_
  exact v_ireturn O OR dL_boxSum_18 ⟨rfl, rfl⟩ (Nat.le_of_ble_eq_true rfl) (Nat.le_of_ble_eq_true rfl)
theorem lx_boxSum2 {E : ET} {a o o2 : Nat} {w : va_W} {fs : List Value} {f : Nat → Int64} {g : Nat → UInt64} {rx : Room} (hst : E.1.stackTraces = false) (x0 : Int32) (x1 : Int32) (x2 : Int32) (he : w[0]? = some (a, .inr (4, fs))) (hG : Good rx 1 6) (M : Ctr E yX4_boxSum cdX4_boxSum rx (.ref a :: [.int x0, .int x1, .int x2]) w noR (pX sIOB w) 1 6) : Ctr E yL_boxSum cdL_boxSum (rmT 10) [.ref a, .int x0, .int x1, .int x2, .ref o] (w ++ oW E o f o2 g) (pR (some (.int (nI 2))) (w ++ oW E o f o2 g)) noX 1 6 := by
  refine ctr_ofH hst (by decide) (Nat.le_of_ble_eq_true rfl) (fun G O OR hN => ?_)
  have O : OKG E G cL_boxSum RL (rmT 10) (tableOf [(0, 12, 15, 13), (0, 12, 19, 19)]) := O
  have hN : nLG G = 6 := hN
  obtain ⟨g1, g2, g3, g4⟩ := hG
  refine v_aload O dL_boxSum_0 rfl ?_
  refine v_iconst (v := nI 0) O dL_boxSum_2 (by decide) ?_
  refine v_aload_n O dL_boxSum_3 rfl ?_
  refine v_iload_n O dL_boxSum_4 rfl ?_
  refine v_iload_n O dL_boxSum_5 rfl ?_
  refine v_iload_n O dL_boxSum_6 rfl ?_
  refine v_callVJ (wa := []) (wb := oW E o f o2 g) (w := w) (As := [.int x0, .int x1, .int x2]) (st := [.int (nI 0), .ref o]) O dL_boxSum_7 lkL_64 M 0 he rfl rfl rfl ⟨g1, g2, by show _ ≤ 10; omega, by show _ ≤ 34 * 10; omega, by decide, by decide⟩ (fun _ _ h => False.elim h) (fun X u h => ?_)
  obtain ⟨rfl, rfl⟩ := h
  refine v_catch (pre := [⟨0, 12, 15, 13⟩]) (x := ⟨0, 12, 19, 19⟩) (suf := []) O rfl (fun z hz => by rw [List.mem_singleton.mp hz]; exact ⟨by decide, _, clL_13, by decide⟩) (by decide) (by decide) clL_19 ca_19 (fun q => ?_)
  refine v_cv (pc' := 19) (lv' := lv_args 0 [.ref a, .int x0, .int x1, .int x2, .ref o]) (st' := [.ref q]) (w' := u ++ oW E o f o2 g) ?_
  refine v_astore O dL_boxSum_19 (by rw [hN]; decide) ?_
  refine v_iconst (v := nI 2) O dL_boxSum_21 (by decide) ?_
  exact v_ireturn O OR dL_boxSum_22 ⟨rfl, rfl⟩ (Nat.le_of_ble_eq_true rfl) (Nat.le_of_ble_eq_true rfl)
theorem l_score {E : ET} {a o o2 : Nat} {w : va_W} {fs : List Value} {f : Nat → Int64} {g : Nat → UInt64} {rx : Room} {PX : Option Value → va_W → Prop} {x : Int64} (hst : E.1.stackTraces = false) (x0 : Int32) (x1 : Int32) (x2 : Int32) (he : w[0]? = some (a, .inr (4, fs))) (hG : Good rx 0 0) (M : Ctr E yX4_score cdX4_score rx (.ref a :: [.int x0, .int x1, .int x2]) w PX noX 0 0) (hv : ∀ r u, PX r u → r = some (.long x)) : Ctr E yL_score cdL_score (rmL 10) [.ref a, .int x0, .int x1, .int x2, .ref o] (w ++ oW E o f o2 g) (fun r u => r = some (.int (nI 0)) ∧ ∃ r0 u0, PX r0 u0 ∧ u = u0 ++ oW E o (vp_updL f 0 x) o2 g) noX 0 0 := by
  refine ctr_ofH hst (by decide) (Nat.le_of_ble_eq_true rfl) (fun G O OR hN => ?_)
  have O : OKG E G cL_score RL (rmL 10) (tableOf [(0, 11, 14, 13), (0, 11, 18, 19)]) := O
  have hN : nLG G = 6 := hN
  obtain ⟨g1, g2, g3, g4⟩ := hG
  refine v_aload O dL_score_0 rfl ?_
  refine v_iconst (v := nI 0) O dL_score_2 (by decide) ?_
  refine v_aload_n O dL_score_3 rfl ?_
  refine v_iload_n O dL_score_4 rfl ?_
  refine v_iload_n O dL_score_5 rfl ?_
  refine v_iload_n O dL_score_6 rfl ?_
  refine v_callVJ (wa := []) (wb := oW E o f o2 g) (w := w) (As := [.int x0, .int x1, .int x2]) (st := [.int (nI 0), .ref o]) O dL_score_7 lkL_67 M 0 he rfl rfl rfl ⟨g1, g2, by show _ ≤ 10; omega, by show _ ≤ 34 * 10; omega, by decide, by decide⟩ (fun r u hp => ?_) (fun _ _ h => False.elim h)
  obtain rfl := hv r u hp
  refine v_cv (pc' := 10) (lv' := lv_args 0 [.ref a, .int x0, .int x1, .int x2, .ref o]) (st' := [.long x, .int (nI 0), .ref o]) (w' := u ++ oW E o f o2 g) ?_
  refine v_lastO O dL_score_10 ?_
  refine v_goto (tgt := 22) O dL_score_11 (by decide) ?_
  refine v_iconst (v := nI 0) O dL_score_22 (by decide) ?_
  exact v_ireturn O OR dL_score_23 ⟨rfl, _, u, hp, rfl⟩ (Nat.le_of_ble_eq_true rfl) (Nat.le_of_ble_eq_true rfl)
theorem lx_score1 {E : ET} {a o o2 : Nat} {w : va_W} {fs : List Value} {f : Nat → Int64} {g : Nat → UInt64} {rx : Room} (hst : E.1.stackTraces = false) (x0 : Int32) (x1 : Int32) (x2 : Int32) (he : w[0]? = some (a, .inr (4, fs))) (hG : Good rx 1 6) (M : Ctr E yX4_score cdX4_score rx (.ref a :: [.int x0, .int x1, .int x2]) w noR (pX sIAE w) 1 6) : Ctr E yL_score cdL_score (rmT 10) [.ref a, .int x0, .int x1, .int x2, .ref o] (w ++ oW E o f o2 g) (pR (some (.int (nI 1))) (w ++ oW E o f o2 g)) noX 1 6 := by
  refine ctr_ofH hst (by decide) (Nat.le_of_ble_eq_true rfl) (fun G O OR hN => ?_)
  have O : OKG E G cL_score RL (rmT 10) (tableOf [(0, 11, 14, 13), (0, 11, 18, 19)]) := O
  have hN : nLG G = 6 := hN
  obtain ⟨g1, g2, g3, g4⟩ := hG
  refine v_aload O dL_score_0 rfl ?_
  refine v_iconst (v := nI 0) O dL_score_2 (by decide) ?_
  refine v_aload_n O dL_score_3 rfl ?_
  refine v_iload_n O dL_score_4 rfl ?_
  refine v_iload_n O dL_score_5 rfl ?_
  refine v_iload_n O dL_score_6 rfl ?_
  refine v_callVJ (wa := []) (wb := oW E o f o2 g) (w := w) (As := [.int x0, .int x1, .int x2]) (st := [.int (nI 0), .ref o]) O dL_score_7 lkL_67 M 0 he rfl rfl rfl ⟨g1, g2, by show _ ≤ 10; omega, by show _ ≤ 34 * 10; omega, by decide, by decide⟩ (fun _ _ h => False.elim h) (fun X u h => ?_)
  obtain ⟨rfl, rfl⟩ := h
  refine v_catch (pre := []) (x := ⟨0, 11, 14, 13⟩) (suf := [⟨0, 11, 18, 19⟩]) O rfl (fun z hz => by cases hz) (by decide) (by decide) clL_13 ca_13 (fun q => ?_)
  refine v_cv (pc' := 14) (lv' := lv_args 0 [.ref a, .int x0, .int x1, .int x2, .ref o]) (st' := [.ref q]) (w' := u ++ oW E o f o2 g) ?_
  refine v_astore O dL_score_14 (by rw [hN]; decide) ?_
  refine v_iconst (v := nI 1) O dL_score_16 (by decide) ?_
  exact v_ireturn O OR dL_score_17 ⟨rfl, rfl⟩ (Nat.le_of_ble_eq_true rfl) (Nat.le_of_ble_eq_true rfl)
theorem lx_score2 {E : ET} {a o o2 : Nat} {w : va_W} {fs : List Value} {f : Nat → Int64} {g : Nat → UInt64} {rx : Room} (hst : E.1.stackTraces = false) (x0 : Int32) (x1 : Int32) (x2 : Int32) (he : w[0]? = some (a, .inr (4, fs))) (hG : Good rx 1 6) (M : Ctr E yX4_score cdX4_score rx (.ref a :: [.int x0, .int x1, .int x2]) w noR (pX sIOB w) 1 6) : Ctr E yL_score cdL_score (rmT 10) [.ref a, .int x0, .int x1, .int x2, .ref o] (w ++ oW E o f o2 g) (pR (some (.int (nI 2))) (w ++ oW E o f o2 g)) noX 1 6 := by
  refine ctr_ofH hst (by decide) (Nat.le_of_ble_eq_true rfl) (fun G O OR hN => ?_)
  have O : OKG E G cL_score RL (rmT 10) (tableOf [(0, 11, 14, 13), (0, 11, 18, 19)]) := O
  have hN : nLG G = 6 := hN
  obtain ⟨g1, g2, g3, g4⟩ := hG
  refine v_aload O dL_score_0 rfl ?_
  refine v_iconst (v := nI 0) O dL_score_2 (by decide) ?_
  refine v_aload_n O dL_score_3 rfl ?_
  refine v_iload_n O dL_score_4 rfl ?_
  refine v_iload_n O dL_score_5 rfl ?_
  refine v_iload_n O dL_score_6 rfl ?_
  refine v_callVJ (wa := []) (wb := oW E o f o2 g) (w := w) (As := [.int x0, .int x1, .int x2]) (st := [.int (nI 0), .ref o]) O dL_score_7 lkL_67 M 0 he rfl rfl rfl ⟨g1, g2, by show _ ≤ 10; omega, by show _ ≤ 34 * 10; omega, by decide, by decide⟩ (fun _ _ h => False.elim h) (fun X u h => ?_)
  obtain ⟨rfl, rfl⟩ := h
  refine v_catch (pre := [⟨0, 11, 14, 13⟩]) (x := ⟨0, 11, 18, 19⟩) (suf := []) O rfl (fun z hz => by rw [List.mem_singleton.mp hz]; exact ⟨by decide, _, clL_13, by decide⟩) (by decide) (by decide) clL_19 ca_19 (fun q => ?_)
  refine v_cv (pc' := 18) (lv' := lv_args 0 [.ref a, .int x0, .int x1, .int x2, .ref o]) (st' := [.ref q]) (w' := u ++ oW E o f o2 g) ?_
  refine v_astore O dL_score_18 (by rw [hN]; decide) ?_
  refine v_iconst (v := nI 2) O dL_score_20 (by decide) ?_
  exact v_ireturn O OR dL_score_21 ⟨rfl, rfl⟩ (Nat.le_of_ble_eq_true rfl) (Nat.le_of_ble_eq_true rfl)
theorem l_find {E : ET} {a o o2 : Nat} {w : va_W} {fs : List Value} {f : Nat → Int64} {g : Nat → UInt64} {rx : Room} {PX : Option Value → va_W → Prop} {x : Int32} (hst : E.1.stackTraces = false) (x0 : Int64) (x1 : Int32) (he : w[0]? = some (a, .inr (4, fs))) (hG : Good rx 0 0) (M : Ctr E yX4_find cdX4_find rx (.ref a :: [.long x0, .int x1]) w PX noX 0 0) (hv : ∀ r u, PX r u → r = some (.int x)) : Ctr E yL_find cdL_find (rmL 10) [.ref a, .long x0, .int x1, .ref o] (w ++ oW E o f o2 g) (fun r u => r = some (.int (nI 0)) ∧ ∃ r0 u0, PX r0 u0 ∧ u = u0 ++ oW E o (vp_updL f 0 x.toInt64) o2 g) noX 0 0 := by
  refine ctr_ofH hst (by decide) (Nat.le_of_ble_eq_true rfl) (fun G O OR hN => ?_)
  have O : OKG E G cL_find RL (rmL 10) (tableOf [(0, 11, 14, 13)]) := O
  have hN : nLG G = 6 := hN
  obtain ⟨g1, g2, g3, g4⟩ := hG
  refine v_aload O dL_find_0 rfl ?_
  refine v_iconst (v := nI 0) O dL_find_2 (by decide) ?_
  refine v_aload_n O dL_find_3 rfl ?_
  refine v_lload_n O dL_find_4 rfl ?_
  refine v_iload_n O dL_find_5 rfl ?_
  refine v_callVJ (wa := []) (wb := oW E o f o2 g) (w := w) (As := [.long x0, .int x1]) (st := [.int (nI 0), .ref o]) O dL_find_6 lkL_71 M 0 he rfl rfl rfl ⟨g1, g2, by show _ ≤ 10; omega, by show _ ≤ 34 * 10; omega, by decide, by decide⟩ (fun r u hp => ?_) (fun _ _ h => False.elim h)
  obtain rfl := hv r u hp
  refine v_cv (pc' := 9) (lv' := lv_args 0 [.ref a, .long x0, .int x1, .ref o]) (st' := [.int x, .int (nI 0), .ref o]) (w' := u ++ oW E o f o2 g) ?_
  refine v_i2l O dL_find_9 ?_
  refine v_lastO O dL_find_10 ?_
  refine v_goto (tgt := 18) O dL_find_11 (by decide) ?_
  refine v_iconst (v := nI 0) O dL_find_18 (by decide) ?_
  exact v_ireturn O OR dL_find_19 ⟨rfl, _, u, hp, rfl⟩ (Nat.le_of_ble_eq_true rfl) (Nat.le_of_ble_eq_true rfl)
theorem lx_find1 {E : ET} {a o o2 : Nat} {w : va_W} {fs : List Value} {f : Nat → Int64} {g : Nat → UInt64} {rx : Room} (hst : E.1.stackTraces = false) (x0 : Int64) (x1 : Int32) (he : w[0]? = some (a, .inr (4, fs))) (hG : Good rx 1 6) (M : Ctr E yX4_find cdX4_find rx (.ref a :: [.long x0, .int x1]) w noR (pX sIAE w) 1 6) : Ctr E yL_find cdL_find (rmT 10) [.ref a, .long x0, .int x1, .ref o] (w ++ oW E o f o2 g) (pR (some (.int (nI 1))) (w ++ oW E o f o2 g)) noX 1 6 := by
  refine ctr_ofH hst (by decide) (Nat.le_of_ble_eq_true rfl) (fun G O OR hN => ?_)
  have O : OKG E G cL_find RL (rmT 10) (tableOf [(0, 11, 14, 13)]) := O
  have hN : nLG G = 6 := hN
  obtain ⟨g1, g2, g3, g4⟩ := hG
  refine v_aload O dL_find_0 rfl ?_
  refine v_iconst (v := nI 0) O dL_find_2 (by decide) ?_
  refine v_aload_n O dL_find_3 rfl ?_
  refine v_lload_n O dL_find_4 rfl ?_
  refine v_iload_n O dL_find_5 rfl ?_
  refine v_callVJ (wa := []) (wb := oW E o f o2 g) (w := w) (As := [.long x0, .int x1]) (st := [.int (nI 0), .ref o]) O dL_find_6 lkL_71 M 0 he rfl rfl rfl ⟨g1, g2, by show _ ≤ 10; omega, by show _ ≤ 34 * 10; omega, by decide, by decide⟩ (fun _ _ h => False.elim h) (fun X u h => ?_)
  obtain ⟨rfl, rfl⟩ := h
  refine v_catch (pre := []) (x := ⟨0, 11, 14, 13⟩) (suf := []) O rfl (fun z hz => by cases hz) (by decide) (by decide) clL_13 ca_13 (fun q => ?_)
  refine v_cv (pc' := 14) (lv' := lv_args 0 [.ref a, .long x0, .int x1, .ref o]) (st' := [.ref q]) (w' := u ++ oW E o f o2 g) ?_
  refine v_astore O dL_find_14 (by rw [hN]; decide) ?_
  refine v_iconst (v := nI 1) O dL_find_16 (by decide) ?_
  exact v_ireturn O OR dL_find_17 ⟨rfl, rfl⟩ (Nat.le_of_ble_eq_true rfl) (Nat.le_of_ble_eq_true rfl)
theorem l_candidate {E : ET} {a o o2 : Nat} {w : va_W} {fs : List Value} {f : Nat → Int64} {g : Nat → UInt64} {rx : Room} {PX : Option Value → va_W → Prop} {x : Int64} (hst : E.1.stackTraces = false) (x0 : Int32) (x1 : Int32) (he : w[0]? = some (a, .inr (4, fs))) (hG : Good rx 0 0) (M : Ctr E yX4_candidate cdX4_candidate rx (.ref a :: [.int x0, .int x1]) w PX noX 0 0) (hv : ∀ r u, PX r u → r = some (.long x)) : Ctr E yL_candidate cdL_candidate (rmL 10) [.ref a, .int x0, .int x1, .ref o] (w ++ oW E o f o2 g) (fun r u => r = some (.int (nI 0)) ∧ ∃ r0 u0, PX r0 u0 ∧ u = u0 ++ oW E o (vp_updL f 0 x) o2 g) noX 0 0 := by
  refine ctr_ofH hst (by decide) (Nat.le_of_ble_eq_true rfl) (fun G O OR hN => ?_)
  have O : OKG E G cL_candidate RL (rmL 10) (tableOf [(0, 9, 12, 19), (0, 9, 16, 13)]) := O
  have hN : nLG G = 5 := hN
  obtain ⟨g1, g2, g3, g4⟩ := hG
  refine v_aload_n O dL_candidate_0 rfl ?_
  refine v_iconst (v := nI 0) O dL_candidate_1 (by decide) ?_
  refine v_aload_n O dL_candidate_2 rfl ?_
  refine v_iload_n O dL_candidate_3 rfl ?_
  refine v_iload_n O dL_candidate_4 rfl ?_
  refine v_callVJ (wa := []) (wb := oW E o f o2 g) (w := w) (As := [.int x0, .int x1]) (st := [.int (nI 0), .ref o]) O dL_candidate_5 lkL_75 M 0 he rfl rfl rfl ⟨g1, g2, by show _ ≤ 10; omega, by show _ ≤ 34 * 10; omega, by decide, by decide⟩ (fun r u hp => ?_) (fun _ _ h => False.elim h)
  obtain rfl := hv r u hp
  refine v_cv (pc' := 8) (lv' := lv_args 0 [.ref a, .int x0, .int x1, .ref o]) (st' := [.long x, .int (nI 0), .ref o]) (w' := u ++ oW E o f o2 g) ?_
  refine v_lastO O dL_candidate_8 ?_
  refine v_goto (tgt := 20) O dL_candidate_9 (by decide) ?_
  refine v_iconst (v := nI 0) O dL_candidate_20 (by decide) ?_
  exact v_ireturn O OR dL_candidate_21 ⟨rfl, _, u, hp, rfl⟩ (Nat.le_of_ble_eq_true rfl) (Nat.le_of_ble_eq_true rfl)
theorem lx_candidate1 {E : ET} {a o o2 : Nat} {w : va_W} {fs : List Value} {f : Nat → Int64} {g : Nat → UInt64} {rx : Room} (hst : E.1.stackTraces = false) (x0 : Int32) (x1 : Int32) (he : w[0]? = some (a, .inr (4, fs))) (hG : Good rx 1 6) (M : Ctr E yX4_candidate cdX4_candidate rx (.ref a :: [.int x0, .int x1]) w noR (pX sIOB w) 1 6) : Ctr E yL_candidate cdL_candidate (rmT 10) [.ref a, .int x0, .int x1, .ref o] (w ++ oW E o f o2 g) (pR (some (.int (nI 1))) (w ++ oW E o f o2 g)) noX 1 6 := by
  refine ctr_ofH hst (by decide) (Nat.le_of_ble_eq_true rfl) (fun G O OR hN => ?_)
  have O : OKG E G cL_candidate RL (rmT 10) (tableOf [(0, 9, 12, 19), (0, 9, 16, 13)]) := O
  have hN : nLG G = 5 := hN
  obtain ⟨g1, g2, g3, g4⟩ := hG
  refine v_aload_n O dL_candidate_0 rfl ?_
  refine v_iconst (v := nI 0) O dL_candidate_1 (by decide) ?_
  refine v_aload_n O dL_candidate_2 rfl ?_
  refine v_iload_n O dL_candidate_3 rfl ?_
  refine v_iload_n O dL_candidate_4 rfl ?_
  refine v_callVJ (wa := []) (wb := oW E o f o2 g) (w := w) (As := [.int x0, .int x1]) (st := [.int (nI 0), .ref o]) O dL_candidate_5 lkL_75 M 0 he rfl rfl rfl ⟨g1, g2, by show _ ≤ 10; omega, by show _ ≤ 34 * 10; omega, by decide, by decide⟩ (fun _ _ h => False.elim h) (fun X u h => ?_)
  obtain ⟨rfl, rfl⟩ := h
  refine v_catch (pre := []) (x := ⟨0, 9, 12, 19⟩) (suf := [⟨0, 9, 16, 13⟩]) O rfl (fun z hz => by cases hz) (by decide) (by decide) clL_19 ca_19 (fun q => ?_)
  refine v_cv (pc' := 12) (lv' := lv_args 0 [.ref a, .int x0, .int x1, .ref o]) (st' := [.ref q]) (w' := u ++ oW E o f o2 g) ?_
  refine v_astore O dL_candidate_12 (by rw [hN]; decide) ?_
  refine v_iconst (v := nI 1) O dL_candidate_14 (by decide) ?_
  exact v_ireturn O OR dL_candidate_15 ⟨rfl, rfl⟩ (Nat.le_of_ble_eq_true rfl) (Nat.le_of_ble_eq_true rfl)
theorem lx_candidate2 {E : ET} {a o o2 : Nat} {w : va_W} {fs : List Value} {f : Nat → Int64} {g : Nat → UInt64} {rx : Room} (hst : E.1.stackTraces = false) (x0 : Int32) (x1 : Int32) (he : w[0]? = some (a, .inr (4, fs))) (hG : Good rx 1 6) (M : Ctr E yX4_candidate cdX4_candidate rx (.ref a :: [.int x0, .int x1]) w noR (pX sIAE w) 1 6) : Ctr E yL_candidate cdL_candidate (rmT 10) [.ref a, .int x0, .int x1, .ref o] (w ++ oW E o f o2 g) (pR (some (.int (nI 2))) (w ++ oW E o f o2 g)) noX 1 6 := by
  refine ctr_ofH hst (by decide) (Nat.le_of_ble_eq_true rfl) (fun G O OR hN => ?_)
  have O : OKG E G cL_candidate RL (rmT 10) (tableOf [(0, 9, 12, 19), (0, 9, 16, 13)]) := O
  have hN : nLG G = 5 := hN
  obtain ⟨g1, g2, g3, g4⟩ := hG
  refine v_aload_n O dL_candidate_0 rfl ?_
  refine v_iconst (v := nI 0) O dL_candidate_1 (by decide) ?_
  refine v_aload_n O dL_candidate_2 rfl ?_
  refine v_iload_n O dL_candidate_3 rfl ?_
  refine v_iload_n O dL_candidate_4 rfl ?_
  refine v_callVJ (wa := []) (wb := oW E o f o2 g) (w := w) (As := [.int x0, .int x1]) (st := [.int (nI 0), .ref o]) O dL_candidate_5 lkL_75 M 0 he rfl rfl rfl ⟨g1, g2, by show _ ≤ 10; omega, by show _ ≤ 34 * 10; omega, by decide, by decide⟩ (fun _ _ h => False.elim h) (fun X u h => ?_)
  obtain ⟨rfl, rfl⟩ := h
  refine v_catch (pre := [⟨0, 9, 12, 19⟩]) (x := ⟨0, 9, 16, 13⟩) (suf := []) O rfl (fun z hz => by rw [List.mem_singleton.mp hz]; exact ⟨by decide, _, clL_19, by decide⟩) (by decide) (by decide) clL_13 ca_13 (fun q => ?_)
  refine v_cv (pc' := 16) (lv' := lv_args 0 [.ref a, .int x0, .int x1, .ref o]) (st' := [.ref q]) (w' := u ++ oW E o f o2 g) ?_
  refine v_astore O dL_candidate_16 (by rw [hN]; decide) ?_
  refine v_iconst (v := nI 2) O dL_candidate_18 (by decide) ?_
  exact v_ireturn O OR dL_candidate_19 ⟨rfl, rfl⟩ (Nat.le_of_ble_eq_true rfl) (Nat.le_of_ble_eq_true rfl)
theorem l_candidateAt {E : ET} {a o o2 : Nat} {w : va_W} {fs : List Value} {f : Nat → Int64} {g : Nat → UInt64} {rx : Room} {PX : Option Value → va_W → Prop} {x : Int32} (hst : E.1.stackTraces = false) (x0 : Int32) (he : w[0]? = some (a, .inr (4, fs))) (hG : Good rx 0 0) (M : Ctr E yX4_candidateAt cdX4_candidateAt rx (.ref a :: [.int x0]) w PX noX 0 0) (hv : ∀ r u, PX r u → r = some (.int x)) : Ctr E yL_candidateAt cdL_candidateAt (rmL 10) [.ref a, .int x0, .ref o] (w ++ oW E o f o2 g) (fun r u => r = some (.int (nI 0)) ∧ ∃ r0 u0, PX r0 u0 ∧ u = u0 ++ oW E o (vp_updL f 0 x.toInt64) o2 g) noX 0 0 := by
  refine ctr_ofH hst (by decide) (Nat.le_of_ble_eq_true rfl) (fun G O OR hN => ?_)
  have O : OKG E G cL_candidateAt RL (rmL 10) (tableOf [(0, 9, 12, 19)]) := O
  have hN : nLG G = 4 := hN
  obtain ⟨g1, g2, g3, g4⟩ := hG
  refine v_aload_n O dL_candidateAt_0 rfl ?_
  refine v_iconst (v := nI 0) O dL_candidateAt_1 (by decide) ?_
  refine v_aload_n O dL_candidateAt_2 rfl ?_
  refine v_iload_n O dL_candidateAt_3 rfl ?_
  refine v_callVJ (wa := []) (wb := oW E o f o2 g) (w := w) (As := [.int x0]) (st := [.int (nI 0), .ref o]) O dL_candidateAt_4 lkL_79 M 0 he rfl rfl rfl ⟨g1, g2, by show _ ≤ 10; omega, by show _ ≤ 34 * 10; omega, by decide, by decide⟩ (fun r u hp => ?_) (fun _ _ h => False.elim h)
  obtain rfl := hv r u hp
  refine v_cv (pc' := 7) (lv' := lv_args 0 [.ref a, .int x0, .ref o]) (st' := [.int x, .int (nI 0), .ref o]) (w' := u ++ oW E o f o2 g) ?_
  refine v_i2l O dL_candidateAt_7 ?_
  refine v_lastO O dL_candidateAt_8 ?_
  refine v_goto (tgt := 15) O dL_candidateAt_9 (by decide) ?_
  refine v_iconst (v := nI 0) O dL_candidateAt_15 (by decide) ?_
  exact v_ireturn O OR dL_candidateAt_16 ⟨rfl, _, u, hp, rfl⟩ (Nat.le_of_ble_eq_true rfl) (Nat.le_of_ble_eq_true rfl)
theorem lx_candidateAt1 {E : ET} {a o o2 : Nat} {w : va_W} {fs : List Value} {f : Nat → Int64} {g : Nat → UInt64} {rx : Room} (hst : E.1.stackTraces = false) (x0 : Int32) (he : w[0]? = some (a, .inr (4, fs))) (hG : Good rx 1 6) (M : Ctr E yX4_candidateAt cdX4_candidateAt rx (.ref a :: [.int x0]) w noR (pX sIOB w) 1 6) : Ctr E yL_candidateAt cdL_candidateAt (rmT 10) [.ref a, .int x0, .ref o] (w ++ oW E o f o2 g) (pR (some (.int (nI 1))) (w ++ oW E o f o2 g)) noX 1 6 := by
  refine ctr_ofH hst (by decide) (Nat.le_of_ble_eq_true rfl) (fun G O OR hN => ?_)
  have O : OKG E G cL_candidateAt RL (rmT 10) (tableOf [(0, 9, 12, 19)]) := O
  have hN : nLG G = 4 := hN
  obtain ⟨g1, g2, g3, g4⟩ := hG
  refine v_aload_n O dL_candidateAt_0 rfl ?_
  refine v_iconst (v := nI 0) O dL_candidateAt_1 (by decide) ?_
  refine v_aload_n O dL_candidateAt_2 rfl ?_
  refine v_iload_n O dL_candidateAt_3 rfl ?_
  refine v_callVJ (wa := []) (wb := oW E o f o2 g) (w := w) (As := [.int x0]) (st := [.int (nI 0), .ref o]) O dL_candidateAt_4 lkL_79 M 0 he rfl rfl rfl ⟨g1, g2, by show _ ≤ 10; omega, by show _ ≤ 34 * 10; omega, by decide, by decide⟩ (fun _ _ h => False.elim h) (fun X u h => ?_)
  obtain ⟨rfl, rfl⟩ := h
  refine v_catch (pre := []) (x := ⟨0, 9, 12, 19⟩) (suf := []) O rfl (fun z hz => by cases hz) (by decide) (by decide) clL_19 ca_19 (fun q => ?_)
  refine v_cv (pc' := 12) (lv' := lv_args 0 [.ref a, .int x0, .ref o]) (st' := [.ref q]) (w' := u ++ oW E o f o2 g) ?_
  refine v_astore_n O dL_candidateAt_12 (by rw [hN]; decide) ?_
  refine v_iconst (v := nI 1) O dL_candidateAt_13 (by decide) ?_
  exact v_ireturn O OR dL_candidateAt_14 ⟨rfl, rfl⟩ (Nat.le_of_ble_eq_true rfl) (Nat.le_of_ble_eq_true rfl)
