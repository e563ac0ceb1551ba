def nmG (G : GT) : String := match G with
  | (p, R, s, m, args, below, meth, c, Q, A, nL, e) => meth.name
theorem ctr_ofI {E : ET} {y : MethodName} {cc : ByteArray} {maxL : Nat} {ret : Option FieldType} {rm : Room} {av : List Value} {w : va_W} {post : Option Value → va_W → Prop} {px : String → va_W → Prop} {mc ms : Nat} (hst : E.1.stackTraces = false) (hy : plainName y.cls = true) (hav : (lg_sl av).length ≤ maxL)
    (body : ∀ G : GT, OKG E G cc y.cls rm [] → OKR E G post px mc ms ret → nLG G = maxL → nmG G = y.name → V E G 0 0 0 (lv_args 0 av) [] w) : Ctr E y (.code y cc maxL ret) rm av w post px mc ms := by
  intro sz
  refine vx_ofW (cc := cc) (maxL := maxL) (ret := ret) hy rfl ?_
  intro p e s m args below meth c s₁ B hml htb hv
  obtain ⟨rfl, hsz, hE, hH, hP, hD0⟩ := hv
  subst hsz
  have hts := atoms_spec (ws := .code y cc maxL ret :: GW) B.pre
  have hown : s.vm.findClass y.cls = some m.cls := findClass_of_methodNamed B.named
  have hl := lv_entry av (n := maxL) hav
  rw [lg_entry_eq]
  have htab : c.exceptionTable.toList = [] := by
    cases h : c.exceptionTable.toList with
    | nil => rfl
    | cons x r => exact absurd (htb x (by rw [h]; exact List.mem_cons_self)) id
  exact body (p, rm, s, m, av.toArray, below, meth, c, vx_MQ below (QC E post (va_A w s.heap.size)) (XQ E px (va_A w s.heap.size)) av.toArray s mc ms (va_A w s.heap.size), va_A w s.heap.size, maxL, e)
    ⟨B.exec, B.bytes, hml, hown, fun x hx => hts x (List.mem_cons_of_mem _ hx), hE, B.notSynchronized, hst, fun q h => Or.inr h, hH, rfl, htab⟩ ⟨rfl, B.returns⟩ rfl (name_of_methodNamed B.named B.method).1 s.heap [] _ hl hP (hD0.self) va_S.rf
section VPF
variable {E : ET} {G : GT} {cc : ByteArray} {own : String} {R0 : Room} {tb : List ExceptionTableEntry} {k n pc : Nat} {lv : List (Nat × Value)} {st : List Value} {w : va_W}
theorem v_putF {C : String} {T : u_T} {N ci index a kf : Nat} {fs : List Value} {v : Value} {ty : FieldType} (O : OKG E G cc own R0 tb) (hnm : nmG G = "<init>") (d : decode cc pc = .ok (.putfield index, 3)) (L : FLk own index ci kf C T N) (F : FTy T N) (q0 : Nat) (he : w[q0]? = some (a, .inr (ci, fs))) (hfin : (T kf).2.2.2 = true) (hdecl : (T kf).1 = own) (hd : parseFieldDescriptor (T kf).2.2.1 = some ty) (hn : narrow ty v = v) (hfit : fits ty v = true) (hlen : kf < fs.length) (kk : V E G k n (pc + 3) lv st (w.set q0 (a, .inr (ci, fs.set kf v)))) : V E G k n pc lv (v :: .ref a :: st) w := by
  obtain ⟨p, R, s, m, args, below, meth, c, Q, A, nL, e⟩ := G
  intro H locs ls hl hP hD hS
  obtain ⟨hx, hb, hml, hown, hts, hE, -⟩ := O
  obtain ⟨ty0, t1, t2⟩ := F
  exact va_putF hx hb hts L.2.2.2 ty0 t1 t2 hown hE.1 hP hD hS q0 he L.1 kf L.2.1 (hts _ L.2.2.1) (fun _ h9 => h9) hfin hnm hdecl hd hn hfit hlen d (fun H1 locs1 hP hD hS => kk H1 locs1 ls hl hP hD hS)
end VPF
abbrev iwX0 (E : ET) (a q1 q2 q3 q4 q5 : Nat) : va_W := [(a, .inr (0, [.int (nI 0), .ref q1, .ref q2, .ref q3, .ref q4, .ref q5])), (q1, .inl (E.2.2 0, 8, .inl (fun _ => nI 0))), (q2, .inl (E.2.2 0, 8, .inl (fun _ => nI 0))), (q3, .inl (E.2.2 0, 8, .inl (fun _ => nI 0))), (q4, .inl (E.2.2 1, 8, .inr (.inl (fun _ => 0)))), (q5, .inl (E.2.2 0, 48, .inl (fun _ => nI 0)))]
theorem i_X0 {E : ET} {a : Nat} (hst : E.1.stackTraces = false) : Ctr E yX0_init cdX0_init { frames := 2, cells := 5, slots := 80, locals := 68 } [.ref a] [(a, .inr (0, [.int 0, .null, .null, .null, .null, .null]))] (fun r u => r = none ∧ ∃ q1 q2 q3 q4 q5 : Nat, u = iwX0 E a q1 q2 q3 q4 q5) noX 5 80 := by
  refine ctr_ofI hst (by decide) (Nat.le_of_ble_eq_true rfl) (fun G O OR hN hnm => ?_)
  have O : OKG E G cX0_init RX0 { frames := 2, cells := 5, slots := 80, locals := 68 } [] := O
  have hnm : nmG G = "<init>" := hnm
  refine v_aload_n O dX0_init_0 rfl ?_
  refine v_objInit O dX0_init_1 ob_X0 ob_i ob_c (by decide) (by decide) ?_
  refine v_aload_n O dX0_init_4 rfl ?_
  refine v_iconst (v := nI 0) O dX0_init_5 (by decide) ?_
  refine v_put O dX0_init_6 flX0_9 ftX0 0 rfl rfl rfl rfl rfl (Nat.le_of_ble_eq_true rfl) ?_
  refine v_aload_n O dX0_init_9 rfl ?_
  refine v_bipush (v := nI 8) O dX0_init_10 (by decide) ?_
  refine v_newarr (N := 8) (ty := .int) (a0 := (8, .inl (fun _ => nI 0))) O dX0_init_12 0 rfl rfl arr_int (fun _ _ h => h) (fun cA => rfl) (by decide) (by decide) (Nat.le_of_ble_eq_true rfl) (Nat.le_of_ble_eq_true rfl) (fun q1 => ?_)
  refine v_putF O hnm dX0_init_14 flX0_15 ftX0 0 rfl rfl rfl rfl rfl rfl (Nat.le_of_ble_eq_true rfl) ?_
  refine v_aload_n O dX0_init_17 rfl ?_
  refine v_bipush (v := nI 8) O dX0_init_18 (by decide) ?_
  refine v_newarr (N := 8) (ty := .int) (a0 := (8, .inl (fun _ => nI 0))) O dX0_init_20 0 rfl rfl arr_int (fun _ _ h => h) (fun cA => rfl) (by decide) (by decide) (Nat.le_of_ble_eq_true rfl) (Nat.le_of_ble_eq_true rfl) (fun q2 => ?_)
  refine v_putF O hnm dX0_init_22 flX0_19 ftX0 0 rfl rfl rfl rfl rfl rfl (Nat.le_of_ble_eq_true rfl) ?_
  refine v_aload_n O dX0_init_25 rfl ?_
  refine v_bipush (v := nI 8) O dX0_init_26 (by decide) ?_
  refine v_newarr (N := 8) (ty := .int) (a0 := (8, .inl (fun _ => nI 0))) O dX0_init_28 0 rfl rfl arr_int (fun _ _ h => h) (fun cA => rfl) (by decide) (by decide) (Nat.le_of_ble_eq_true rfl) (Nat.le_of_ble_eq_true rfl) (fun q3 => ?_)
  refine v_putF O hnm dX0_init_30 flX0_22 ftX0 0 rfl rfl rfl rfl rfl rfl (Nat.le_of_ble_eq_true rfl) ?_
  refine v_aload_n O dX0_init_33 rfl ?_
  refine v_bipush (v := nI 8) O dX0_init_34 (by decide) ?_
  refine v_newarr (N := 8) (ty := .long) (a0 := (8, .inr (.inl (fun _ => 0)))) O dX0_init_36 1 rfl rfl arr_long (fun _ _ h => h) (fun cA => rfl) (by decide) (by decide) (Nat.le_of_ble_eq_true rfl) (Nat.le_of_ble_eq_true rfl) (fun q4 => ?_)
  refine v_putF O hnm dX0_init_38 flX0_25 ftX0 0 rfl rfl rfl rfl rfl rfl (Nat.le_of_ble_eq_true rfl) ?_
  refine v_aload_n O dX0_init_41 rfl ?_
  refine v_bipush (v := nI 48) O dX0_init_42 (by decide) ?_
  refine v_newarr (N := 48) (ty := .int) (a0 := (48, .inl (fun _ => nI 0))) O dX0_init_44 0 rfl rfl arr_int (fun _ _ h => h) (fun cA => rfl) (by decide) (by decide) (Nat.le_of_ble_eq_true rfl) (Nat.le_of_ble_eq_true rfl) (fun q5 => ?_)
  refine v_putF O hnm dX0_init_46 flX0_29 ftX0 0 rfl rfl rfl rfl rfl rfl (Nat.le_of_ble_eq_true rfl) ?_
  exact v_return O OR dX0_init_49 ⟨rfl, q1, q2, q3, q4, q5, rfl⟩ (Nat.le_of_ble_eq_true rfl) (Nat.le_of_ble_eq_true rfl)
abbrev iwX1 (E : ET) (a q1 q2 q3 : Nat) : va_W := [(a, .inr (1, [.int (nI 4), .int (nI 0), .int (nI 0), .ref q1, .ref q2, .ref q3])), (q1, .inl (E.2.2 0, 768, .inl (fun _ => nI 0))), (q2, .inl (E.2.2 0, 16, .inl (fun _ => nI 0))), (q3, .inl (E.2.2 2, 16, .inl (fun _ => bI false)))]
theorem i_X1 {E : ET} {a : Nat} (hst : E.1.stackTraces = false) : Ctr E yX1_init cdX1_init { frames := 2, cells := 3, slots := 800, locals := 68 } [.ref a] [(a, .inr (1, [.int 0, .int 0, .int 0, .null, .null, .null]))] (fun r u => r = none ∧ ∃ q1 q2 q3 : Nat, u = iwX1 E a q1 q2 q3) noX 3 800 := by
  refine ctr_ofI hst (by decide) (Nat.le_of_ble_eq_true rfl) (fun G O OR hN hnm => ?_)
  have O : OKG E G cX1_init RX1 { frames := 2, cells := 3, slots := 800, locals := 68 } [] := O
  have hnm : nmG G = "<init>" := hnm
  refine v_aload_n O dX1_init_0 rfl ?_
  refine v_objInit O dX1_init_1 ob_X1 ob_i ob_c (by decide) (by decide) ?_
  refine v_aload_n O dX1_init_4 rfl ?_
  refine v_iconst (v := nI 4) O dX1_init_5 (by decide) ?_
  refine v_put O dX1_init_6 flX1_9 ftX1 0 rfl rfl rfl rfl rfl (Nat.le_of_ble_eq_true rfl) ?_
  refine v_aload_n O dX1_init_9 rfl ?_
  refine v_iconst (v := nI 0) O dX1_init_10 (by decide) ?_
  refine v_put O dX1_init_11 flX1_15 ftX1 0 rfl rfl rfl rfl rfl (Nat.le_of_ble_eq_true rfl) ?_
  refine v_aload_n O dX1_init_14 rfl ?_
  refine v_iconst (v := nI 0) O dX1_init_15 (by decide) ?_
  refine v_put O dX1_init_16 flX1_18 ftX1 0 rfl rfl rfl rfl rfl (Nat.le_of_ble_eq_true rfl) ?_
  refine v_aload_n O dX1_init_19 rfl ?_
  refine v_sipush (v := nI 768) O dX1_init_20 (by decide) ?_
  refine v_newarr (N := 768) (ty := .int) (a0 := (768, .inl (fun _ => nI 0))) O dX1_init_23 0 rfl rfl arr_int (fun _ _ h => h) (fun cA => rfl) (by decide) (by decide) (Nat.le_of_ble_eq_true rfl) (Nat.le_of_ble_eq_true rfl) (fun q1 => ?_)
  refine v_putF O hnm dX1_init_25 flX1_21 ftX1 0 rfl rfl rfl rfl rfl rfl (Nat.le_of_ble_eq_true rfl) ?_
  refine v_aload_n O dX1_init_28 rfl ?_
  refine v_bipush (v := nI 16) O dX1_init_29 (by decide) ?_
  refine v_newarr (N := 16) (ty := .int) (a0 := (16, .inl (fun _ => nI 0))) O dX1_init_31 0 rfl rfl arr_int (fun _ _ h => h) (fun cA => rfl) (by decide) (by decide) (Nat.le_of_ble_eq_true rfl) (Nat.le_of_ble_eq_true rfl) (fun q2 => ?_)
  refine v_putF O hnm dX1_init_33 flX1_25 ftX1 0 rfl rfl rfl rfl rfl rfl (Nat.le_of_ble_eq_true rfl) ?_
  refine v_aload_n O dX1_init_36 rfl ?_
  refine v_bipush (v := nI 16) O dX1_init_37 (by decide) ?_
  refine v_newarr (N := 16) (ty := .boolean) (a0 := (16, .inl (fun _ => bI false))) O dX1_init_39 2 rfl rfl arr_boolean (fun _ _ h => h) (fun cA => rfl) (by decide) (by decide) (Nat.le_of_ble_eq_true rfl) (Nat.le_of_ble_eq_true rfl) (fun q3 => ?_)
  refine v_putF O hnm dX1_init_41 flX1_28 ftX1 0 rfl rfl rfl rfl rfl rfl (Nat.le_of_ble_eq_true rfl) ?_
  exact v_return O OR dX1_init_44 ⟨rfl, q1, q2, q3, rfl⟩ (Nat.le_of_ble_eq_true rfl) (Nat.le_of_ble_eq_true rfl)
abbrev iwX2 (E : ET) (a q1 q2 q3 q4 : Nat) : va_W := [(a, .inr (2, [.int (nI 0), .int (nI 0), .int (nI 0), .ref q1, .ref q2, .ref q3, .ref q4])), (q1, .inl (E.2.2 0, 768, .inl (fun _ => nI 0))), (q2, .inl (E.2.2 0, 768, .inl (fun _ => nI 0))), (q3, .inl (E.2.2 1, 16, .inr (.inl (fun _ => 0)))), (q4, .inl (E.2.2 1, 16, .inr (.inl (fun _ => 0))))]
theorem i_X2 {E : ET} {a : Nat} (hst : E.1.stackTraces = false) : Ctr E yX2_init cdX2_init { frames := 2, cells := 4, slots := 1568, locals := 68 } [.ref a] [(a, .inr (2, [.int 0, .int 0, .int 0, .null, .null, .null, .null]))] (fun r u => r = none ∧ ∃ q1 q2 q3 q4 : Nat, u = iwX2 E a q1 q2 q3 q4) noX 4 1568 := by
  refine ctr_ofI hst (by decide) (Nat.le_of_ble_eq_true rfl) (fun G O OR hN hnm => ?_)
  have O : OKG E G cX2_init RX2 { frames := 2, cells := 4, slots := 1568, locals := 68 } [] := O
  have hnm : nmG G = "<init>" := hnm
  refine v_aload_n O dX2_init_0 rfl ?_
  refine v_objInit O dX2_init_1 ob_X2 ob_i ob_c (by decide) (by decide) ?_
  refine v_aload_n O dX2_init_4 rfl ?_
  refine v_iconst (v := nI 0) O dX2_init_5 (by decide) ?_
  refine v_put O dX2_init_6 flX2_9 ftX2 0 rfl rfl rfl rfl rfl (Nat.le_of_ble_eq_true rfl) ?_
  refine v_aload_n O dX2_init_9 rfl ?_
  refine v_iconst (v := nI 0) O dX2_init_10 (by decide) ?_
  refine v_put O dX2_init_11 flX2_15 ftX2 0 rfl rfl rfl rfl rfl (Nat.le_of_ble_eq_true rfl) ?_
  refine v_aload_n O dX2_init_14 rfl ?_
  refine v_iconst (v := nI 0) O dX2_init_15 (by decide) ?_
  refine v_put O dX2_init_16 flX2_19 ftX2 0 rfl rfl rfl rfl rfl (Nat.le_of_ble_eq_true rfl) ?_
  refine v_aload_n O dX2_init_19 rfl ?_
  refine v_sipush (v := nI 768) O dX2_init_20 (by decide) ?_
  refine v_newarr (N := 768) (ty := .int) (a0 := (768, .inl (fun _ => nI 0))) O dX2_init_23 0 rfl rfl arr_int (fun _ _ h => h) (fun cA => rfl) (by decide) (by decide) (Nat.le_of_ble_eq_true rfl) (Nat.le_of_ble_eq_true rfl) (fun q1 => ?_)
  refine v_put O dX2_init_25 flX2_22 ftX2 0 rfl rfl rfl rfl rfl (Nat.le_of_ble_eq_true rfl) ?_
  refine v_aload_n O dX2_init_28 rfl ?_
  refine v_sipush (v := nI 768) O dX2_init_29 (by decide) ?_
  refine v_newarr (N := 768) (ty := .int) (a0 := (768, .inl (fun _ => nI 0))) O dX2_init_32 0 rfl rfl arr_int (fun _ _ h => h) (fun cA => rfl) (by decide) (by decide) (Nat.le_of_ble_eq_true rfl) (Nat.le_of_ble_eq_true rfl) (fun q2 => ?_)
  refine v_put O dX2_init_34 flX2_26 ftX2 0 rfl rfl rfl rfl rfl (Nat.le_of_ble_eq_true rfl) ?_
  refine v_aload_n O dX2_init_37 rfl ?_
  refine v_bipush (v := nI 16) O dX2_init_38 (by decide) ?_
  refine v_newarr (N := 16) (ty := .long) (a0 := (16, .inr (.inl (fun _ => 0)))) O dX2_init_40 1 rfl rfl arr_long (fun _ _ h => h) (fun cA => rfl) (by decide) (by decide) (Nat.le_of_ble_eq_true rfl) (Nat.le_of_ble_eq_true rfl) (fun q3 => ?_)
  refine v_putF O hnm dX2_init_42 flX2_29 ftX2 0 rfl rfl rfl rfl rfl rfl (Nat.le_of_ble_eq_true rfl) ?_
  refine v_aload_n O dX2_init_45 rfl ?_
  refine v_bipush (v := nI 16) O dX2_init_46 (by decide) ?_
  refine v_newarr (N := 16) (ty := .long) (a0 := (16, .inr (.inl (fun _ => 0)))) O dX2_init_48 1 rfl rfl arr_long (fun _ _ h => h) (fun cA => rfl) (by decide) (by decide) (Nat.le_of_ble_eq_true rfl) (Nat.le_of_ble_eq_true rfl) (fun q4 => ?_)
  refine v_putF O hnm dX2_init_50 flX2_33 ftX2 0 rfl rfl rfl rfl rfl rfl (Nat.le_of_ble_eq_true rfl) ?_
  exact v_return O OR dX2_init_53 ⟨rfl, q1, q2, q3, q4, rfl⟩ (Nat.le_of_ble_eq_true rfl) (Nat.le_of_ble_eq_true rfl)
abbrev iwX3 (E : ET) (a q1 : Nat) : va_W := [(a, .inr (3, [.int (nI 0), .ref q1])), (q1, .inl (E.2.2 0, 64, .inl (fun _ => nI 0)))]
theorem i_X3 {E : ET} {a : Nat} (hst : E.1.stackTraces = false) : Ctr E yX3_init cdX3_init { frames := 2, cells := 1, slots := 64, locals := 68 } [.ref a] [(a, .inr (3, [.int 0, .null]))] (fun r u => r = none ∧ ∃ q1 : Nat, u = iwX3 E a q1) noX 1 64 := by
  refine ctr_ofI hst (by decide) (Nat.le_of_ble_eq_true rfl) (fun G O OR hN hnm => ?_)
  have O : OKG E G cX3_init RX3 { frames := 2, cells := 1, slots := 64, locals := 68 } [] := O
  have hnm : nmG G = "<init>" := hnm
  refine v_aload_n O dX3_init_0 rfl ?_
  refine v_objInit O dX3_init_1 ob_X3 ob_i ob_c (by decide) (by decide) ?_
  refine v_aload_n O dX3_init_4 rfl ?_
  refine v_iconst (v := nI 0) O dX3_init_5 (by decide) ?_
  refine v_put O dX3_init_6 flX3_9 ftX3 0 rfl rfl rfl rfl rfl (Nat.le_of_ble_eq_true rfl) ?_
  refine v_aload_n O dX3_init_9 rfl ?_
  refine v_bipush (v := nI 64) O dX3_init_10 (by decide) ?_
  refine v_newarr (N := 64) (ty := .int) (a0 := (64, .inl (fun _ => nI 0))) O dX3_init_12 0 rfl rfl arr_int (fun _ _ h => h) (fun cA => rfl) (by decide) (by decide) (Nat.le_of_ble_eq_true rfl) (Nat.le_of_ble_eq_true rfl) (fun q1 => ?_)
  refine v_putF O hnm dX3_init_14 flX3_15 ftX3 0 rfl rfl rfl rfl rfl rfl (Nat.le_of_ble_eq_true rfl) ?_
  exact v_return O OR dX3_init_17 ⟨rfl, q1, rfl⟩ (Nat.le_of_ble_eq_true rfl) (Nat.le_of_ble_eq_true rfl)
abbrev iwX5 (E : ET) (a q1 q2 q3 q4 q5 q6 q7 q8 : Nat) : va_W := [(a, .inr (5, [.int 0, .int (nI 4), .int 0, .int 0, .int 0, .ref q1, .ref q2, .int 0, .ref q3, .int 0, .ref q4, .ref q5, .ref q6, .ref q7, .ref q8, .long 0, .long 0, .long 0, .long 0])), (q1, .inl (E.2.2 0, 16, .inl (fun _ => nI 0))), (q2, .inl (E.2.2 0, 768, .inl (fun _ => nI 0))), (q3, .inl (E.2.2 0, 64, .inl (fun _ => nI 0))), (q4, .inl (E.2.2 0, 8, .inl (fun _ => nI 0))), (q5, .inl (E.2.2 0, 8, .inl (fun _ => nI 0))), (q6, .inl (E.2.2 0, 8, .inl (fun _ => nI 0))), (q7, .inl (E.2.2 1, 8, .inr (.inl (fun _ => 0)))), (q8, .inl (E.2.2 0, 48, .inl (fun _ => nI 0)))]
theorem i_X5 {E : ET} {a : Nat} (hst : E.1.stackTraces = false) : Ctr E yX5_init cdX5_init { frames := 2, cells := 8, slots := 928, locals := 68 } [.ref a] [(a, .inr (5, [.int 0, .int 0, .int 0, .int 0, .int 0, .null, .null, .int 0, .null, .int 0, .null, .null, .null, .null, .null, .long 0, .long 0, .long 0, .long 0]))] (fun r u => r = none ∧ ∃ q1 q2 q3 q4 q5 q6 q7 q8 : Nat, u = iwX5 E a q1 q2 q3 q4 q5 q6 q7 q8) noX 8 928 := by
  refine ctr_ofI hst (by decide) (Nat.le_of_ble_eq_true rfl) (fun G O OR hN hnm => ?_)
  have O : OKG E G cX5_init RX5 { frames := 2, cells := 8, slots := 928, locals := 68 } [] := O
  have hnm : nmG G = "<init>" := hnm
  refine v_aload_n O dX5_init_0 rfl ?_
  refine v_objInit O dX5_init_1 ob_X5 ob_i ob_c (by decide) (by decide) ?_
  refine v_aload_n O dX5_init_4 rfl ?_
  refine v_iconst (v := nI 4) O dX5_init_5 (by decide) ?_
  refine v_put O dX5_init_6 flX5_7 ftX5 0 rfl rfl rfl rfl rfl (Nat.le_of_ble_eq_true rfl) ?_
  refine v_aload_n O dX5_init_9 rfl ?_
  refine v_bipush (v := nI 16) O dX5_init_10 (by decide) ?_
  refine v_newarr (N := 16) (ty := .int) (a0 := (16, .inl (fun _ => nI 0))) O dX5_init_12 0 rfl rfl arr_int (fun _ _ h => h) (fun cA => rfl) (by decide) (by decide) (Nat.le_of_ble_eq_true rfl) (Nat.le_of_ble_eq_true rfl) (fun q1 => ?_)
  refine v_putF O hnm dX5_init_14 flX5_13 ftX5 0 rfl rfl rfl rfl rfl rfl (Nat.le_of_ble_eq_true rfl) ?_
  refine v_aload_n O dX5_init_17 rfl ?_
  refine v_sipush (v := nI 768) O dX5_init_18 (by decide) ?_
  refine v_newarr (N := 768) (ty := .int) (a0 := (768, .inl (fun _ => nI 0))) O dX5_init_21 0 rfl rfl arr_int (fun _ _ h => h) (fun cA => rfl) (by decide) (by decide) (Nat.le_of_ble_eq_true rfl) (Nat.le_of_ble_eq_true rfl) (fun q2 => ?_)
  refine v_putF O hnm dX5_init_23 flX5_17 ftX5 0 rfl rfl rfl rfl rfl rfl (Nat.le_of_ble_eq_true rfl) ?_
  refine v_aload_n O dX5_init_26 rfl ?_
  refine v_bipush (v := nI 64) O dX5_init_27 (by decide) ?_
  refine v_newarr (N := 64) (ty := .int) (a0 := (64, .inl (fun _ => nI 0))) O dX5_init_29 0 rfl rfl arr_int (fun _ _ h => h) (fun cA => rfl) (by decide) (by decide) (Nat.le_of_ble_eq_true rfl) (Nat.le_of_ble_eq_true rfl) (fun q3 => ?_)
  refine v_putF O hnm dX5_init_31 flX5_20 ftX5 0 rfl rfl rfl rfl rfl rfl (Nat.le_of_ble_eq_true rfl) ?_
  refine v_aload_n O dX5_init_34 rfl ?_
  refine v_bipush (v := nI 8) O dX5_init_35 (by decide) ?_
  refine v_newarr (N := 8) (ty := .int) (a0 := (8, .inl (fun _ => nI 0))) O dX5_init_37 0 rfl rfl arr_int (fun _ _ h => h) (fun cA => rfl) (by decide) (by decide) (Nat.le_of_ble_eq_true rfl) (Nat.le_of_ble_eq_true rfl) (fun q4 => ?_)
  refine v_putF O hnm dX5_init_39 flX5_23 ftX5 0 rfl rfl rfl rfl rfl rfl (Nat.le_of_ble_eq_true rfl) ?_
  refine v_aload_n O dX5_init_42 rfl ?_
  refine v_bipush (v := nI 8) O dX5_init_43 (by decide) ?_
  refine v_newarr (N := 8) (ty := .int) (a0 := (8, .inl (fun _ => nI 0))) O dX5_init_45 0 rfl rfl arr_int (fun _ _ h => h) (fun cA => rfl) (by decide) (by decide) (Nat.le_of_ble_eq_true rfl) (Nat.le_of_ble_eq_true rfl) (fun q5 => ?_)
  refine v_putF O hnm dX5_init_47 flX5_26 ftX5 0 rfl rfl rfl rfl rfl rfl (Nat.le_of_ble_eq_true rfl) ?_
  refine v_aload_n O dX5_init_50 rfl ?_
  refine v_bipush (v := nI 8) O dX5_init_51 (by decide) ?_
  refine v_newarr (N := 8) (ty := .int) (a0 := (8, .inl (fun _ => nI 0))) O dX5_init_53 0 rfl rfl arr_int (fun _ _ h => h) (fun cA => rfl) (by decide) (by decide) (Nat.le_of_ble_eq_true rfl) (Nat.le_of_ble_eq_true rfl) (fun q6 => ?_)
  refine v_putF O hnm dX5_init_55 flX5_29 ftX5 0 rfl rfl rfl rfl rfl rfl (Nat.le_of_ble_eq_true rfl) ?_
  refine v_aload_n O dX5_init_58 rfl ?_
  refine v_bipush (v := nI 8) O dX5_init_59 (by decide) ?_
  refine v_newarr (N := 8) (ty := .long) (a0 := (8, .inr (.inl (fun _ => 0)))) O dX5_init_61 1 rfl rfl arr_long (fun _ _ h => h) (fun cA => rfl) (by decide) (by decide) (Nat.le_of_ble_eq_true rfl) (Nat.le_of_ble_eq_true rfl) (fun q7 => ?_)
  refine v_putF O hnm dX5_init_63 flX5_32 ftX5 0 rfl rfl rfl rfl rfl rfl (Nat.le_of_ble_eq_true rfl) ?_
  refine v_aload_n O dX5_init_66 rfl ?_
  refine v_bipush (v := nI 48) O dX5_init_67 (by decide) ?_
  refine v_newarr (N := 48) (ty := .int) (a0 := (48, .inl (fun _ => nI 0))) O dX5_init_69 0 rfl rfl arr_int (fun _ _ h => h) (fun cA => rfl) (by decide) (by decide) (Nat.le_of_ble_eq_true rfl) (Nat.le_of_ble_eq_true rfl) (fun q8 => ?_)
  refine v_putF O hnm dX5_init_71 flX5_36 ftX5 0 rfl rfl rfl rfl rfl rfl (Nat.le_of_ble_eq_true rfl) ?_
  exact v_return O OR dX5_init_74 ⟨rfl, q1, q2, q3, q4, q5, q6, q7, q8, rfl⟩ (Nat.le_of_ble_eq_true rfl) (Nat.le_of_ble_eq_true rfl)
theorem z_X0 : ∀ j, j < 6 → defaultValue (tyX0 j) = vp_V [.int 0, .null, .null, .null, .null, .null] j := by
  intro j hj
  have h9 : j = 0 ∨ j = 1 ∨ j = 2 ∨ j = 3 ∨ j = 4 ∨ j = 5 := by omega
  rcases h9 with rfl | rfl | rfl | rfl | rfl | rfl <;> rfl
theorem z_X1 : ∀ j, j < 6 → defaultValue (tyX1 j) = vp_V [.int 0, .int 0, .int 0, .null, .null, .null] j := by
  intro j hj
  have h9 : j = 0 ∨ j = 1 ∨ j = 2 ∨ j = 3 ∨ j = 4 ∨ j = 5 := by omega
  rcases h9 with rfl | rfl | rfl | rfl | rfl | rfl <;> rfl
theorem z_X2 : ∀ j, j < 7 → defaultValue (tyX2 j) = vp_V [.int 0, .int 0, .int 0, .null, .null, .null, .null] j := by
  intro j hj
  have h9 : j = 0 ∨ j = 1 ∨ j = 2 ∨ j = 3 ∨ j = 4 ∨ j = 5 ∨ j = 6 := by omega
  rcases h9 with rfl | rfl | rfl | rfl | rfl | rfl | rfl <;> rfl
theorem z_X3 : ∀ j, j < 2 → defaultValue (tyX3 j) = vp_V [.int 0, .null] j := by
  intro j hj
  have h9 : j = 0 ∨ j = 1 := by omega
  rcases h9 with rfl | rfl <;> rfl
theorem z_X4 : ∀ j, j < 4 → defaultValue (tyX4 j) = vp_V [.null, .null, .null, .null] j := by
  intro j hj
  have h9 : j = 0 ∨ j = 1 ∨ j = 2 ∨ j = 3 := by omega
  rcases h9 with rfl | rfl | rfl | rfl <;> rfl
theorem z_X5 : ∀ j, j < 19 → defaultValue (tyX5 j) = vp_V [.int 0, .int 0, .int 0, .int 0, .int 0, .null, .null, .int 0, .null, .int 0, .null, .null, .null, .null, .null, .long 0, .long 0, .long 0, .long 0] j := by
  intro j hj
  have h9 : j = 0 ∨ j = 1 ∨ j = 2 ∨ j = 3 ∨ j = 4 ∨ j = 5 ∨ j = 6 ∨ j = 7 ∨ j = 8 ∨ j = 9 ∨ j = 10 ∨ j = 11 ∨ j = 12 ∨ j = 13 ∨ j = 14 ∨ j = 15 ∨ j = 16 ∨ j = 17 ∨ j = 18 := by omega
  rcases h9 with rfl | rfl | rfl | rfl | rfl | rfl | rfl | rfl | rfl | rfl | rfl | rfl | rfl | rfl | rfl | rfl | rfl | rfl | rfl <;> rfl
theorem i_X4 {E : ET} {a : Nat} (hst : E.1.stackTraces = false) : Ctr E yX4_init cdX4_init { frames := 4, cells := 17, slots := 2533, locals := 136 } [.ref a] [(a, .inr (4, [.null, .null, .null, .null]))] (fun r w => r = none ∧ ∃ (ad : Nat → Nat) (u v : Nat), ad 0 = a ∧ w = WX E ad 4 0 0 (fun _ => 0) (fun _ => 0) (fun _ => false) 0 (fun _ => 0) false 0 0 u v (fun _ => 0) (fun _ => 0) (fun _ => 0) (fun _ => 0) 0 (fun _ => 0) (fun _ => 0) (fun _ => 0) (fun _ => 0) (fun _ => 0)) noX 17 2533 := by
  refine ctr_ofI hst (by decide) (Nat.le_of_ble_eq_true rfl) (fun G O OR hN hnm => ?_)
  have O : OKG E G cX4_init RX4 { frames := 4, cells := 17, slots := 2533, locals := 136 } [] := O
  have hnm : nmG G = "<init>" := hnm
  refine v_aload_n O dX4_init_0 rfl ?_
  refine v_objInit O dX4_init_1 ob_X4 ob_i ob_c (by decide) (by decide) ?_
  refine v_aload_n O dX4_init_4 rfl ?_
  refine v_newobj (ci := 1) (N := 6) (T := TX1) (C := RX1) (fs := [.int 0, .int 0, .int 0, .null, .null, .null]) O dX4_init_5 rfl uwX1 tyX1 tyX1_ok cnX4_7 isX1 inX1 z_X1 (Nat.le_of_ble_eq_true rfl) (Nat.le_of_ble_eq_true rfl) (fun o1 => ?_)
  refine v_dup O dX4_init_8 rfl ?_
  refine v_cv (w' := [(a, .inr (4, [.null, .null, .null, .null]))] ++ ([(o1, .inr (1, [.int 0, .int 0, .int 0, .null, .null, .null]))] ++ [])) ?_
  refine v_callINJ (As := []) (st := [.ref o1, .ref a]) O dX4_init_9 lkIX4_9 (i_X1 (a := o1) hst) rfl rfl ⟨rfl, rfl, by decide, by decide, Nat.le_of_ble_eq_true rfl, Nat.le_of_ble_eq_true rfl⟩ (fun r u h => ?_) (fun _ _ h => False.elim h)
  obtain ⟨rfl, o1q1, o1q2, o1q3, rfl⟩ := h
  refine v_cv (pc' := 12) (lv' := lv_args 0 [.ref a]) (st' := [.ref o1, .ref a]) (w' := [(a, .inr (4, [.null, .null, .null, .null])), (o1, .inr (1, [.int (nI 4), .int (nI 0), .int (nI 0), .ref o1q1, .ref o1q2, .ref o1q3])), (o1q1, .inl (E.2.2 0, 768, .inl (fun _ => nI 0))), (o1q2, .inl (E.2.2 0, 16, .inl (fun _ => nI 0))), (o1q3, .inl (E.2.2 2, 16, .inl (fun _ => bI false)))]) ?_
  refine v_putF O hnm dX4_init_12 flX4_10 ftX4 0 rfl rfl rfl rfl rfl rfl (Nat.le_of_ble_eq_true rfl) ?_
  refine v_aload_n O dX4_init_15 rfl ?_
  refine v_newobj (ci := 3) (N := 2) (T := TX3) (C := RX3) (fs := [.int 0, .null]) O dX4_init_16 rfl uwX3 tyX3 tyX3_ok cnX4_16 isX3 inX3 z_X3 (Nat.le_of_ble_eq_true rfl) (Nat.le_of_ble_eq_true rfl) (fun o2 => ?_)
  refine v_dup O dX4_init_19 rfl ?_
  refine v_cv (w' := [(a, .inr (4, [.ref o1, .null, .null, .null])), (o1, .inr (1, [.int (nI 4), .int (nI 0), .int (nI 0), .ref o1q1, .ref o1q2, .ref o1q3])), (o1q1, .inl (E.2.2 0, 768, .inl (fun _ => nI 0))), (o1q2, .inl (E.2.2 0, 16, .inl (fun _ => nI 0))), (o1q3, .inl (E.2.2 2, 16, .inl (fun _ => bI false)))] ++ ([(o2, .inr (3, [.int 0, .null]))] ++ [])) ?_
  refine v_callINJ (As := []) (st := [.ref o2, .ref a]) O dX4_init_20 lkIX4_18 (i_X3 (a := o2) hst) rfl rfl ⟨rfl, rfl, by decide, by decide, Nat.le_of_ble_eq_true rfl, Nat.le_of_ble_eq_true rfl⟩ (fun r u h => ?_) (fun _ _ h => False.elim h)
  obtain ⟨rfl, o2q1, rfl⟩ := h
  refine v_cv (pc' := 23) (lv' := lv_args 0 [.ref a]) (st' := [.ref o2, .ref a]) (w' := [(a, .inr (4, [.ref o1, .null, .null, .null])), (o1, .inr (1, [.int (nI 4), .int (nI 0), .int (nI 0), .ref o1q1, .ref o1q2, .ref o1q3])), (o1q1, .inl (E.2.2 0, 768, .inl (fun _ => nI 0))), (o1q2, .inl (E.2.2 0, 16, .inl (fun _ => nI 0))), (o1q3, .inl (E.2.2 2, 16, .inl (fun _ => bI false))), (o2, .inr (3, [.int (nI 0), .ref o2q1])), (o2q1, .inl (E.2.2 0, 64, .inl (fun _ => nI 0)))]) ?_
  refine v_putF O hnm dX4_init_23 flX4_19 ftX4 0 rfl rfl rfl rfl rfl rfl (Nat.le_of_ble_eq_true rfl) ?_
  refine v_aload_n O dX4_init_26 rfl ?_
  refine v_newobj (ci := 2) (N := 7) (T := TX2) (C := RX2) (fs := [.int 0, .int 0, .int 0, .null, .null, .null, .null]) O dX4_init_27 rfl uwX2 tyX2 tyX2_ok cnX4_23 isX2 inX2 z_X2 (Nat.le_of_ble_eq_true rfl) (Nat.le_of_ble_eq_true rfl) (fun o3 => ?_)
  refine v_dup O dX4_init_30 rfl ?_
  refine v_cv (w' := [(a, .inr (4, [.ref o1, .ref o2, .null, .null])), (o1, .inr (1, [.int (nI 4), .int (nI 0), .int (nI 0), .ref o1q1, .ref o1q2, .ref o1q3])), (o1q1, .inl (E.2.2 0, 768, .inl (fun _ => nI 0))), (o1q2, .inl (E.2.2 0, 16, .inl (fun _ => nI 0))), (o1q3, .inl (E.2.2 2, 16, .inl (fun _ => bI false))), (o2, .inr (3, [.int (nI 0), .ref o2q1])), (o2q1, .inl (E.2.2 0, 64, .inl (fun _ => nI 0)))] ++ ([(o3, .inr (2, [.int 0, .int 0, .int 0, .null, .null, .null, .null]))] ++ [])) ?_
  refine v_callINJ (As := []) (st := [.ref o3, .ref a]) O dX4_init_31 lkIX4_25 (i_X2 (a := o3) hst) rfl rfl ⟨rfl, rfl, by decide, by decide, Nat.le_of_ble_eq_true rfl, Nat.le_of_ble_eq_true rfl⟩ (fun r u h => ?_) (fun _ _ h => False.elim h)
  obtain ⟨rfl, o3q1, o3q2, o3q3, o3q4, rfl⟩ := h
  refine v_cv (pc' := 34) (lv' := lv_args 0 [.ref a]) (st' := [.ref o3, .ref a]) (w' := [(a, .inr (4, [.ref o1, .ref o2, .null, .null])), (o1, .inr (1, [.int (nI 4), .int (nI 0), .int (nI 0), .ref o1q1, .ref o1q2, .ref o1q3])), (o1q1, .inl (E.2.2 0, 768, .inl (fun _ => nI 0))), (o1q2, .inl (E.2.2 0, 16, .inl (fun _ => nI 0))), (o1q3, .inl (E.2.2 2, 16, .inl (fun _ => bI false))), (o2, .inr (3, [.int (nI 0), .ref o2q1])), (o2q1, .inl (E.2.2 0, 64, .inl (fun _ => nI 0))), (o3, .inr (2, [.int (nI 0), .int (nI 0), .int (nI 0), .ref o3q1, .ref o3q2, .ref o3q3, .ref o3q4])), (o3q1, .inl (E.2.2 0, 768, .inl (fun _ => nI 0))), (o3q2, .inl (E.2.2 0, 768, .inl (fun _ => nI 0))), (o3q3, .inl (E.2.2 1, 16, .inr (.inl (fun _ => 0)))), (o3q4, .inl (E.2.2 1, 16, .inr (.inl (fun _ => 0))))]) ?_
  refine v_putF O hnm dX4_init_34 flX4_26 ftX4 0 rfl rfl rfl rfl rfl rfl (Nat.le_of_ble_eq_true rfl) ?_
  refine v_aload_n O dX4_init_37 rfl ?_
  refine v_newobj (ci := 0) (N := 6) (T := TX0) (C := RX0) (fs := [.int 0, .null, .null, .null, .null, .null]) O dX4_init_38 rfl uwX0 tyX0 tyX0_ok cnX4_30 isX0 inX0 z_X0 (Nat.le_of_ble_eq_true rfl) (Nat.le_of_ble_eq_true rfl) (fun o4 => ?_)
  refine v_dup O dX4_init_41 rfl ?_
  refine v_cv (w' := [(a, .inr (4, [.ref o1, .ref o2, .ref o3, .null])), (o1, .inr (1, [.int (nI 4), .int (nI 0), .int (nI 0), .ref o1q1, .ref o1q2, .ref o1q3])), (o1q1, .inl (E.2.2 0, 768, .inl (fun _ => nI 0))), (o1q2, .inl (E.2.2 0, 16, .inl (fun _ => nI 0))), (o1q3, .inl (E.2.2 2, 16, .inl (fun _ => bI false))), (o2, .inr (3, [.int (nI 0), .ref o2q1])), (o2q1, .inl (E.2.2 0, 64, .inl (fun _ => nI 0))), (o3, .inr (2, [.int (nI 0), .int (nI 0), .int (nI 0), .ref o3q1, .ref o3q2, .ref o3q3, .ref o3q4])), (o3q1, .inl (E.2.2 0, 768, .inl (fun _ => nI 0))), (o3q2, .inl (E.2.2 0, 768, .inl (fun _ => nI 0))), (o3q3, .inl (E.2.2 1, 16, .inr (.inl (fun _ => 0)))), (o3q4, .inl (E.2.2 1, 16, .inr (.inl (fun _ => 0))))] ++ ([(o4, .inr (0, [.int 0, .null, .null, .null, .null, .null]))] ++ [])) ?_
  refine v_callINJ (As := []) (st := [.ref o4, .ref a]) O dX4_init_42 lkIX4_32 (i_X0 (a := o4) hst) rfl rfl ⟨rfl, rfl, by decide, by decide, Nat.le_of_ble_eq_true rfl, Nat.le_of_ble_eq_true rfl⟩ (fun r u h => ?_) (fun _ _ h => False.elim h)
  obtain ⟨rfl, o4q1, o4q2, o4q3, o4q4, o4q5, rfl⟩ := h
  refine v_cv (pc' := 45) (lv' := lv_args 0 [.ref a]) (st' := [.ref o4, .ref a]) (w' := [(a, .inr (4, [.ref o1, .ref o2, .ref o3, .null])), (o1, .inr (1, [.int (nI 4), .int (nI 0), .int (nI 0), .ref o1q1, .ref o1q2, .ref o1q3])), (o1q1, .inl (E.2.2 0, 768, .inl (fun _ => nI 0))), (o1q2, .inl (E.2.2 0, 16, .inl (fun _ => nI 0))), (o1q3, .inl (E.2.2 2, 16, .inl (fun _ => bI false))), (o2, .inr (3, [.int (nI 0), .ref o2q1])), (o2q1, .inl (E.2.2 0, 64, .inl (fun _ => nI 0))), (o3, .inr (2, [.int (nI 0), .int (nI 0), .int (nI 0), .ref o3q1, .ref o3q2, .ref o3q3, .ref o3q4])), (o3q1, .inl (E.2.2 0, 768, .inl (fun _ => nI 0))), (o3q2, .inl (E.2.2 0, 768, .inl (fun _ => nI 0))), (o3q3, .inl (E.2.2 1, 16, .inr (.inl (fun _ => 0)))), (o3q4, .inl (E.2.2 1, 16, .inr (.inl (fun _ => 0)))), (o4, .inr (0, [.int (nI 0), .ref o4q1, .ref o4q2, .ref o4q3, .ref o4q4, .ref o4q5])), (o4q1, .inl (E.2.2 0, 8, .inl (fun _ => nI 0))), (o4q2, .inl (E.2.2 0, 8, .inl (fun _ => nI 0))), (o4q3, .inl (E.2.2 0, 8, .inl (fun _ => nI 0))), (o4q4, .inl (E.2.2 1, 8, .inr (.inl (fun _ => 0)))), (o4q5, .inl (E.2.2 0, 48, .inl (fun _ => nI 0)))]) ?_
  refine v_putF O hnm dX4_init_45 flX4_33 ftX4 0 rfl rfl rfl rfl rfl rfl (Nat.le_of_ble_eq_true rfl) ?_
  refine v_perm (w' := WX E (fun i => [a, o1, o2, o3, o4, o1q1, o1q2, o1q3, o2q1, o3q3, o3q4, o4q1, o4q2, o4q3, o4q4, o4q5].getD i 0) 4 0 0 (fun _ => 0) (fun _ => 0) (fun _ => false) 0 (fun _ => 0) false 0 0 o3q1 o3q2 (fun _ => 0) (fun _ => 0) (fun _ => 0) (fun _ => 0) 0 (fun _ => 0) (fun _ => 0) (fun _ => 0) (fun _ => 0) (fun _ => 0)) [0, 1, 5, 7, 12, 2, 3, 4, 6, 10, 11, 13, 14, 15, 16, 17, 8, 9] (by decide) rfl rfl ?_
  exact v_return O OR dX4_init_48 ⟨rfl, _, _, _, rfl, rfl⟩ (Nat.le_of_ble_eq_true rfl) (Nat.le_of_ble_eq_true rfl)
def adM (a q1 q2 q3 q4 q5 q6 q7 q8 : Nat) : Nat → Nat := fun i => [a, q1, q2, q3, q4, q5, q6, q7, q8].getD i 0
theorem iwX5_WM (E : ET) (a q1 q2 q3 q4 q5 q6 q7 q8 : Nat) : iwX5 E a q1 q2 q3 q4 q5 q6 q7 q8 = WM E (adM a q1 q2 q3 q4 q5 q6 q7 q8) 0 4 0 0 0 (fun _ => 0) (fun _ => 0) 0 (fun _ => 0) 0 (fun _ => 0) (fun _ => 0) (fun _ => 0) (fun _ => 0) (fun _ => 0) 0 0 0 0 := rfl
