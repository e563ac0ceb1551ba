def lin (mk : Nat → Bool) (pw : Nat → Nat) (n : Nat) (off : Nat → Nat) (q : Nat) : Nat := sm (fun c => if mk c = true then 0 else pw ((q + off c) * 16 + c)) n
theorem lp_lineBy {E : ET} {G : GT} (O : OKG E G cX5_lineBy RX5 (rmL 3) []) (hN : nLG G = 6) {ad : Nat → Nat} {th n t dr ms : Nat} {pe pw : Nat → Nat} {len : Nat} {cod : Nat → Nat} {mm : Nat} {fs fc fw : Nat → Nat} {sc : Nat → Int64} {li : Nat → Nat} {lm ls lq hs : Int64} {K d q : Nat} {s : Bool} (hst : E.1.stackTraces = false) (hK : 1 ≤ K) (hK4 : K ≤ 4) (hn : n = 2 ^ K) (hm : ms < 65536) (hd : d < n) (ht : t ≤ 48) (hq : q + d < t) (kk : V E G 0 0 60 [(4, .int (nI (lin (mb ms) pw n (oby K n s d) q)))] [] (WM E ad th n t dr ms pe pw len cod mm fs fc fw sc li lm ls lq hs)) : ∀ j c : Nat, c ≤ n → j = n - c → V E G 0 0 6 [(0, .ref (ad 0)), (1, .int (nI d)), (2, .int (nI q)), (3, .int (bI s)), (4, .int (nI (lin (mb ms) pw c (oby K n s d) q))), (5, .int (nI c))] [] (WM E ad th n t dr ms pe pw len cod mm fs fc fw sc li lm ls lq hs) := by
  obtain ⟨g1, g2⟩ := two_le hn hK hK4
  intro j
  induction j using Nat.strongRecOn with
  | _ j ih =>
    intro c hc hj
    refine v_iload O dX5_lineBy_6 rfl ?_
    refine v_aload_n O dX5_lineBy_8 rfl ?_
    refine v_get O dX5_lineBy_9 flX5_7 0 rfl rfl ?_
    refine v_icmpN_ge (tgt := 60) O dX5_lineBy_12 (by decide) (by omega) (by omega) (fun h => ?_) (fun h => ?_)
    · have e : c = n := by omega
      subst e
      refine v_ord [4] ?_
      exact kk
    · have ho := oby_le (K := K) (s := s) (d := d) g1 h
      have key : V E G 0 0 51 [(0, .ref (ad 0)), (1, .int (nI d)), (2, .int (nI q)), (3, .int (bI s)), (4, .int (nI (lin (mb ms) pw c (oby K n s d) q))), (5, .int (nI c))] [.int (nI (if mb ms c = true then 0 else pw ((q + oby K n s d c) * 16 + c))), .int (nI (lin (mb ms) pw c (oby K n s d) q))] (WM E ad th n t dr ms pe pw len cod mm fs fc fw sc li lm ls lq hs) := by
        refine v_iaddN O dX5_lineBy_51 ?_
        refine v_istore O dX5_lineBy_52 (by rw [hN]; decide) ?_
        refine v_iincN (b := 1) O dX5_lineBy_54 rfl (by decide) (by rw [hN]; decide) ?_
        refine v_goto (tgt := 6) O dX5_lineBy_57 (by decide) ?_
        refine v_ord [0, 1, 2, 3, 4, 5] ?_
        exact ih (j - 1) (by omega) (c + 1) (by omega) (by omega)
      refine v_iload O dX5_lineBy_15 rfl ?_
      refine v_aload_n O dX5_lineBy_17 rfl ?_
      refine v_iload O dX5_lineBy_18 rfl ?_
      refine v_V1 O dX5_lineBy_20 lkX5_105 (c_isMasked hst hm c (by omega)) 0 rfl rfl rfl rfl rfl (by first | exact hkc | exact Nat.zero_le _) (by first | exact hks | exact Nat.zero_le _) ?_
      refine v_ifB_eq (tgt := 30) O dX5_lineBy_23 (by decide) (fun h2 => ?_) (fun h2 => ?_)
      · refine v_aload_n O dX5_lineBy_30 rfl ?_
        refine v_get O dX5_lineBy_31 flX5_17 0 rfl rfl ?_
        refine v_bipush (v := nI 16) O dX5_lineBy_34 (by decide) ?_
        refine v_iload_n O dX5_lineBy_36 rfl ?_
        refine v_aload_n O dX5_lineBy_37 rfl ?_
        refine v_iload_n O dX5_lineBy_38 rfl ?_
        refine v_iload O dX5_lineBy_39 rfl ?_
        refine v_iload_n O dX5_lineBy_41 rfl ?_
        refine v_V1 O dX5_lineBy_42 lkX5_89 (c_offsetBy hst hK hK4 hn d c s (by omega) (by omega)) 0 rfl rfl rfl rfl rfl (by first | exact hkc | exact Nat.zero_le _) (by first | exact hks | exact Nat.zero_le _) ?_
        refine v_iaddN O dX5_lineBy_45 ?_
        refine v_imulN O dX5_lineBy_46 ?_
        refine v_iload O dX5_lineBy_47 rfl ?_
        refine v_iaddN O dX5_lineBy_49 ?_
        refine v_iald O dX5_lineBy_50 2 rfl (by decide) (by omega) ?_
        refine v_st ?_ key
        rw [if_neg (by rw [h2]; decide), Nat.mul_comm 16]
      · refine v_iconst (v := nI 0) O dX5_lineBy_26 (by decide) ?_
        refine v_goto (tgt := 51) O dX5_lineBy_27 (by decide) ?_
        refine v_st ?_ key
        rw [if_pos h2]
theorem c_lineBy {E : ET} {ad : Nat → Nat} {th n t dr ms : Nat} {pe pw : Nat → Nat} {len : Nat} {cod : Nat → Nat} {mm : Nat} {fs fc fw : Nat → Nat} {sc : Nat → Int64} {li : Nat → Nat} {lm ls lq hs : Int64} {K : Nat} (hst : E.1.stackTraces = false) (hK : 1 ≤ K) (hK4 : K ≤ 4) (hn : n = 2 ^ K) (hm : ms < 65536) (ht : t ≤ 48) (d q : Nat) (s : Bool) (hd : d < n) (hq : q + d < t) : Ctr E yX5_lineBy cdX5_lineBy (rmL 3) [.ref (ad 0), .int (nI d), .int (nI q), .int (bI s)] (WM E ad th n t dr ms pe pw len cod mm fs fc fw sc li lm ls lq hs) (pR (some (.int (nI (lin (mb ms) pw n (oby K n s d) q)))) (WM E ad th n t dr ms pe pw len cod mm fs fc fw sc li lm ls lq hs)) noX 0 0 := by
  refine ctr_of hst (by decide) (Nat.le_of_ble_eq_true rfl) (fun G O OR hN => ?_)
  have O : OKG E G cX5_lineBy RX5 (rmL 3) [] := O
  have hN : nLG G = 6 := hN
  refine v_iconst (v := nI 0) O dX5_lineBy_0 (by decide) ?_
  refine v_istore O dX5_lineBy_1 (by rw [hN]; decide) ?_
  refine v_iconst (v := nI 0) O dX5_lineBy_3 (by decide) ?_
  refine v_istore O dX5_lineBy_4 (by rw [hN]; decide) ?_
  refine v_ord [0, 1, 2, 3, 4, 5] ?_
  refine lp_lineBy O hN hst hK hK4 hn hm hd ht hq ?_ n 0 (by omega) (by omega)
  refine v_iload O dX5_lineBy_60 rfl ?_
  exact v_ireturn O OR dX5_lineBy_62 (⟨rfl, rfl⟩) (Nat.le_of_ble_eq_true rfl) (Nat.le_of_ble_eq_true rfl)
/-- does the box exist: slope x1, column x2, width wd -/
def bxB (n t : Nat) (x1 x2 : Int32) (wd : Nat) : Bool := inB x1 n && (decide (0 ≤ x2.toInt) && decide (x2.toInt + wd ≤ ((t - x1.toInt.toNat : Nat) : Int)))
theorem c_isBox {E : ET} {ad : Nat → Nat} {th n t dr ms : Nat} {pe pw : Nat → Nat} {len : Nat} {cod : Nat → Nat} {mm : Nat} {fs fc fw : Nat → Nat} {sc : Nat → Int64} {li : Nat → Nat} {lm ls lq hs : Int64} (hst : E.1.stackTraces = false) (hn : n ≤ 16) (ht : t ≤ 48) (x1 x2 : Int32) (wd : Nat) (hw : wd ≤ 8) : Ctr E yX5_isBox cdX5_isBox (rmL 3) [.ref (ad 0), .int x1, .int x2, .int (nI wd)] (WM E ad th n t dr ms pe pw len cod mm fs fc fw sc li lm ls lq hs) (pR (some (.int (bI (bxB n t x1 x2 wd)))) (WM E ad th n t dr ms pe pw len cod mm fs fc fw sc li lm ls lq hs)) noX 0 0 := by
  refine ctr_of hst (by decide) (Nat.le_of_ble_eq_true rfl) (fun G O OR hN => ?_)
  have O : OKG E G cX5_isBox RX5 (rmL 3) [] := O
  have hN : nLG G = 4 := hN
  refine v_aload_n O dX5_isBox_0 rfl ?_
  refine v_iload_n O dX5_isBox_1 rfl ?_
  refine v_V1 O dX5_isBox_2 lkX5_86 (c_isSlope hst hn x1) 0 rfl rfl rfl rfl rfl (by first | exact hkc | exact Nat.zero_le _) (by first | exact hks | exact Nat.zero_le _) ?_
  refine v_ifB_eq (tgt := 27) O dX5_isBox_5 (by decide) (fun h => ?_) (fun h => ?_)
  · refine v_iconst (v := nI 0) O dX5_isBox_27 (by decide) ?_
    exact v_zreturn O OR dX5_isBox_28 (by decide) (⟨by unfold bxB; rw [h]; rfl, rfl⟩) (Nat.le_of_ble_eq_true rfl) (Nat.le_of_ble_eq_true rfl)
  · obtain ⟨d, hd, rfl⟩ := inB_of h
    have hdi : (nI d).toInt.toNat = d := by rw [nI_toInt (by omega)]; omega
    refine v_iload_n O dX5_isBox_8 rfl ?_
    refine v_if_lt (tgt := 27) O dX5_isBox_9 (by decide) (fun h2 => ?_) (fun h2 => ?_)
    · refine v_iconst (v := nI 0) O dX5_isBox_27 (by decide) ?_
      exact v_zreturn O OR dX5_isBox_28 (by decide) (⟨by unfold bxB; rw [h, decide_eq_false (by rw [fa_lt, show (0 : Int32).toInt = 0 from rfl] at h2; omega)]; rfl, rfl⟩) (Nat.le_of_ble_eq_true rfl) (Nat.le_of_ble_eq_true rfl)
    · rw [fa_lt, show (0 : Int32).toInt = 0 from rfl] at h2
      refine v_iload_n O dX5_isBox_12 rfl ?_
      refine v_aload_n O dX5_isBox_13 rfl ?_
      refine v_iload_n O dX5_isBox_14 rfl ?_
      refine v_V1 O dX5_isBox_15 lkX5_111 (c_linesOfM hst ht d (by omega)) 0 rfl rfl rfl rfl rfl (by first | exact hkc | exact Nat.zero_le _) (by first | exact hks | exact Nat.zero_le _) ?_
      refine v_iload_n O dX5_isBox_18 rfl ?_
      refine v_isub O dX5_isBox_19 ?_
      refine v_icmp_gt (tgt := 27) O dX5_isBox_20 (by decide) (fun h3 => ?_) (fun h3 => ?_)
      · rw [fa_lt, pk_sub_toInt (by omega) (by omega)] at h3
        refine v_iconst (v := nI 0) O dX5_isBox_27 (by decide) ?_
        exact v_zreturn O OR dX5_isBox_28 (by decide) (⟨by unfold bxB; rw [h, hdi, decide_eq_true (by omega), decide_eq_false (by omega)]; rfl, rfl⟩) (Nat.le_of_ble_eq_true rfl) (Nat.le_of_ble_eq_true rfl)
      · rw [fa_lt, pk_sub_toInt (by omega) (by omega)] at h3
        refine v_iconst (v := nI 1) O dX5_isBox_23 (by decide) ?_
        refine v_goto (tgt := 28) O dX5_isBox_24 (by decide) ?_
        exact v_zreturn O OR dX5_isBox_28 (by decide) (⟨by unfold bxB; rw [h, hdi, decide_eq_true (by omega), decide_eq_true (by omega)]; rfl, rfl⟩) (Nat.le_of_ble_eq_true rfl) (Nat.le_of_ble_eq_true rfl)
def smL (f : Nat → Int64) : Nat → Int64
  | 0 => 0
  | k + 1 => smL f k + f k
/-- the line sum of slope d from column q, as a number and as a long -/
def lnN (ms : Nat) (pw : Nat → Nat) (K n d q : Nat) : Nat := lin (mb ms) pw n (oby K n false d) q
def lnL (ms : Nat) (pw : Nat → Nat) (K n d q : Nat) : Int64 := (nI (lnN ms pw K n d q)).toInt64
theorem lp_sumOfLines {E : ET} {G : GT} (O : OKG E G cX5_sumOfLines RX5 (rmL 4) []) (hN : nLG G = 5) {ad : Nat → Nat} {th n t dr ms : Nat} {pe pw : Nat → Nat} {len : Nat} {cod : Nat → Nat} {mm : Nat} {fs fc fw : Nat → Nat} {sc : Nat → Int64} {li : Nat → Nat} {lm ls lq hs : Int64} {K d : Nat} (hst : E.1.stackTraces = false) (hK : 1 ≤ K) (hK4 : K ≤ 4) (hn : n = 2 ^ K) (hm : ms < 65536) (hd : d < n) (ht : t ≤ 48) (kk : V E G 0 0 33 [(2, .long (smL (lnL ms pw K n d) (t - d)))] [] (WM E ad th n t dr ms pe pw len cod mm fs fc fw sc li lm ls lq hs)) : ∀ j q : Nat, q ≤ t - d → j = t - d - q → V E G 0 0 5 [(0, .ref (ad 0)), (1, .int (nI d)), (2, .long (smL (lnL ms pw K n d) q)), (4, .int (nI q))] [] (WM E ad th n t dr ms pe pw len cod mm fs fc fw sc li lm ls lq hs) := by
  obtain ⟨g1, g2⟩ := two_le hn hK hK4
  intro j
  induction j using Nat.strongRecOn with
  | _ j ih =>
    intro q hq hj
    refine v_iload O dX5_sumOfLines_5 rfl ?_
    refine v_aload_n O dX5_sumOfLines_7 rfl ?_
    refine v_iload_n O dX5_sumOfLines_8 rfl ?_
    refine v_V1 O dX5_sumOfLines_9 lkX5_111 (c_linesOfM hst ht d (by omega)) 0 rfl rfl rfl rfl rfl (by first | exact hkc | exact Nat.zero_le _) (by first | exact hks | exact Nat.zero_le _) ?_
    refine v_icmpN_ge (tgt := 33) O dX5_sumOfLines_12 (by decide) (by omega) (by omega) (fun h => ?_) (fun h => ?_)
    · have e : q = t - d := by omega
      subst e
      refine v_ord [2] ?_
      exact kk
    · refine v_lload_n O dX5_sumOfLines_15 rfl ?_
      refine v_aload_n O dX5_sumOfLines_16 rfl ?_
      refine v_iload_n O dX5_sumOfLines_17 rfl ?_
      refine v_iload O dX5_sumOfLines_18 rfl ?_
      refine v_iconst (v := bI false) O dX5_sumOfLines_20 (by decide) ?_
      refine v_V1 O dX5_sumOfLines_21 lkX5_117 (c_lineBy hst hK hK4 hn hm ht d q false hd (by omega)) 0 rfl rfl rfl rfl rfl (by first | exact hkc | exact Nat.zero_le _) (by first | exact hks | exact Nat.zero_le _) ?_
      refine v_i2l O dX5_sumOfLines_24 ?_
      refine v_ladd O dX5_sumOfLines_25 ?_
      refine v_lstore_n O dX5_sumOfLines_26 (by rw [hN]; decide) ?_
      refine v_iincN (b := 1) O dX5_sumOfLines_27 rfl (by decide) (by rw [hN]; decide) ?_
      refine v_goto (tgt := 5) O dX5_sumOfLines_30 (by decide) ?_
      refine v_ord [0, 1, 2, 4] ?_
      exact ih (j - 1) (by omega) (q + 1) (by omega) (by omega)
theorem c_sumOfLines {E : ET} {ad : Nat → Nat} {th n t dr ms : Nat} {pe pw : Nat → Nat} {len : Nat} {cod : Nat → Nat} {mm : Nat} {fs fc fw : Nat → Nat} {sc : Nat → Int64} {li : Nat → Nat} {lm ls lq hs : Int64} {K : Nat} (hst : E.1.stackTraces = false) (hK : 1 ≤ K) (hK4 : K ≤ 4) (hn : n = 2 ^ K) (hm : ms < 65536) (ht : t ≤ 48) (d : Nat) (hd : d < n) : Ctr E yX5_sumOfLines cdX5_sumOfLines (rmL 4) [.ref (ad 0), .int (nI d)] (WM E ad th n t dr ms pe pw len cod mm fs fc fw sc li lm ls lq hs) (pR (some (.long (smL (lnL ms pw K n d) (t - d)))) (WM E ad th n t dr ms pe pw len cod mm fs fc fw sc li lm ls lq hs)) noX 0 0 := by
  refine ctr_of hst (by decide) (Nat.le_of_ble_eq_true rfl) (fun G O OR hN => ?_)
  have O : OKG E G cX5_sumOfLines RX5 (rmL 4) [] := O
  have hN : nLG G = 5 := hN
  refine v_lconst (v := 0) O dX5_sumOfLines_0 (by decide) ?_
  refine v_lstore_n O dX5_sumOfLines_1 (by rw [hN]; decide) ?_
  refine v_iconst (v := nI 0) O dX5_sumOfLines_2 (by decide) ?_
  refine v_istore O dX5_sumOfLines_3 (by rw [hN]; decide) ?_
  refine v_ord [0, 1, 2, 4] ?_
  refine lp_sumOfLines O hN hst hK hK4 hn hm hd ht ?_ (t - d) 0 (by omega) (by omega)
  refine v_lload_n O dX5_sumOfLines_33 rfl ?_
  exact v_lreturn O OR dX5_sumOfLines_34 (⟨rfl, rfl⟩) (Nat.le_of_ble_eq_true rfl) (Nat.le_of_ble_eq_true rfl)
def fl2 {α : Type} (f g : Nat → α) (i : Nat) : Nat → α := fun q => if q < i then f q else g q
theorem fl2_0 {α : Type} (f g : Nat → α) : fl2 f g 0 = g := by funext q; simp [fl2]
theorem fl2_in {α : Type} {f g : Nat → α} {i q : Nat} (h : q < i) : fl2 f g i q = f q := if_pos h
theorem fl2_s {α : Type} (f g : Nat → α) (i : Nat) : va_up (fl2 f g i) i (f i) = fl2 f g (i + 1) := by
  funext q
  simp only [va_up, fl2]
  by_cases h : q = i
  · subst h; rw [if_pos rfl, if_pos (by omega)]
  · rw [if_neg h]
    by_cases h2 : q < i
    · rw [if_pos h2, if_pos (by omega)]
    · rw [if_neg h2, if_neg (by omega)]
def sqL (f : Nat → Int64) : Nat → Int64 := fun q => f q * f q
theorem lp_layLines {E : ET} {G : GT} (O : OKG E G cX5_layLines RX5 (rmL 4) []) (hN : nLG G = 3) {ad : Nat → Nat} {th n t dr ms : Nat} {pe pw : Nat → Nat} {len : Nat} {cod : Nat → Nat} {mm : Nat} {fs fc fw : Nat → Nat} {sc : Nat → Int64} {li : Nat → Nat} {lm ls lq hs : Int64} {K d : Nat} {lm0 : Int64} (hst : E.1.stackTraces = false) (hK : 1 ≤ K) (hK4 : K ≤ 4) (hn : n = 2 ^ K) (hm : ms < 65536) (hd : d < n) (ht : t ≤ 48) (kk : V E G 0 0 90 [] [] (WM E ad th n t dr ms pe pw len cod mm fs fc fw sc (fl2 (lnN ms pw K n d) li (t - d)) (lm0) (smL (lnL ms pw K n d) (t - d)) (smL (sqL (lnL ms pw K n d)) (t - d)) hs)) : ∀ j q : Nat, q ≤ t - d → j = t - d - q → V E G 0 0 22 [(0, .ref (ad 0)), (1, .int (nI d)), (2, .int (nI q))] [] (WM E ad th n t dr ms pe pw len cod mm fs fc fw sc (fl2 (lnN ms pw K n d) li q) (lm0) (smL (lnL ms pw K n d) q) (smL (sqL (lnL ms pw K n d)) q) hs) := by
  obtain ⟨g1, g2⟩ := two_le hn hK hK4
  intro j
  induction j using Nat.strongRecOn with
  | _ j ih =>
    intro q hq hj
    refine v_iload_n O dX5_layLines_22 rfl ?_
    refine v_aload_n O dX5_layLines_23 rfl ?_
    refine v_iload_n O dX5_layLines_24 rfl ?_
    refine v_V1 O dX5_layLines_25 lkX5_111 (c_linesOfM hst ht d (by omega)) 0 rfl rfl rfl rfl rfl (by first | exact hkc | exact Nat.zero_le _) (by first | exact hks | exact Nat.zero_le _) ?_
    refine v_icmpN_ge (tgt := 90) O dX5_layLines_28 (by decide) (by omega) (by omega) (fun h => ?_) (fun h => ?_)
    · have e : q = t - d := by omega
      subst e
      refine v_ord [] ?_
      exact kk
    · refine v_aload_n O dX5_layLines_31 rfl ?_
      refine v_get O dX5_layLines_32 flX5_36 0 rfl rfl ?_
      refine v_iload_n O dX5_layLines_35 rfl ?_
      refine v_aload_n O dX5_layLines_36 rfl ?_
      refine v_iload_n O dX5_layLines_37 rfl ?_
      refine v_iload_n O dX5_layLines_38 rfl ?_
      refine v_iconst (v := bI false) O dX5_layLines_39 (by decide) ?_
      refine v_V1 O dX5_layLines_40 lkX5_117 (c_lineBy hst hK hK4 hn hm ht d q false hd (by omega)) 0 rfl rfl rfl rfl rfl (by first | exact hkc | exact Nat.zero_le _) (by first | exact hks | exact Nat.zero_le _) ?_
      refine v_iastN O dX5_layLines_43 8 rfl (by decide) (by omega) ?_
      refine v_w (w' := (WM E ad th n t dr ms pe pw len cod mm fs fc fw sc (fl2 (lnN ms pw K n d) li (q + 1)) (lm0) (smL (lnL ms pw K n d) q) (smL (sqL (lnL ms pw K n d)) q) hs)) (by rw [← fl2_s]; rfl) ?_
      have e : fl2 (lnN ms pw K n d) li (q + 1) q = lnN ms pw K n d q := fl2_in (by omega)
      refine v_aload_n O dX5_layLines_44 rfl ?_
      refine v_dup O dX5_layLines_45 rfl ?_
      refine v_get O dX5_layLines_46 flX5_128 0 rfl rfl ?_
      refine v_aload_n O dX5_layLines_49 rfl ?_
      refine v_get O dX5_layLines_50 flX5_36 0 rfl rfl ?_
      refine v_iload_n O dX5_layLines_53 rfl ?_
      refine v_iald O dX5_layLines_54 8 rfl (by decide) (by omega) ?_
      refine v_i2l O dX5_layLines_55 ?_
      refine v_ladd O dX5_layLines_56 ?_
      refine v_put (ty := .long) O dX5_layLines_57 flX5_128 ftX5 0 rfl rfl (by decide +kernel) rfl rfl (Nat.le_of_ble_eq_true rfl) ?_
      refine v_aload_n O dX5_layLines_60 rfl ?_
      refine v_dup O dX5_layLines_61 rfl ?_
      refine v_get O dX5_layLines_62 flX5_131 0 rfl rfl ?_
      refine v_aload_n O dX5_layLines_65 rfl ?_
      refine v_get O dX5_layLines_66 flX5_36 0 rfl rfl ?_
      refine v_iload_n O dX5_layLines_69 rfl ?_
      refine v_iald O dX5_layLines_70 8 rfl (by decide) (by omega) ?_
      refine v_i2l O dX5_layLines_71 ?_
      refine v_aload_n O dX5_layLines_72 rfl ?_
      refine v_get O dX5_layLines_73 flX5_36 0 rfl rfl ?_
      refine v_iload_n O dX5_layLines_76 rfl ?_
      refine v_iald O dX5_layLines_77 8 rfl (by decide) (by omega) ?_
      refine v_i2l O dX5_layLines_78 ?_
      refine v_lmul O dX5_layLines_79 ?_
      refine v_ladd O dX5_layLines_80 ?_
      refine v_put (ty := .long) O dX5_layLines_81 flX5_131 ftX5 0 rfl rfl (by decide +kernel) rfl rfl (Nat.le_of_ble_eq_true rfl) ?_
      refine v_iincN (b := 1) O dX5_layLines_84 rfl (by decide) (by rw [hN]; decide) ?_
      refine v_goto (tgt := 22) O dX5_layLines_87 (by decide) ?_
      refine v_ord [0, 1, 2] ?_
      refine v_w (w' := (WM E ad th n t dr ms pe pw len cod mm fs fc fw sc (fl2 (lnN ms pw K n d) li (q + 1)) (lm0) (smL (lnL ms pw K n d) (q + 1)) (smL (sqL (lnL ms pw K n d)) (q + 1)) hs)) (by rw [e]; rfl) ?_
      exact ih (j - 1) (by omega) (q + 1) (by omega) (by omega)
theorem c_layLines {E : ET} {ad : Nat → Nat} {th n t dr ms : Nat} {pe pw : Nat → Nat} {len : Nat} {cod : Nat → Nat} {mm : Nat} {fs fc fw : Nat → Nat} {sc : Nat → Int64} {li : Nat → Nat} {lm ls lq hs : Int64} {K : Nat} (hst : E.1.stackTraces = false) (hK : 1 ≤ K) (hK4 : K ≤ 4) (hn : n = 2 ^ K) (hm : ms < 65536) (ht : t ≤ 48) (d : Nat) (hd : d < n) : Ctr E yX5_layLines cdX5_layLines (rmL 4) [.ref (ad 0), .int (nI d)] (WM E ad th n t dr ms pe pw len cod mm fs fc fw sc li lm ls lq hs) (pR none (WM E ad th n t dr ms pe pw len cod mm fs fc fw sc (fl2 (lnN ms pw K n d) li (t - d)) ((nI (t - d)).toInt64) (smL (lnL ms pw K n d) (t - d)) (smL (sqL (lnL ms pw K n d)) (t - d)) hs)) noX 0 0 := by
  obtain ⟨g1, g2⟩ := two_le hn hK hK4
  refine ctr_of hst (by decide) (Nat.le_of_ble_eq_true rfl) (fun G O OR hN => ?_)
  have O : OKG E G cX5_layLines RX5 (rmL 4) [] := O
  have hN : nLG G = 3 := hN
  refine v_aload_n O dX5_layLines_0 rfl ?_
  refine v_aload_n O dX5_layLines_1 rfl ?_
  refine v_iload_n O dX5_layLines_2 rfl ?_
  refine v_V1 O dX5_layLines_3 lkX5_111 (c_linesOfM hst ht d (by omega)) 0 rfl rfl rfl rfl rfl (by first | exact hkc | exact Nat.zero_le _) (by first | exact hks | exact Nat.zero_le _) ?_
  refine v_i2l O dX5_layLines_6 ?_
  refine v_put (ty := .long) O dX5_layLines_7 flX5_124 ftX5 0 rfl rfl (by decide +kernel) rfl rfl (Nat.le_of_ble_eq_true rfl) ?_
  refine v_aload_n O dX5_layLines_10 rfl ?_
  refine v_lconst (v := 0) O dX5_layLines_11 (by decide) ?_
  refine v_put (ty := .long) O dX5_layLines_12 flX5_128 ftX5 0 rfl rfl (by decide +kernel) rfl rfl (Nat.le_of_ble_eq_true rfl) ?_
  refine v_aload_n O dX5_layLines_15 rfl ?_
  refine v_lconst (v := 0) O dX5_layLines_16 (by decide) ?_
  refine v_put (ty := .long) O dX5_layLines_17 flX5_131 ftX5 0 rfl rfl (by decide +kernel) rfl rfl (Nat.le_of_ble_eq_true rfl) ?_
  refine v_iconst (v := nI 0) O dX5_layLines_20 (by decide) ?_
  refine v_istore_n O dX5_layLines_21 (by rw [hN]; decide) ?_
  refine v_ord [0, 1, 2] ?_
  refine v_w (w' := (WM E ad th n t dr ms pe pw len cod mm fs fc fw sc (fl2 (lnN ms pw K n d) li 0) ((nI (t - d)).toInt64) (smL (lnL ms pw K n d) 0) (smL (sqL (lnL ms pw K n d)) 0) hs)) (by rw [fl2_0]; rfl) ?_
  refine lp_layLines (lm := lm) (ls := ls) (lq := lq) O hN hst hK hK4 hn hm hd ht ?_ (t - d) 0 (by omega) (by omega)
  exact v_return O OR dX5_layLines_90 (⟨rfl, rfl⟩) (Nat.le_of_ble_eq_true rfl) (Nat.le_of_ble_eq_true rfl)
theorem lp_boxBy {E : ET} {G : GT} {R0 : Room} {tb : List ExceptionTableEntry} (O : OKG E G cX5_boxBy RX5 R0 tb) (hN : nLG G = 5) {ad : Nat → Nat} {th n t dr ms : Nat} {pe pw : Nat → Nat} {len : Nat} {cod : Nat → Nat} {mm : Nat} {fs fc fw : Nat → Nat} {sc : Nat → Int64} {li : Nat → Nat} {lm ls lq hs : Int64} {q wd : Nat} (hq : q + wd ≤ 48) (kk : V E G 0 0 29 [(3, .int (nI (sm (fun i => li (q + i)) wd)))] [] (WM E ad th n t dr ms pe pw len cod mm fs fc fw sc li lm ls lq hs)) : ∀ j i : Nat, i ≤ wd → j = wd - i → V E G 0 0 5 [(0, .ref (ad 0)), (1, .int (nI q)), (2, .int (nI wd)), (3, .int (nI (sm (fun i => li (q + i)) i))), (4, .int (nI (q + i)))] [] (WM E ad th n t dr ms pe pw len cod mm fs fc fw sc li lm ls lq hs) := by
  intro j
  induction j using Nat.strongRecOn with
  | _ j ih =>
    intro i hi hj
    refine v_iload O dX5_boxBy_5 rfl ?_
    refine v_iload_n O dX5_boxBy_7 rfl ?_
    refine v_iload_n O dX5_boxBy_8 rfl ?_
    refine v_iaddN O dX5_boxBy_9 ?_
    refine v_icmpN_ge (tgt := 29) O dX5_boxBy_10 (by decide) (by omega) (by omega) (fun h => ?_) (fun h => ?_)
    · have e : i = wd := by omega
      subst e
      refine v_ord [3] ?_
      exact kk
    · refine v_iload_n O dX5_boxBy_13 rfl ?_
      refine v_aload_n O dX5_boxBy_14 rfl ?_
      refine v_get O dX5_boxBy_15 flX5_36 0 rfl rfl ?_
      refine v_iload O dX5_boxBy_18 rfl ?_
      refine v_iald O dX5_boxBy_20 8 rfl (by decide) (by omega) ?_
      refine v_iaddN O dX5_boxBy_21 ?_
      refine v_istore_n O dX5_boxBy_22 (by rw [hN]; decide) ?_
      refine v_iincN (b := 1) O dX5_boxBy_23 rfl (by decide) (by rw [hN]; decide) ?_
      refine v_goto (tgt := 5) O dX5_boxBy_26 (by decide) ?_
      refine v_ord [0, 1, 2, 3, 4] ?_
      exact ih (j - 1) (by omega) (i + 1) (by omega) (by omega)
theorem c_boxBy {E : ET} {ad : Nat → Nat} {th n t dr ms : Nat} {pe pw : Nat → Nat} {len : Nat} {cod : Nat → Nat} {mm : Nat} {fs fc fw : Nat → Nat} {sc : Nat → Int64} {li : Nat → Nat} {lm ls lq hs : Int64} (hst : E.1.stackTraces = false) (q wd : Nat) (hq : q + wd ≤ 48) : Ctr E yX5_boxBy cdX5_boxBy (rmL 1) [.ref (ad 0), .int (nI q), .int (nI wd)] (WM E ad th n t dr ms pe pw len cod mm fs fc fw sc li lm ls lq hs) (pR (some (.int (nI (sm (fun i => li (q + i)) wd)))) (WM E ad th n t dr ms pe pw len cod mm fs fc fw sc li lm ls lq hs)) noX 0 0 := by
  refine ctr_of hst (by decide) (Nat.le_of_ble_eq_true rfl) (fun G O OR hN => ?_)
  have O : OKG E G cX5_boxBy RX5 (rmL 1) [] := O
  have hN : nLG G = 5 := hN
  refine v_iconst (v := nI 0) O dX5_boxBy_0 (by decide) ?_
  refine v_istore_n O dX5_boxBy_1 (by rw [hN]; decide) ?_
  refine v_iload_n O dX5_boxBy_2 rfl ?_
  refine v_istore O dX5_boxBy_3 (by rw [hN]; decide) ?_
  refine v_ord [0, 1, 2, 3, 4] ?_
  refine lp_boxBy O hN hq ?_ wd 0 (by omega) (by omega)
  refine v_iload_n O dX5_boxBy_29 rfl ?_
  exact v_ireturn O OR dX5_boxBy_30 (⟨rfl, rfl⟩) (Nat.le_of_ble_eq_true rfl) (Nat.le_of_ble_eq_true rfl)
def scE (N S : Int64) (b wd : Nat) : Int64 := N * (nI b).toInt64 - (nI wd).toInt64 * S
def scV (N S Q : Int64) : Int64 := N * Q - S * S
def scr (N S Q : Int64) (b wd : Nat) : Int64 := if 0 < scE N S b wd ∧ 0 < scV N S Q then 1000 * scE N S b wd * scE N S b wd / ((nI wd).toInt64 * scV N S Q) else 0
theorem le0_64 {x : Int64} : x ≤ 0 ↔ ¬ 0 < x := by
  rw [fa_le64, fa_lt64]; omega
theorem c_scoreBy {E : ET} {ad : Nat → Nat} {th n t dr ms : Nat} {pe pw : Nat → Nat} {len : Nat} {cod : Nat → Nat} {mm : Nat} {fs fc fw : Nat → Nat} {sc : Nat → Int64} {li : Nat → Nat} {lm ls lq hs : Int64} (hst : E.1.stackTraces = false) (q wd : Nat) (hq : q + wd ≤ 48) (hz : 0 < scV lm ls lq → ¬ (nI wd).toInt64 * scV lm ls lq = 0) : Ctr E yX5_scoreBy cdX5_scoreBy (rmL 2) [.ref (ad 0), .int (nI q), .int (nI wd)] (WM E ad th n t dr ms pe pw len cod mm fs fc fw sc li lm ls lq hs) (pR (some (.long (scr lm ls lq (sm (fun i => li (q + i)) wd) wd))) (WM E ad th n t dr ms pe pw len cod mm fs fc fw sc li lm ls lq hs)) noX 0 0 := by
  refine ctr_of hst (by decide) (Nat.le_of_ble_eq_true rfl) (fun G O OR hN => ?_)
  have O : OKG E G cX5_scoreBy RX5 (rmL 2) [] := O
  have hN : nLG G = 7 := hN
  refine v_aload_n O dX5_scoreBy_0 rfl ?_
  refine v_get O dX5_scoreBy_1 flX5_124 0 rfl rfl ?_
  refine v_aload_n O dX5_scoreBy_4 rfl ?_
  refine v_get O dX5_scoreBy_5 flX5_131 0 rfl rfl ?_
  refine v_lmul O dX5_scoreBy_8 ?_
  refine v_aload_n O dX5_scoreBy_9 rfl ?_
  refine v_get O dX5_scoreBy_10 flX5_128 0 rfl rfl ?_
  refine v_aload_n O dX5_scoreBy_13 rfl ?_
  refine v_get O dX5_scoreBy_14 flX5_128 0 rfl rfl ?_
  refine v_lmul O dX5_scoreBy_17 ?_
  refine v_lsub O dX5_scoreBy_18 ?_
  refine v_lstore_n O dX5_scoreBy_19 (by rw [hN]; decide) ?_
  refine v_aload_n O dX5_scoreBy_20 rfl ?_
  refine v_get O dX5_scoreBy_21 flX5_124 0 rfl rfl ?_
  refine v_aload_n O dX5_scoreBy_24 rfl ?_
  refine v_iload_n O dX5_scoreBy_25 rfl ?_
  refine v_iload_n O dX5_scoreBy_26 rfl ?_
  refine v_V1 O dX5_scoreBy_27 lkX5_134 (c_boxBy hst q wd hq) 0 rfl rfl rfl rfl rfl (by first | exact hkc | exact Nat.zero_le _) (by first | exact hks | exact Nat.zero_le _) ?_
  refine v_i2l O dX5_scoreBy_30 ?_
  refine v_lmul O dX5_scoreBy_31 ?_
  refine v_iload_n O dX5_scoreBy_32 rfl ?_
  refine v_i2l O dX5_scoreBy_33 ?_
  refine v_aload_n O dX5_scoreBy_34 rfl ?_
  refine v_get O dX5_scoreBy_35 flX5_128 0 rfl rfl ?_
  refine v_lmul O dX5_scoreBy_38 ?_
  refine v_lsub O dX5_scoreBy_39 ?_
  refine v_lstore O dX5_scoreBy_40 (by rw [hN]; decide) ?_
  refine v_lload O dX5_scoreBy_42 rfl ?_
  refine v_lconst (v := 0) O dX5_scoreBy_44 (by decide) ?_
  refine v_lcmp O dX5_scoreBy_45 ?_
  refine v_ifC_le (tgt := 72) O dX5_scoreBy_46 (by decide) (fun h => ?_) (fun h => ?_)
  · refine v_lconst (v := 0) O dX5_scoreBy_72 (by decide) ?_
    exact v_lreturn O OR dX5_scoreBy_73 (⟨by unfold scr; rw [if_neg (fun z => le0_64.mp h z.1)], rfl⟩) (Nat.le_of_ble_eq_true rfl) (Nat.le_of_ble_eq_true rfl)
  · have h : 0 < scE lm ls (sm (fun i => li (q + i)) wd) wd := Classical.not_not.mp (fun z => h (le0_64.mpr z))
    refine v_lload_n O dX5_scoreBy_49 rfl ?_
    refine v_lconst (v := 0) O dX5_scoreBy_50 (by decide) ?_
    refine v_lcmp O dX5_scoreBy_51 ?_
    refine v_ifC_le (tgt := 72) O dX5_scoreBy_52 (by decide) (fun h2 => ?_) (fun h2 => ?_)
    · refine v_lconst (v := 0) O dX5_scoreBy_72 (by decide) ?_
      exact v_lreturn O OR dX5_scoreBy_73 (⟨by unfold scr; rw [if_neg (fun z => le0_64.mp h2 z.2)], rfl⟩) (Nat.le_of_ble_eq_true rfl) (Nat.le_of_ble_eq_true rfl)
    · have h2 : 0 < scV lm ls lq := Classical.not_not.mp (fun z => h2 (le0_64.mpr z))
      refine v_ldc2 O dX5_scoreBy_55 clX5_137 ?_
      refine v_lload O dX5_scoreBy_58 rfl ?_
      refine v_lmul O dX5_scoreBy_60 ?_
      refine v_lload O dX5_scoreBy_61 rfl ?_
      refine v_lmul O dX5_scoreBy_63 ?_
      refine v_iload_n O dX5_scoreBy_64 rfl ?_
      refine v_i2l O dX5_scoreBy_65 ?_
      refine v_lload_n O dX5_scoreBy_66 rfl ?_
      refine v_lmul O dX5_scoreBy_67 ?_
      refine v_ldiv O dX5_scoreBy_68 (hz h2) ?_
      refine v_goto (tgt := 73) O dX5_scoreBy_69 (by decide) ?_
      exact v_lreturn O OR dX5_scoreBy_73 (⟨by unfold scr; rw [if_pos ⟨h, h2⟩]; rfl, rfl⟩) (Nat.le_of_ble_eq_true rfl) (Nat.le_of_ble_eq_true rfl)
def tld (fs fc fw : Nat → Nat) (sc : Nat → Int64) (dr i a : Nat) : Int64 := if a = 0 then (nI (fs i)).toInt64 else if a = 1 then (nI (fc i)).toInt64 else if a = 2 then (nI (fw i)).toInt64 else if a = 3 then sc i else (nI (fc i + dr)).toInt64
theorem c_told {E : ET} {ad : Nat → Nat} {th n t dr ms : Nat} {pe pw : Nat → Nat} {len : Nat} {cod : Nat → Nat} {mm : Nat} {fs fc fw : Nat → Nat} {sc : Nat → Int64} {li : Nat → Nat} {lm ls lq hs : Int64} (hst : E.1.stackTraces = false) (i a : Nat) (hi : i < 8) (ha : a < 5) : Ctr E yX5_told cdX5_told (rmL 1) [.ref (ad 0), .int (nI i), .int (nI a)] (WM E ad th n t dr ms pe pw len cod mm fs fc fw sc li lm ls lq hs) (pR (some (.long (tld fs fc fw sc dr i a))) (WM E ad th n t dr ms pe pw len cod mm fs fc fw sc li lm ls lq hs)) noX 0 0 := by
  refine ctr_of hst (by decide) (Nat.le_of_ble_eq_true rfl) (fun G O OR hN => ?_)
  have O : OKG E G cX5_told RX5 (rmL 1) [] := O
  have hN : nLG G = 3 := hN
  refine v_iload_n O dX5_told_0 rfl ?_
  rcases (show a = 0 ∨ a = 1 ∨ a = 2 ∨ a = 3 ∨ a = 4 by omega) with rfl | rfl | rfl | rfl | rfl
  · refine v_tableIn (off := 31) (tgt := 32) O dX5_told_1 (by decide) (by decide) (by decide) (by decide) ?_
    refine v_aload_n O dX5_told_32 rfl ?_
    refine v_get O dX5_told_33 flX5_23 0 rfl rfl ?_
    refine v_iload_n O dX5_told_36 rfl ?_
    refine v_iald O dX5_told_37 4 rfl (by decide) (by omega) ?_
    refine v_i2l O dX5_told_38 ?_
    exact v_lreturn O OR dX5_told_39 (⟨rfl, rfl⟩) (Nat.le_of_ble_eq_true rfl) (Nat.le_of_ble_eq_true rfl)
  · refine v_tableIn (off := 39) (tgt := 40) O dX5_told_1 (by decide) (by decide) (by decide) (by decide) ?_
    refine v_aload_n O dX5_told_40 rfl ?_
    refine v_get O dX5_told_41 flX5_26 0 rfl rfl ?_
    refine v_iload_n O dX5_told_44 rfl ?_
    refine v_iald O dX5_told_45 5 rfl (by decide) (by omega) ?_
    refine v_i2l O dX5_told_46 ?_
    exact v_lreturn O OR dX5_told_47 (⟨rfl, rfl⟩) (Nat.le_of_ble_eq_true rfl) (Nat.le_of_ble_eq_true rfl)
  · refine v_tableIn (off := 47) (tgt := 48) O dX5_told_1 (by decide) (by decide) (by decide) (by decide) ?_
    refine v_aload_n O dX5_told_48 rfl ?_
    refine v_get O dX5_told_49 flX5_29 0 rfl rfl ?_
    refine v_iload_n O dX5_told_52 rfl ?_
    refine v_iald O dX5_told_53 6 rfl (by decide) (by omega) ?_
    refine v_i2l O dX5_told_54 ?_
    exact v_lreturn O OR dX5_told_55 (⟨rfl, rfl⟩) (Nat.le_of_ble_eq_true rfl) (Nat.le_of_ble_eq_true rfl)
  · refine v_tableIn (off := 55) (tgt := 56) O dX5_told_1 (by decide) (by decide) (by decide) (by decide) ?_
    refine v_aload_n O dX5_told_56 rfl ?_
    refine v_get O dX5_told_57 flX5_32 0 rfl rfl ?_
    refine v_iload_n O dX5_told_60 rfl ?_
    refine v_lald O dX5_told_61 7 rfl (by decide) (by omega) ?_
    exact v_lreturn O OR dX5_told_62 (⟨rfl, rfl⟩) (Nat.le_of_ble_eq_true rfl) (Nat.le_of_ble_eq_true rfl)
  · refine v_tableOut (tgt := 63) O dX5_told_1 (by decide) (by decide) ?_
    refine v_aload_n O dX5_told_63 rfl ?_
    refine v_get O dX5_told_64 flX5_26 0 rfl rfl ?_
    refine v_iload_n O dX5_told_67 rfl ?_
    refine v_iald O dX5_told_68 5 rfl (by decide) (by omega) ?_
    refine v_aload_n O dX5_told_69 rfl ?_
    refine v_get O dX5_told_70 flX5_49 0 rfl rfl ?_
    refine v_iaddN O dX5_told_73 ?_
    refine v_i2l O dX5_told_74 ?_
    exact v_lreturn O OR dX5_told_75 (⟨rfl, rfl⟩) (Nat.le_of_ble_eq_true rfl) (Nat.le_of_ble_eq_true rfl)
theorem c_mixM {E : ET} {ad : Nat → Nat} {th n t dr ms : Nat} {pe pw : Nat → Nat} {len : Nat} {cod : Nat → Nat} {mm : Nat} {fs fc fw : Nat → Nat} {sc : Nat → Int64} {li : Nat → Nat} {lm ls lq hs : Int64} (hst : E.1.stackTraces = false) (x : Int64) : Ctr E yX5_mix cdX5_mix (rmL 1) [.ref (ad 0), .long x] (WM E ad th n t dr ms pe pw len cod mm fs fc fw sc li lm ls lq hs) (pR none (WM E ad th n t dr ms pe pw len cod mm fs fc fw sc li lm ls lq (31 * hs + x))) noX 0 0 := by
  refine ctr_of hst (by decide) (Nat.le_of_ble_eq_true rfl) (fun G O OR hN => ?_)
  have O : OKG E G cX5_mix RX5 (rmL 1) [] := O
  have hN : nLG G = 3 := hN
  refine v_aload_n O dX5_mix_0 rfl ?_
  refine v_ldc2 O dX5_mix_1 clX5_162 ?_
  refine v_aload_n O dX5_mix_4 rfl ?_
  refine v_get O dX5_mix_5 flX5_164 0 rfl rfl ?_
  refine v_lmul O dX5_mix_8 ?_
  refine v_lload_n O dX5_mix_9 rfl ?_
  refine v_ladd O dX5_mix_10 ?_
  refine v_put (ty := .long) O dX5_mix_11 flX5_164 ftX5 0 rfl rfl (by decide +kernel) rfl rfl (Nat.le_of_ble_eq_true rfl) ?_
  exact v_return O OR dX5_mix_14 (⟨rfl, rfl⟩) (Nat.le_of_ble_eq_true rfl) (Nat.le_of_ble_eq_true rfl)
