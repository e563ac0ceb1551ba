-- the hash
def mx (h x : Int64) : Int64 := 31 * h + x
def mxC (mk : Nat → Bool) (pw pe : Nat → Nat) (t : Nat) (h : Int64) : Nat → Int64
  | 0 => h
  | c + 1 => mx (mx (mx (mxC mk pw pe t h c) (if mk c = true then 1 else 0)) (nI (chs pw c t)).toInt64) (nI (pe c)).toInt64
def mxK (pw : Nat → Nat) (n : Nat) (h : Int64) : Nat → Int64
  | 0 => h
  | k + 1 => if k % 16 < n then mx (mxK pw n h k) (nI (pw k)).toInt64 else mxK pw n h k
def mxL (f : Nat → Nat) (h : Int64) : Nat → Int64
  | 0 => h
  | q + 1 => mx (mxL f h q) (nI (f q)).toInt64
def mxS (K n t : Nat) (ln : Nat → Nat → Nat) (h : Int64) : Nat → Int64
  | 0 => h
  | d + 1 => mxL (ln d) (mx (mxS K n t ln h d) (nI (bnd K n d n)).toInt64) (t - d)
def mxT (fs fc fw : Nat → Nat) (sc : Nat → Int64) (dr : Nat) (h : Int64) : Nat → Int64
  | 0 => h
  | k + 1 => mx (mxT fs fc fw sc dr h k) (tld fs fc fw sc dr (k / 5) (k % 5))
theorem lp_mixC {E : ET} {G : GT} (O : OKG E G cX5_mixData RX5 (rmL 4) []) (hN : nLG G = 3) {ad : Nat → Nat} {th n t dr ms : Nat} {pe pw : Nat → Nat} {len : Nat} {cod : Nat → Nat} {mm : Nat} {fs fc fw : Nat → Nat} {sc : Nat → Int64} {li : Nat → Nat} {lm ls lq hs : Int64} (hst : E.1.stackTraces = false) (hn : n ≤ 16) (ht : t ≤ 48) (hm : ms < 65536) (kk : V E G 0 0 54 [(0, .ref (ad 0))] [] (WM E ad th n t dr ms pe pw len cod mm fs fc fw sc li lm ls lq (mxC (mb ms) pw pe t hs n))) : ∀ j c : Nat, c ≤ n → j = n - c → V E G 0 0 2 [(0, .ref (ad 0)), (1, .int (nI c))] [] (WM E ad th n t dr ms pe pw len cod mm fs fc fw sc li lm ls lq (mxC (mb ms) pw pe t hs c)) := by
  intro j
  induction j using Nat.strongRecOn with
  | _ j ih =>
    intro c hc hj
    refine v_iload_n O dX5_mixData_2 rfl ?_
    refine v_aload_n O dX5_mixData_3 rfl ?_
    refine v_get O dX5_mixData_4 flX5_7 0 rfl rfl ?_
    refine v_icmpN_ge (tgt := 54) O dX5_mixData_7 (by decide) (by omega) (by omega) (fun h => ?_) (fun h => ?_)
    · have e : c = n := by omega
      subst e
      refine v_ord [0] ?_
      exact kk
    · have key : V E G 0 0 24 [(0, .ref (ad 0)), (1, .int (nI c))] [.long (if mb ms c = true then 1 else 0), .ref (ad 0)] (WM E ad th n t dr ms pe pw len cod mm fs fc fw sc li lm ls lq (mxC (mb ms) pw pe t hs c)) := by
        refine v_V0 O dX5_mixData_24 lkX5_167 (c_mixM hst (if mb ms c = true then 1 else 0)) 0 rfl rfl rfl rfl rfl (by first | exact hkc | exact Nat.zero_le _) (by first | exact hks | exact Nat.zero_le _) ?_
        refine v_aload_n O dX5_mixData_27 rfl ?_
        refine v_aload_n O dX5_mixData_28 rfl ?_
        refine v_iload_n O dX5_mixData_29 rfl ?_
        refine v_V1 O dX5_mixData_30 lkX5_108 (c_sumOf hst (c := c) (by omega) ht) 0 rfl rfl rfl rfl rfl (by first | exact hkc | exact Nat.zero_le _) (by first | exact hks | exact Nat.zero_le _) ?_
        refine v_i2l O dX5_mixData_33 ?_
        refine v_V0 O dX5_mixData_34 lkX5_167 (c_mixM hst (nI (chs pw c t)).toInt64) 0 rfl rfl rfl rfl rfl (by first | exact hkc | exact Nat.zero_le _) (by first | exact hks | exact Nat.zero_le _) ?_
        refine v_aload_n O dX5_mixData_37 rfl ?_
        refine v_aload_n O dX5_mixData_38 rfl ?_
        refine v_get O dX5_mixData_39 flX5_13 0 rfl rfl ?_
        refine v_iload_n O dX5_mixData_42 rfl ?_
        refine v_iald O dX5_mixData_43 1 rfl (by decide) (by omega) ?_
        refine v_i2l O dX5_mixData_44 ?_
        refine v_V0 O dX5_mixData_45 lkX5_167 (c_mixM hst (nI (pe c)).toInt64) 0 rfl rfl rfl rfl rfl (by first | exact hkc | exact Nat.zero_le _) (by first | exact hks | exact Nat.zero_le _) ?_
        refine v_iincN (b := 1) O dX5_mixData_48 rfl (by decide) (by rw [hN]; decide) ?_
        refine v_goto (tgt := 2) O dX5_mixData_51 (by decide) ?_
        refine v_ord [0, 1] ?_
        exact ih (j - 1) (by omega) (c + 1) (by omega) (by omega)
      refine v_aload_n O dX5_mixData_10 rfl ?_
      refine v_aload_n O dX5_mixData_11 rfl ?_
      refine v_iload_n O dX5_mixData_12 rfl ?_
      refine v_V1 O dX5_mixData_13 lkX5_105 (c_isMasked hst hm c (by omega)) 0 rfl rfl rfl rfl rfl (by first | exact hkc | exact Nat.zero_le _) (by first | exact hks | exact Nat.zero_le _) ?_
      refine v_ifB_eq (tgt := 23) O dX5_mixData_16 (by decide) (fun h2 => ?_) (fun h2 => ?_)
      · refine v_lconst (v := 0) O dX5_mixData_23 (by decide) ?_
        refine v_st ?_ key
        rw [h2]
        rfl
      · refine v_lconst (v := 1) O dX5_mixData_19 (by decide) ?_
        refine v_goto (tgt := 24) O dX5_mixData_20 (by decide) ?_
        refine v_st ?_ key
        rw [h2]
        rfl
theorem lp_mixK {E : ET} {G : GT} (O : OKG E G cX5_mixData RX5 (rmL 4) []) (hN : nLG G = 3) {ad : Nat → Nat} {th n t dr ms : Nat} {pe pw : Nat → Nat} {len : Nat} {cod : Nat → Nat} {mm : Nat} {fs fc fw : Nat → Nat} {sc : Nat → Int64} {li : Nat → Nat} {lm ls lq hs : Int64} (hst : E.1.stackTraces = false) (hn : n ≤ 16) (ht : t ≤ 48) (kk : V E G 0 0 95 [(0, .ref (ad 0))] [] (WM E ad th n t dr ms pe pw len cod mm fs fc fw sc li lm ls lq (mxK pw n hs (16 * t)))) : ∀ j k : Nat, k ≤ 16 * t → j = 16 * t - k → V E G 0 0 56 [(0, .ref (ad 0)), (1, .int (nI k))] [] (WM E ad th n t dr ms pe pw len cod mm fs fc fw sc li lm ls lq (mxK pw n hs k)) := by
  intro j
  induction j using Nat.strongRecOn with
  | _ j ih =>
    intro k hk hj
    refine v_iload_n O dX5_mixData_56 rfl ?_
    refine v_bipush (v := nI 16) O dX5_mixData_57 (by decide) ?_
    refine v_aload_n O dX5_mixData_59 rfl ?_
    refine v_get O dX5_mixData_60 flX5_46 0 rfl rfl ?_
    refine v_imulN O dX5_mixData_63 ?_
    refine v_icmpN_ge (tgt := 95) O dX5_mixData_64 (by decide) (by omega) (by omega) (fun h => ?_) (fun h => ?_)
    · have e : k = 16 * t := by omega
      subst e
      refine v_ord [0] ?_
      exact kk
    · refine v_iload_n O dX5_mixData_67 rfl ?_
      refine v_bipush (v := nI 16) O dX5_mixData_68 (by decide) ?_
      refine v_iremN O dX5_mixData_70 (by omega) (by omega) (by omega) ?_
      refine v_aload_n O dX5_mixData_71 rfl ?_
      refine v_get O dX5_mixData_72 flX5_7 0 rfl rfl ?_
      refine v_icmpN_ge (tgt := 89) O dX5_mixData_75 (by decide) (by omega) (by omega) (fun h2 => ?_) (fun h2 => ?_)
      · refine v_iincN (b := 1) O dX5_mixData_89 rfl (by decide) (by rw [hN]; decide) ?_
        refine v_goto (tgt := 56) O dX5_mixData_92 (by decide) ?_
        refine v_ord [0, 1] ?_
        refine v_w (w' := (WM E ad th n t dr ms pe pw len cod mm fs fc fw sc li lm ls lq (mxK pw n hs (k + 1)))) (by rw [mxK, if_neg (by omega)]) ?_
        exact ih (j - 1) (by omega) (k + 1) (by omega) (by omega)
      · refine v_aload_n O dX5_mixData_78 rfl ?_
        refine v_aload_n O dX5_mixData_79 rfl ?_
        refine v_get O dX5_mixData_80 flX5_17 0 rfl rfl ?_
        refine v_iload_n O dX5_mixData_83 rfl ?_
        refine v_iald O dX5_mixData_84 2 rfl (by decide) (by omega) ?_
        refine v_i2l O dX5_mixData_85 ?_
        refine v_V0 O dX5_mixData_86 lkX5_167 (c_mixM hst (nI (pw k)).toInt64) 0 rfl rfl rfl rfl rfl (by first | exact hkc | exact Nat.zero_le _) (by first | exact hks | exact Nat.zero_le _) ?_
        refine v_iincN (b := 1) O dX5_mixData_89 rfl (by decide) (by rw [hN]; decide) ?_
        refine v_goto (tgt := 56) O dX5_mixData_92 (by decide) ?_
        refine v_ord [0, 1] ?_
        refine v_w (w' := (WM E ad th n t dr ms pe pw len cod mm fs fc fw sc li lm ls lq (mxK pw n hs (k + 1)))) (by rw [mxK, if_pos h2]; rfl) ?_
        exact ih (j - 1) (by omega) (k + 1) (by omega) (by omega)
theorem lp_mixLi {E : ET} {G : GT} (O : OKG E G cX5_mixData RX5 (rmL 4) []) (hN : nLG G = 3) {ad : Nat → Nat} {th n t dr ms : Nat} {pe pw : Nat → Nat} {len : Nat} {cod : Nat → Nat} {mm : Nat} {fs fc fw : Nat → Nat} {sc : Nat → Int64} {li : Nat → Nat} {lm ls lq hs : Int64} {K d : Nat} (hst : E.1.stackTraces = false) (hK : 1 ≤ K) (hK4 : K ≤ 4) (hn : n = 2 ^ K) (hm : ms < 65536) (ht : t ≤ 48) (hd : d < n) (kk : V E G 0 0 144 [(0, .ref (ad 0)), (1, .int (nI d))] [] (WM E ad th n t dr ms pe pw len cod mm fs fc fw sc li lm ls lq (mxL (lnN ms pw K n d) hs (t - d)))) : ∀ j q : Nat, q ≤ t - d → j = t - d - q → V E G 0 0 117 [(0, .ref (ad 0)), (1, .int (nI d)), (2, .int (nI q))] [] (WM E ad th n t dr ms pe pw len cod mm fs fc fw sc li lm ls lq (mxL (lnN ms pw K n d) hs q)) := by
  obtain ⟨g1, g2⟩ := two_le hn hK hK4
  intro j
  induction j using Nat.strongRecOn with
  | _ j ih =>
    intro q hq hj
    refine v_iload_n O dX5_mixData_117 rfl ?_
    refine v_aload_n O dX5_mixData_118 rfl ?_
    refine v_iload_n O dX5_mixData_119 rfl ?_
    refine v_V1 O dX5_mixData_120 lkX5_111 (c_linesOfM hst ht d (by omega)) 0 rfl rfl rfl rfl rfl (by first | exact hkc | exact Nat.zero_le _) (by first | exact hks | exact Nat.zero_le _) ?_
    refine v_icmpN_ge (tgt := 144) O dX5_mixData_123 (by decide) (by omega) (by omega) (fun h => ?_) (fun h => ?_)
    · have e : q = t - d := by omega
      subst e
      refine v_ord [0, 1] ?_
      exact kk
    · refine v_aload_n O dX5_mixData_126 rfl ?_
      refine v_aload_n O dX5_mixData_127 rfl ?_
      refine v_iload_n O dX5_mixData_128 rfl ?_
      refine v_iload_n O dX5_mixData_129 rfl ?_
      refine v_iconst (v := bI false) O dX5_mixData_130 (by decide) ?_
      refine v_V1 O dX5_mixData_131 lkX5_117 (c_lineBy hst hK hK4 hn hm ht d q false hd (by omega)) 0 rfl rfl rfl rfl rfl (by first | exact hkc | exact Nat.zero_le _) (by first | exact hks | exact Nat.zero_le _) ?_
      refine v_i2l O dX5_mixData_134 ?_
      refine v_V0 O dX5_mixData_135 lkX5_167 (c_mixM hst (nI (lnN ms pw K n d q)).toInt64) 0 rfl rfl rfl rfl rfl (by first | exact hkc | exact Nat.zero_le _) (by first | exact hks | exact Nat.zero_le _) ?_
      refine v_iincN (b := 1) O dX5_mixData_138 rfl (by decide) (by rw [hN]; decide) ?_
      refine v_goto (tgt := 117) O dX5_mixData_141 (by decide) ?_
      refine v_ord [0, 1, 2] ?_
      exact ih (j - 1) (by omega) (q + 1) (by omega) (by omega)
theorem lp_mixS {E : ET} {G : GT} (O : OKG E G cX5_mixData RX5 (rmL 4) []) (hN : nLG G = 3) {ad : Nat → Nat} {th n t dr ms : Nat} {pe pw : Nat → Nat} {len : Nat} {cod : Nat → Nat} {mm : Nat} {fs fc fw : Nat → Nat} {sc : Nat → Int64} {li : Nat → Nat} {lm ls lq hs : Int64} {K : Nat} (hst : E.1.stackTraces = false) (hK : 1 ≤ K) (hK4 : K ≤ 4) (hn : n = 2 ^ K) (hm : ms < 65536) (ht : t ≤ 48) (kk : V E G 0 0 150 [] [] (WM E ad th n t dr ms pe pw len cod mm fs fc fw sc li lm ls lq (mxS K n t (lnN ms pw K n) hs n))) : ∀ j d : Nat, d ≤ n → j = n - d → V E G 0 0 97 [(0, .ref (ad 0)), (1, .int (nI d))] [] (WM E ad th n t dr ms pe pw len cod mm fs fc fw sc li lm ls lq (mxS K n t (lnN ms pw K n) hs d)) := by
  obtain ⟨g1, g2⟩ := two_le hn hK hK4
  intro j
  induction j using Nat.strongRecOn with
  | _ j ih =>
    intro d hd hj
    refine v_iload_n O dX5_mixData_97 rfl ?_
    refine v_aload_n O dX5_mixData_98 rfl ?_
    refine v_get O dX5_mixData_99 flX5_7 0 rfl rfl ?_
    refine v_icmpN_ge (tgt := 150) O dX5_mixData_102 (by decide) (by omega) (by omega) (fun h => ?_) (fun h => ?_)
    · have e : d = n := by omega
      subst e
      refine v_ord [] ?_
      exact kk
    · refine v_aload_n O dX5_mixData_105 rfl ?_
      refine v_aload_n O dX5_mixData_106 rfl ?_
      refine v_iload_n O dX5_mixData_107 rfl ?_
      refine v_V1 O dX5_mixData_108 lkX5_93 (c_bendOf hst hK hK4 hn (d := d) (by omega)) 0 rfl rfl rfl rfl rfl (by first | exact hkc | exact Nat.zero_le _) (by first | exact hks | exact Nat.zero_le _) ?_
      refine v_i2l O dX5_mixData_111 ?_
      refine v_V0 O dX5_mixData_112 lkX5_167 (c_mixM hst (nI (bnd K n d n)).toInt64) 0 rfl rfl rfl rfl rfl (by first | exact hkc | exact Nat.zero_le _) (by first | exact hks | exact Nat.zero_le _) ?_
      refine v_iconst (v := nI 0) O dX5_mixData_115 (by decide) ?_
      refine v_istore_n O dX5_mixData_116 (by rw [hN]; decide) ?_
      refine v_ord [0, 1, 2] ?_
      refine lp_mixLi (hs := mx (mxS K n t (lnN ms pw K n) hs d) (nI (bnd K n d n)).toInt64) O hN hst hK hK4 hn hm ht h ?_ (t - d) 0 (by omega) (by omega)
      refine v_iincN (b := 1) O dX5_mixData_144 rfl (by decide) (by rw [hN]; decide) ?_
      refine v_goto (tgt := 97) O dX5_mixData_147 (by decide) ?_
      refine v_ord [0, 1] ?_
      exact ih (j - 1) (by omega) (d + 1) (by omega) (by omega)
theorem c_mixData {E : ET} {ad : Nat → Nat} {th n t dr ms : Nat} {pe pw : Nat → Nat} {len : Nat} {cod : Nat → Nat} {mm : Nat} {fs fc fw : Nat → Nat} {sc : Nat → Int64} {li : Nat → Nat} {lm ls lq hs : Int64} {K : Nat} (hst : E.1.stackTraces = false) (hK : 1 ≤ K) (hK4 : K ≤ 4) (hn : n = 2 ^ K) (hm : ms < 65536) (ht : t ≤ 48) : Ctr E yX5_mixData cdX5_mixData (rmL 4) [.ref (ad 0)] (WM E ad th n t dr ms pe pw len cod mm fs fc fw sc li lm ls lq hs) (pR none (WM E ad th n t dr ms pe pw len cod mm fs fc fw sc li lm ls lq (mxS K n t (lnN ms pw K n) (mxK pw n (mxC (mb ms) pw pe t hs n) (16 * t)) n))) noX 0 0 := by
  obtain ⟨g1, g2⟩ := two_le hn hK hK4
  refine ctr_of hst (by decide) (Nat.le_of_ble_eq_true rfl) (fun G O OR hN => ?_)
  have O : OKG E G cX5_mixData RX5 (rmL 4) [] := O
  have hN : nLG G = 3 := hN
  refine v_iconst (v := nI 0) O dX5_mixData_0 (by decide) ?_
  refine v_istore_n O dX5_mixData_1 (by rw [hN]; decide) ?_
  refine v_ord [0, 1] ?_
  refine lp_mixC (hs := hs) O hN hst g2 ht hm ?_ n 0 (by omega) (by omega)
  refine v_iconst (v := nI 0) O dX5_mixData_54 (by decide) ?_
  refine v_istore_n O dX5_mixData_55 (by rw [hN]; decide) ?_
  refine v_ord [0, 1] ?_
  refine lp_mixK (hs := mxC (mb ms) pw pe t hs n) O hN hst g2 ht ?_ (16 * t) 0 (by omega) (by omega)
  refine v_iconst (v := nI 0) O dX5_mixData_95 (by decide) ?_
  refine v_istore_n O dX5_mixData_96 (by rw [hN]; decide) ?_
  refine v_ord [0, 1] ?_
  refine lp_mixS (hs := mxK pw n (mxC (mb ms) pw pe t hs n) (16 * t)) O hN hst hK hK4 hn hm ht ?_ n 0 (by omega) (by omega)
  exact v_return O OR dX5_mixData_150 (⟨rfl, rfl⟩) (Nat.le_of_ble_eq_true rfl) (Nat.le_of_ble_eq_true rfl)
theorem lp_dg1 {E : ET} {G : GT} (O : OKG E G cX5_digest RX5 (rmL 5) []) (hN : nLG G = 2) {ad : Nat → Nat} {th n t dr ms : Nat} {pe pw : Nat → Nat} {len : Nat} {cod : Nat → Nat} {mm : Nat} {fs fc fw : Nat → Nat} {sc : Nat → Int64} {li : Nat → Nat} {lm ls lq hs : Int64} (hst : E.1.stackTraces = false) (hm : ms < 65536) (kk : V E G 0 0 35 [(0, .ref (ad 0))] [] (WM E ad th n t dr ms pe pw len cod mm fs fc fw sc li lm ls lq (mxL (cnt5 n t dr (ons ms 16) mm) hs 5))) : ∀ j c : Nat, c ≤ 5 → j = 5 - c → V E G 0 0 14 [(0, .ref (ad 0)), (1, .int (nI c))] [] (WM E ad th n t dr ms pe pw len cod mm fs fc fw sc li lm ls lq (mxL (cnt5 n t dr (ons ms 16) mm) hs c)) := by
  intro j
  induction j using Nat.strongRecOn with
  | _ j ih =>
    intro c hc hj
    refine v_iload_n O dX5_digest_14 rfl ?_
    refine v_iconst (v := nI 5) O dX5_digest_15 (by decide) ?_
    refine v_icmpN_ge (tgt := 35) O dX5_digest_16 (by decide) (by omega) (by omega) (fun h => ?_) (fun h => ?_)
    · have e : c = 5 := by omega
      subst e
      refine v_ord [0] ?_
      exact kk
    · refine v_aload_n O dX5_digest_19 rfl ?_
      refine v_aload_n O dX5_digest_20 rfl ?_
      refine v_iload_n O dX5_digest_21 rfl ?_
      refine v_V1 O dX5_digest_22 lkX5_102 (c_countOf hst hm c h) 0 rfl rfl rfl rfl rfl (by first | exact hkc | exact Nat.zero_le _) (by first | exact hks | exact Nat.zero_le _) ?_
      refine v_i2l O dX5_digest_25 ?_
      refine v_V0 O dX5_digest_26 lkX5_167 (c_mixM hst (nI (cnt5 n t dr (ons ms 16) mm c)).toInt64) 0 rfl rfl rfl rfl rfl (by first | exact hkc | exact Nat.zero_le _) (by first | exact hks | exact Nat.zero_le _) ?_
      refine v_iincN (b := 1) O dX5_digest_29 rfl (by decide) (by rw [hN]; decide) ?_
      refine v_goto (tgt := 14) O dX5_digest_32 (by decide) ?_
      refine v_ord [0, 1] ?_
      exact ih (j - 1) (by omega) (c + 1) (by omega) (by omega)
theorem lp_dg2 {E : ET} {G : GT} (O : OKG E G cX5_digest RX5 (rmL 5) []) (hN : nLG G = 2) {ad : Nat → Nat} {th n t dr ms : Nat} {pe pw : Nat → Nat} {len : Nat} {cod : Nat → Nat} {mm : Nat} {fs fc fw : Nat → Nat} {sc : Nat → Int64} {li : Nat → Nat} {lm ls lq hs : Int64} (hst : E.1.stackTraces = false) (hmm : mm ≤ 8) (kk : V E G 0 0 71 [(0, .ref (ad 0))] [] (WM E ad th n t dr ms pe pw len cod mm fs fc fw sc li lm ls lq (mxT fs fc fw sc dr hs (5 * mm)))) : ∀ j c : Nat, c ≤ 5 * mm → j = 5 * mm - c → V E G 0 0 41 [(0, .ref (ad 0)), (1, .int (nI c))] [] (WM E ad th n t dr ms pe pw len cod mm fs fc fw sc li lm ls lq (mxT fs fc fw sc dr hs c)) := by
  intro j
  induction j using Nat.strongRecOn with
  | _ j ih =>
    intro c hc hj
    refine v_iload_n O dX5_digest_41 rfl ?_
    refine v_iconst (v := nI 5) O dX5_digest_42 (by decide) ?_
    refine v_aload_n O dX5_digest_43 rfl ?_
    refine v_get O dX5_digest_44 flX5_55 0 rfl rfl ?_
    refine v_imulN O dX5_digest_47 ?_
    refine v_icmpN_ge (tgt := 71) O dX5_digest_48 (by decide) (by omega) (by omega) (fun h => ?_) (fun h => ?_)
    · have e : c = 5 * mm := by omega
      subst e
      refine v_ord [0] ?_
      exact kk
    · refine v_aload_n O dX5_digest_51 rfl ?_
      refine v_aload_n O dX5_digest_52 rfl ?_
      refine v_iload_n O dX5_digest_53 rfl ?_
      refine v_iconst (v := nI 5) O dX5_digest_54 (by decide) ?_
      refine v_idivN O dX5_digest_55 (by omega) (by omega) (by omega) ?_
      refine v_iload_n O dX5_digest_56 rfl ?_
      refine v_iconst (v := nI 5) O dX5_digest_57 (by decide) ?_
      refine v_iremN O dX5_digest_58 (by omega) (by omega) (by omega) ?_
      refine v_V1 O dX5_digest_59 lkX5_159 (c_told hst (c / 5) (c % 5) (by omega) (by omega)) 0 rfl rfl rfl rfl rfl (by first | exact hkc | exact Nat.zero_le _) (by first | exact hks | exact Nat.zero_le _) ?_
      refine v_V0 O dX5_digest_62 lkX5_167 (c_mixM hst (tld fs fc fw sc dr (c / 5) (c % 5))) 0 rfl rfl rfl rfl rfl (by first | exact hkc | exact Nat.zero_le _) (by first | exact hks | exact Nat.zero_le _) ?_
      refine v_iincN (b := 1) O dX5_digest_65 rfl (by decide) (by rw [hN]; decide) ?_
      refine v_goto (tgt := 41) O dX5_digest_68 (by decide) ?_
      refine v_ord [0, 1] ?_
      exact ih (j - 1) (by omega) (c + 1) (by omega) (by omega)
theorem lp_dg3 {E : ET} {G : GT} (O : OKG E G cX5_digest RX5 (rmL 5) []) (hN : nLG G = 2) {ad : Nat → Nat} {th n t dr ms : Nat} {pe pw : Nat → Nat} {len : Nat} {cod : Nat → Nat} {mm : Nat} {fs fc fw : Nat → Nat} {sc : Nat → Int64} {li : Nat → Nat} {lm ls lq hs : Int64} (hst : E.1.stackTraces = false) (hl : len ≤ 64) (kk : V E G 0 0 107 [(0, .ref (ad 0))] [] (WM E ad th n t dr ms pe pw len cod mm fs fc fw sc li lm ls lq (mxL cod hs len))) : ∀ j c : Nat, c ≤ len → j = len - c → V E G 0 0 82 [(0, .ref (ad 0)), (1, .int (nI c))] [] (WM E ad th n t dr ms pe pw len cod mm fs fc fw sc li lm ls lq (mxL cod hs c)) := by
  intro j
  induction j using Nat.strongRecOn with
  | _ j ih =>
    intro c hc hj
    refine v_iload_n O dX5_digest_82 rfl ?_
    refine v_aload_n O dX5_digest_83 rfl ?_
    refine v_get O dX5_digest_84 flX5_68 0 rfl rfl ?_
    refine v_icmpN_ge (tgt := 107) O dX5_digest_87 (by decide) (by omega) (by omega) (fun h => ?_) (fun h => ?_)
    · have e : c = len := by omega
      subst e
      refine v_ord [0] ?_
      exact kk
    · refine v_aload_n O dX5_digest_90 rfl ?_
      refine v_aload_n O dX5_digest_91 rfl ?_
      refine v_get O dX5_digest_92 flX5_20 0 rfl rfl ?_
      refine v_iload_n O dX5_digest_95 rfl ?_
      refine v_iald O dX5_digest_96 3 rfl (by decide) (by omega) ?_
      refine v_i2l O dX5_digest_97 ?_
      refine v_V0 O dX5_digest_98 lkX5_167 (c_mixM hst (nI (cod c)).toInt64) 0 rfl rfl rfl rfl rfl (by first | exact hkc | exact Nat.zero_le _) (by first | exact hks | exact Nat.zero_le _) ?_
      refine v_iincN (b := 1) O dX5_digest_101 rfl (by decide) (by rw [hN]; decide) ?_
      refine v_goto (tgt := 82) O dX5_digest_104 (by decide) ?_
      refine v_ord [0, 1] ?_
      exact ih (j - 1) (by omega) (c + 1) (by omega) (by omega)
def dgst (K n t dr ms : Nat) (pe pw : Nat → Nat) (len : Nat) (cod : Nat → Nat) (mm : Nat) (fs fc fw : Nat → Nat) (sc : Nat → Int64) : Int64 :=
  mxL cod (mx (mxT fs fc fw sc dr (mxS K n t (lnN ms pw K n) (mxK pw n (mxC (mb ms) pw pe t (mxL (cnt5 n t dr (ons ms 16) mm) 1867 5) n) (16 * t)) n) (5 * mm)) (nI len).toInt64) len
theorem m_digest {E : ET} {ad : Nat → Nat} {th n t dr ms : Nat} {pe pw : Nat → Nat} {len : Nat} {cod : Nat → Nat} {mm : Nat} {fs fc fw : Nat → Nat} {sc : Nat → Int64} {li : Nat → Nat} {lm ls lq hs : Int64} {K : Nat} (hst : E.1.stackTraces = false) (hK : 1 ≤ K) (hK4 : K ≤ 4) (hn : n = 2 ^ K) (hm : ms < 65536) (ht : t ≤ 48) (hmm : mm ≤ 8) (hl : len ≤ 64) : Ctr E yX5_digest cdX5_digest (rmL 5) [.ref (ad 0)] (WM E ad th n t dr ms pe pw len cod mm fs fc fw sc li lm ls lq hs) (pR (some (.long (dgst K n t dr ms pe pw len cod mm fs fc fw sc))) (WM E ad (0) n t dr ms pe pw len cod mm fs fc fw sc li lm ls lq (dgst K n t dr ms pe pw len cod mm fs fc fw sc))) noX 0 0 := by
  refine ctr_of hst (by decide) (Nat.le_of_ble_eq_true rfl) (fun G O OR hN => ?_)
  have O : OKG E G cX5_digest RX5 (rmL 5) [] := O
  have hN : nLG G = 2 := hN
  refine v_aload_n O dX5_digest_0 rfl ?_
  refine v_iconst (v := nI 0) O dX5_digest_1 (by decide) ?_
  refine v_put (ty := .int) O dX5_digest_2 flX5_39 ftX5 0 rfl rfl (by decide +kernel) rfl rfl (Nat.le_of_ble_eq_true rfl) ?_
  refine v_aload_n O dX5_digest_5 rfl ?_
  refine v_ldc2 O dX5_digest_6 clX5_171 ?_
  refine v_put (ty := .long) O dX5_digest_9 flX5_164 ftX5 0 rfl rfl (by decide +kernel) rfl rfl (Nat.le_of_ble_eq_true rfl) ?_
  refine v_iconst (v := nI 0) O dX5_digest_12 (by decide) ?_
  refine v_istore_n O dX5_digest_13 (by rw [hN]; decide) ?_
  refine v_ord [0, 1] ?_
  refine v_w (w' := (WM E ad (0) n t dr ms pe pw len cod mm fs fc fw sc li lm ls lq (1867))) rfl ?_
  refine lp_dg1 (hs := 1867) O hN hst hm ?_ 5 0 (by omega) (by omega)
  refine v_aload_n O dX5_digest_35 rfl ?_
  refine v_V0 O dX5_digest_36 lkX5_173 (c_mixData hst hK hK4 hn hm ht) 0 rfl rfl rfl rfl rfl (by first | exact hkc | exact Nat.zero_le _) (by first | exact hks | exact Nat.zero_le _) ?_
  refine v_iconst (v := nI 0) O dX5_digest_39 (by decide) ?_
  refine v_istore_n O dX5_digest_40 (by rw [hN]; decide) ?_
  refine v_ord [0, 1] ?_
  refine lp_dg2 (hs := mxS K n t (lnN ms pw K n) (mxK pw n (mxC (mb ms) pw pe t (mxL (cnt5 n t dr (ons ms 16) mm) 1867 5) n) (16 * t)) n) O hN hst hmm ?_ (5 * mm) 0 (by omega) (by omega)
  refine v_aload_n O dX5_digest_71 rfl ?_
  refine v_aload_n O dX5_digest_72 rfl ?_
  refine v_get O dX5_digest_73 flX5_68 0 rfl rfl ?_
  refine v_i2l O dX5_digest_76 ?_
  refine v_V0 O dX5_digest_77 lkX5_167 (c_mixM hst (nI len).toInt64) 0 rfl rfl rfl rfl rfl (by first | exact hkc | exact Nat.zero_le _) (by first | exact hks | exact Nat.zero_le _) ?_
  refine v_iconst (v := nI 0) O dX5_digest_80 (by decide) ?_
  refine v_istore_n O dX5_digest_81 (by rw [hN]; decide) ?_
  refine v_ord [0, 1] ?_
  refine lp_dg3 (hs := mx (mxT fs fc fw sc dr (mxS K n t (lnN ms pw K n) (mxK pw n (mxC (mb ms) pw pe t (mxL (cnt5 n t dr (ons ms 16) mm) 1867 5) n) (16 * t)) n) (5 * mm)) (nI len).toInt64) O hN hst hl ?_ len 0 (by omega) (by omega)
  refine v_aload_n O dX5_digest_107 rfl ?_
  refine v_get O dX5_digest_108 flX5_164 0 rfl rfl ?_
  exact v_lreturn O OR dX5_digest_111 (⟨rfl, rfl⟩) (Nat.le_of_ble_eq_true rfl) (Nat.le_of_ble_eq_true rfl)
