theorem m_lineSum {E : ET} {ad : Nat → Nat} {th n t dr ms : Nat} {pe pw : Nat → Nat} {len : Nat} {cod : Nat → Nat} {mm : Nat} {fs fc fw : Nat → Nat} {sc : Nat → Int64} {li : Nat → Nat} {lm ls lq hs : Int64} {K : Nat} (hst : E.1.stackTraces = false) (hK : 1 ≤ K) (hK4 : K ≤ 4) (hn : n = 2 ^ K) (hm : ms < 65536) (ht : t ≤ 48) (d q : Nat) (s : Bool) (hd : d < n) (hq : q + 1 ≤ t - d) : Ctr E yX5_lineSum cdX5_lineSum (rmL 4) [.ref (ad 0), .int (nI d), .int (nI q), .int (bI s)] (WM E ad th n t dr ms pe pw len cod mm fs fc fw sc li lm ls lq hs) (pR (some (.int (nI (lin (mb ms) pw n (oby K n s d) q)))) (WM E ad (0) n t dr ms pe pw len cod mm fs fc fw sc li lm ls lq hs)) noX 0 0 := by
  obtain ⟨g1, g2⟩ := two_le hn hK hK4
  refine ctr_of hst (by decide) (Nat.le_of_ble_eq_true rfl) (fun G O OR hN => ?_)
  have O : OKG E G cX5_lineSum RX5 (rmL 4) [] := O
  have hN : nLG G = 4 := hN
  refine v_aload_n O dX5_lineSum_0 rfl ?_
  refine v_aload_n O dX5_lineSum_1 rfl ?_
  refine v_iload_n O dX5_lineSum_2 rfl ?_
  refine v_iload_n O dX5_lineSum_3 rfl ?_
  refine v_iconst (v := nI 1) O dX5_lineSum_4 (by decide) ?_
  refine v_V1 O dX5_lineSum_5 lkX5_114 (c_isBox hst g2 ht (nI d) (nI q) 1 (by decide)) 0 rfl rfl rfl rfl rfl (by first | exact hkc | exact Nat.zero_le _) (by first | exact hks | exact Nat.zero_le _) ?_
  refine v_ifB_eq (tgt := 15) O dX5_lineSum_8 (by decide) (fun h => ?_) (fun h => ?_)
  · rw [bxB_nI g2 hd (by omega), decide_eq_true hq] at h; cases h
  · refine v_iconst (v := nI 0) O dX5_lineSum_11 (by decide) ?_
    refine v_goto (tgt := 16) O dX5_lineSum_12 (by decide) ?_
    refine v_put (ty := .int) O dX5_lineSum_16 flX5_39 ftX5 0 rfl rfl (by decide +kernel) rfl rfl (Nat.le_of_ble_eq_true rfl) ?_
    refine v_aload_n O dX5_lineSum_19 rfl ?_
    refine v_get O dX5_lineSum_20 flX5_39 0 rfl rfl ?_
    refine v_ifN_le (tgt := 30) O dX5_lineSum_23 (by decide) (by omega) (fun h3 => ?_) (fun h3 => ?_)
    · refine v_aload_n O dX5_lineSum_30 rfl ?_
      refine v_iload_n O dX5_lineSum_31 rfl ?_
      refine v_iload_n O dX5_lineSum_32 rfl ?_
      refine v_iload_n O dX5_lineSum_33 rfl ?_
      refine v_w (w' := (WM E ad (0) n t dr ms pe pw len cod mm fs fc fw sc li lm ls lq hs)) rfl ?_
      refine v_V1 O dX5_lineSum_34 lkX5_117 (c_lineBy hst hK hK4 hn hm ht d q s hd (by omega)) 0 rfl rfl rfl rfl rfl (by first | exact hkc | exact Nat.zero_le _) (by first | exact hks | exact Nat.zero_le _) ?_
      exact v_ireturn O OR dX5_lineSum_37 (⟨rfl, rfl⟩) (Nat.le_of_ble_eq_true rfl) (Nat.le_of_ble_eq_true rfl)
    · omega
theorem mx_lineSum {E : ET} {ad : Nat → Nat} {th n t dr ms : Nat} {pe pw : Nat → Nat} {len : Nat} {cod : Nat → Nat} {mm : Nat} {fs fc fw : Nat → Nat} {sc : Nat → Int64} {li : Nat → Nat} {lm ls lq hs : Int64} (hst : E.1.stackTraces = false) (hn : n ≤ 16) (ht : t ≤ 48) (x1 x2 : Int32) (s : Bool) (hx : bxB n t x1 x2 1 = false) : Ctr E yX5_lineSum cdX5_lineSum (rmL 4) [.ref (ad 0), .int x1, .int x2, .int (bI s)] (WM E ad th n t dr ms pe pw len cod mm fs fc fw sc li lm ls lq hs) (pR (some (.int (nI 0))) (WM E ad (1) n t dr ms pe pw len cod mm fs fc fw sc li lm ls lq hs)) noX 0 0 := by
  refine ctr_of hst (by decide) (Nat.le_of_ble_eq_true rfl) (fun G O OR hN => ?_)
  have O : OKG E G cX5_lineSum RX5 (rmL 4) [] := O
  have hN : nLG G = 4 := hN
  refine v_aload_n O dX5_lineSum_0 rfl ?_
  refine v_aload_n O dX5_lineSum_1 rfl ?_
  refine v_iload_n O dX5_lineSum_2 rfl ?_
  refine v_iload_n O dX5_lineSum_3 rfl ?_
  refine v_iconst (v := nI 1) O dX5_lineSum_4 (by decide) ?_
  refine v_V1 O dX5_lineSum_5 lkX5_114 (c_isBox hst hn ht x1 x2 1 (by decide)) 0 rfl rfl rfl rfl rfl (by first | exact hkc | exact Nat.zero_le _) (by first | exact hks | exact Nat.zero_le _) ?_
  refine v_ifB_eq (tgt := 15) O dX5_lineSum_8 (by decide) (fun h => ?_) (fun h => ?_)
  · refine v_iconst (v := nI 1) O dX5_lineSum_15 (by decide) ?_
    refine v_put (ty := .int) O dX5_lineSum_16 flX5_39 ftX5 0 rfl rfl (by decide +kernel) rfl rfl (Nat.le_of_ble_eq_true rfl) ?_
    refine v_aload_n O dX5_lineSum_19 rfl ?_
    refine v_get O dX5_lineSum_20 flX5_39 0 rfl rfl ?_
    refine v_ifN_le (tgt := 30) O dX5_lineSum_23 (by decide) (by omega) (fun h3 => ?_) (fun h3 => ?_)
    · omega
    · refine v_iconst (v := nI 0) O dX5_lineSum_26 (by decide) ?_
      refine v_goto (tgt := 37) O dX5_lineSum_27 (by decide) ?_
      exact v_ireturn O OR dX5_lineSum_37 (⟨rfl, rfl⟩) (Nat.le_of_ble_eq_true rfl) (Nat.le_of_ble_eq_true rfl)
  · rw [hx] at h; cases h
def meanV (S : Int64) (N : Nat) : UInt64 := if N = 0 then 0 else FP.ddiv (FP.l2d S) (FP.i2d (nI N))
theorem m_mean {E : ET} {ad : Nat → Nat} {th n t dr ms : Nat} {pe pw : Nat → Nat} {len : Nat} {cod : Nat → Nat} {mm : Nat} {fs fc fw : Nat → Nat} {sc : Nat → Int64} {li : Nat → Nat} {lm ls lq hs : Int64} {K : Nat} (hst : E.1.stackTraces = false) (hK : 1 ≤ K) (hK4 : K ≤ 4) (hn : n = 2 ^ K) (hm : ms < 65536) (ht : t ≤ 48) (d : Nat) (hd : d < n) (hnan : vf_n64 (FP.ddiv (FP.l2d (smL (lnL ms pw K n d) (t - d))) (FP.i2d (nI (t - d))))) : Ctr E yX5_mean cdX5_mean (rmL 5) [.ref (ad 0), .int (nI d)] (WM E ad th n t dr ms pe pw len cod mm fs fc fw sc li lm ls lq hs) (pR (some (.double (meanV (smL (lnL ms pw K n d) (t - d)) (t - d)))) (WM E ad (0) n t dr ms pe pw len cod mm fs fc fw sc li lm ls lq hs)) noX 0 0 := by
  obtain ⟨g1, g2⟩ := two_le hn hK hK4
  refine ctr_of hst (by decide) (Nat.le_of_ble_eq_true rfl) (fun G O OR hN => ?_)
  have O : OKG E G cX5_mean RX5 (rmL 5) [] := O
  have hN : nLG G = 2 := hN
  refine v_aload_n O dX5_mean_0 rfl ?_
  refine v_aload_n O dX5_mean_1 rfl ?_
  refine v_iload_n O dX5_mean_2 rfl ?_
  refine v_V1 O dX5_mean_3 lkX5_86 (c_isSlope hst g2 (nI d)) 0 rfl rfl rfl rfl rfl (by first | exact hkc | exact Nat.zero_le _) (by first | exact hks | exact Nat.zero_le _) ?_
  refine v_ifB_eq (tgt := 13) O dX5_mean_6 (by decide) (fun h => ?_) (fun h => ?_)
  · rw [inB_nI hd (by omega)] at h; cases h
  · refine v_iconst (v := nI 0) O dX5_mean_9 (by decide) ?_
    refine v_goto (tgt := 14) O dX5_mean_10 (by decide) ?_
    refine v_put (ty := .int) O dX5_mean_14 flX5_39 ftX5 0 rfl rfl (by decide +kernel) rfl rfl (Nat.le_of_ble_eq_true rfl) ?_
    refine v_aload_n O dX5_mean_17 rfl ?_
    refine v_get O dX5_mean_18 flX5_39 0 rfl rfl ?_
    refine v_w (w' := (WM E ad (0) n t dr ms pe pw len cod mm fs fc fw sc li lm ls lq hs)) rfl ?_
    refine v_ifN_gt (tgt := 32) O dX5_mean_21 (by decide) (by omega) (fun h3 => ?_) (fun h3 => ?_)
    · omega
    · refine v_aload_n O dX5_mean_24 rfl ?_
      refine v_iload_n O dX5_mean_25 rfl ?_
      refine v_V1 O dX5_mean_26 lkX5_111 (c_linesOfM hst ht d (by omega)) 0 rfl rfl rfl rfl rfl (by first | exact hkc | exact Nat.zero_le _) (by first | exact hks | exact Nat.zero_le _) ?_
      refine v_ifN_ne (tgt := 36) O dX5_mean_29 (by decide) (by omega) (fun h4 => ?_) (fun h4 => ?_)
      · refine v_aload_n O dX5_mean_36 rfl ?_
        refine v_iload_n O dX5_mean_37 rfl ?_
        refine v_V1 O dX5_mean_38 lkX5_120 (c_sumOfLines hst hK hK4 hn hm ht d hd) 0 rfl rfl rfl rfl rfl (by first | exact hkc | exact Nat.zero_le _) (by first | exact hks | exact Nat.zero_le _) ?_
        refine v_l2d O dX5_mean_41 ?_
        refine v_aload_n O dX5_mean_42 rfl ?_
        refine v_iload_n O dX5_mean_43 rfl ?_
        refine v_V1 O dX5_mean_44 lkX5_111 (c_linesOfM hst ht d (by omega)) 0 rfl rfl rfl rfl rfl (by first | exact hkc | exact Nat.zero_le _) (by first | exact hks | exact Nat.zero_le _) ?_
        refine v_i2d O dX5_mean_47 ?_
        refine v_ddiv O dX5_mean_48 hnan ?_
        exact v_dreturn O OR dX5_mean_49 (⟨by unfold meanV; rw [if_neg (by omega)], rfl⟩) (Nat.le_of_ble_eq_true rfl) (Nat.le_of_ble_eq_true rfl)
      · refine v_dconst0 O dX5_mean_32 ?_
        refine v_goto (tgt := 49) O dX5_mean_33 (by decide) ?_
        exact v_dreturn O OR dX5_mean_49 (⟨by unfold meanV; rw [if_pos h4], rfl⟩) (Nat.le_of_ble_eq_true rfl) (Nat.le_of_ble_eq_true rfl)
theorem mx_mean {E : ET} {ad : Nat → Nat} {th n t dr ms : Nat} {pe pw : Nat → Nat} {len : Nat} {cod : Nat → Nat} {mm : Nat} {fs fc fw : Nat → Nat} {sc : Nat → Int64} {li : Nat → Nat} {lm ls lq hs : Int64} (hst : E.1.stackTraces = false) (hn : n ≤ 16) (x : Int32) (hx : inB x n = false) : Ctr E yX5_mean cdX5_mean (rmL 5) [.ref (ad 0), .int x] (WM E ad th n t dr ms pe pw len cod mm fs fc fw sc li lm ls lq hs) (pR (some (.double 0)) (WM E ad (1) n t dr ms pe pw len cod mm fs fc fw sc li lm ls lq hs)) noX 0 0 := by
  refine ctr_of hst (by decide) (Nat.le_of_ble_eq_true rfl) (fun G O OR hN => ?_)
  have O : OKG E G cX5_mean RX5 (rmL 5) [] := O
  have hN : nLG G = 2 := hN
  refine v_aload_n O dX5_mean_0 rfl ?_
  refine v_aload_n O dX5_mean_1 rfl ?_
  refine v_iload_n O dX5_mean_2 rfl ?_
  refine v_V1 O dX5_mean_3 lkX5_86 (c_isSlope hst hn x) 0 rfl rfl rfl rfl rfl (by first | exact hkc | exact Nat.zero_le _) (by first | exact hks | exact Nat.zero_le _) ?_
  refine v_ifB_eq (tgt := 13) O dX5_mean_6 (by decide) (fun h => ?_) (fun h => ?_)
  · refine v_iconst (v := nI 1) O dX5_mean_13 (by decide) ?_
    refine v_put (ty := .int) O dX5_mean_14 flX5_39 ftX5 0 rfl rfl (by decide +kernel) rfl rfl (Nat.le_of_ble_eq_true rfl) ?_
    refine v_aload_n O dX5_mean_17 rfl ?_
    refine v_get O dX5_mean_18 flX5_39 0 rfl rfl ?_
    refine v_ifN_gt (tgt := 32) O dX5_mean_21 (by decide) (by omega) (fun h3 => ?_) (fun h3 => ?_)
    · refine v_dconst0 O dX5_mean_32 ?_
      refine v_goto (tgt := 49) O dX5_mean_33 (by decide) ?_
      exact v_dreturn O OR dX5_mean_49 (⟨rfl, rfl⟩) (Nat.le_of_ble_eq_true rfl) (Nat.le_of_ble_eq_true rfl)
    · omega
  · rw [hx] at h; cases h
/-- behind layLines -/
def liF (ms : Nat) (pw : Nat → Nat) (K n t d : Nat) (li : Nat → Nat) : Nat → Nat := fl2 (lnN ms pw K n d) li (t - d)
theorem sm_cong {f g : Nat → Nat} : ∀ {k : Nat}, (∀ i, i < k → f i = g i) → sm f k = sm g k
  | 0, _ => rfl
  | k + 1, h => by
    show sm f k + f k = sm g k + g k
    rw [sm_cong (fun i hi => h i (by omega)), h k (by omega)]
theorem m_boxSum {E : ET} {ad : Nat → Nat} {th n t dr ms : Nat} {pe pw : Nat → Nat} {len : Nat} {cod : Nat → Nat} {mm : Nat} {fs fc fw : Nat → Nat} {sc : Nat → Int64} {li : Nat → Nat} {lm ls lq hs : Int64} {K : Nat} (hst : E.1.stackTraces = false) (hK : 1 ≤ K) (hK4 : K ≤ 4) (hn : n = 2 ^ K) (hm : ms < 65536) (ht : t ≤ 48) (d q wd : Nat) (hd : d < n) (hw1 : 1 ≤ wd) (hw : wd ≤ 8) (hq : q + wd ≤ t - d) : Ctr E yX5_boxSum cdX5_boxSum (rmL 5) [.ref (ad 0), .int (nI d), .int (nI q), .int (nI wd)] (WM E ad th n t dr ms pe pw len cod mm fs fc fw sc li lm ls lq hs) (pR (some (.int (nI (sm (fun i => lnN ms pw K n d (q + i)) wd)))) (WM E ad (0) n t dr ms pe pw len cod mm fs fc fw sc (liF ms pw K n t d li) ((nI (t - d)).toInt64) (smL (lnL ms pw K n d) (t - d)) (smL (sqL (lnL ms pw K n d)) (t - d)) hs)) noX 0 0 := by
  obtain ⟨g1, g2⟩ := two_le hn hK hK4
  refine ctr_of hst (by decide) (Nat.le_of_ble_eq_true rfl) (fun G O OR hN => ?_)
  have O : OKG E G cX5_boxSum RX5 (rmL 5) [] := O
  have hN : nLG G = 4 := hN
  refine v_aload_n O dX5_boxSum_0 rfl ?_
  refine v_iload_n O dX5_boxSum_1 rfl ?_
  refine v_iconst (v := nI 1) O dX5_boxSum_2 (by decide) ?_
  refine v_bipush (v := nI 8) O dX5_boxSum_3 (by decide) ?_
  refine v_S1 O dX5_boxSum_5 lkX5_42 (c_withinN hst wd 1 8 (by omega) (by decide) (by decide)) rfl rfl rfl (by first | exact hkc | exact Nat.zero_le _) (by first | exact hks | exact Nat.zero_le _) ?_
  refine v_ifB_ne (tgt := 15) O dX5_boxSum_8 (by decide) (fun h => ?_) (fun h => ?_)
  · refine v_aload_n O dX5_boxSum_15 rfl ?_
    refine v_iload_n O dX5_boxSum_16 rfl ?_
    refine v_iload_n O dX5_boxSum_17 rfl ?_
    refine v_iload_n O dX5_boxSum_18 rfl ?_
    refine v_V1 O dX5_boxSum_19 lkX5_114 (c_isBox hst g2 ht (nI d) (nI q) wd hw) 0 rfl rfl rfl rfl rfl (by first | exact hkc | exact Nat.zero_le _) (by first | exact hks | exact Nat.zero_le _) ?_
    refine v_ifB_eq (tgt := 29) O dX5_boxSum_22 (by decide) (fun h2 => ?_) (fun h2 => ?_)
    · rw [bxB_nI g2 hd (by omega), decide_eq_true hq] at h2; cases h2
    · refine v_iconst (v := nI 0) O dX5_boxSum_25 (by decide) ?_
      refine v_goto (tgt := 30) O dX5_boxSum_26 (by decide) ?_
      refine v_put (ty := .int) O dX5_boxSum_30 flX5_39 ftX5 0 rfl rfl (by decide +kernel) rfl rfl (Nat.le_of_ble_eq_true rfl) ?_
      refine v_aload_n O dX5_boxSum_33 rfl ?_
      refine v_get O dX5_boxSum_34 flX5_39 0 rfl rfl ?_
      refine v_ifN_le (tgt := 42) O dX5_boxSum_37 (by decide) (by omega) (fun h3 => ?_) (fun h3 => ?_)
      · refine v_aload_n O dX5_boxSum_42 rfl ?_
        refine v_iload_n O dX5_boxSum_43 rfl ?_
        refine v_w (w' := (WM E ad (0) n t dr ms pe pw len cod mm fs fc fw sc li lm ls lq hs)) rfl ?_
        refine v_V0 O dX5_boxSum_44 lkX5_139 (c_layLines hst hK hK4 hn hm ht d hd) 0 rfl rfl rfl rfl rfl (by first | exact hkc | exact Nat.zero_le _) (by first | exact hks | exact Nat.zero_le _) ?_
        refine v_aload_n O dX5_boxSum_47 rfl ?_
        refine v_iload_n O dX5_boxSum_48 rfl ?_
        refine v_iload_n O dX5_boxSum_49 rfl ?_
        refine v_V1 O dX5_boxSum_50 lkX5_134 (c_boxBy hst q wd (by omega)) 0 rfl rfl rfl rfl rfl (by first | exact hkc | exact Nat.zero_le _) (by first | exact hks | exact Nat.zero_le _) ?_
        exact v_ireturn O OR dX5_boxSum_53 (⟨by rw [sm_cong (fun i hi => fl2_in (show q + i < t - d by omega))], rfl⟩) (Nat.le_of_ble_eq_true rfl) (Nat.le_of_ble_eq_true rfl)
      · omega
  · exact absurd h (by simp; omega)
theorem mx_boxSum1 {E : ET} {ad : Nat → Nat} {th n t dr ms : Nat} {pe pw : Nat → Nat} {len : Nat} {cod : Nat → Nat} {mm : Nat} {fs fc fw : Nat → Nat} {sc : Nat → Int64} {li : Nat → Nat} {lm ls lq hs : Int64} (hst : E.1.stackTraces = false) (x1 x2 x3 : Int32) (hx : ¬ (nI 1 ≤ x3 ∧ x3 ≤ nI 8)) : Ctr E yX5_boxSum cdX5_boxSum (rmL 5) [.ref (ad 0), .int x1, .int x2, .int x3] (WM E ad th n t dr ms pe pw len cod mm fs fc fw sc li lm ls lq hs) (pR (some (.int (nI 0))) (WM E ad (1) n t dr ms pe pw len cod mm fs fc fw sc li lm ls lq hs)) noX 0 0 := by
  refine ctr_of hst (by decide) (Nat.le_of_ble_eq_true rfl) (fun G O OR hN => ?_)
  have O : OKG E G cX5_boxSum RX5 (rmL 5) [] := O
  have hN : nLG G = 4 := hN
  refine v_aload_n O dX5_boxSum_0 rfl ?_
  refine v_iload_n O dX5_boxSum_1 rfl ?_
  refine v_iconst (v := nI 1) O dX5_boxSum_2 (by decide) ?_
  refine v_bipush (v := nI 8) O dX5_boxSum_3 (by decide) ?_
  refine v_S1 O dX5_boxSum_5 lkX5_42 (c_within hst x3 (nI 1) (nI 8)) rfl rfl rfl (by first | exact hkc | exact Nat.zero_le _) (by first | exact hks | exact Nat.zero_le _) ?_
  refine v_ifB_ne (tgt := 15) O dX5_boxSum_8 (by decide) (fun h => ?_) (fun h => ?_)
  · exact absurd (of_decide_eq_true h) hx
  · refine v_iconst (v := nI 1) O dX5_boxSum_11 (by decide) ?_
    refine v_goto (tgt := 30) O dX5_boxSum_12 (by decide) ?_
    refine v_put (ty := .int) O dX5_boxSum_30 flX5_39 ftX5 0 rfl rfl (by decide +kernel) rfl rfl (Nat.le_of_ble_eq_true rfl) ?_
    refine v_aload_n O dX5_boxSum_33 rfl ?_
    refine v_get O dX5_boxSum_34 flX5_39 0 rfl rfl ?_
    refine v_ifN_le (tgt := 42) O dX5_boxSum_37 (by decide) (by omega) (fun h3 => ?_) (fun h3 => ?_)
    · omega
    · refine v_iconst (v := nI 0) O dX5_boxSum_40 (by decide) ?_
      exact v_ireturn O OR dX5_boxSum_41 (⟨rfl, rfl⟩) (Nat.le_of_ble_eq_true rfl) (Nat.le_of_ble_eq_true rfl)
theorem mx_boxSum2 {E : ET} {ad : Nat → Nat} {th n t dr ms : Nat} {pe pw : Nat → Nat} {len : Nat} {cod : Nat → Nat} {mm : Nat} {fs fc fw : Nat → Nat} {sc : Nat → Int64} {li : Nat → Nat} {lm ls lq hs : Int64} (hst : E.1.stackTraces = false) (hn : n ≤ 16) (ht : t ≤ 48) (x1 x2 : Int32) (wd : Nat) (hw1 : 1 ≤ wd) (hw : wd ≤ 8) (hx : bxB n t x1 x2 wd = false) : Ctr E yX5_boxSum cdX5_boxSum (rmL 5) [.ref (ad 0), .int x1, .int x2, .int (nI wd)] (WM E ad th n t dr ms pe pw len cod mm fs fc fw sc li lm ls lq hs) (pR (some (.int (nI 0))) (WM E ad (2) n t dr ms pe pw len cod mm fs fc fw sc li lm ls lq hs)) noX 0 0 := by
  refine ctr_of hst (by decide) (Nat.le_of_ble_eq_true rfl) (fun G O OR hN => ?_)
  have O : OKG E G cX5_boxSum RX5 (rmL 5) [] := O
  have hN : nLG G = 4 := hN
  refine v_aload_n O dX5_boxSum_0 rfl ?_
  refine v_iload_n O dX5_boxSum_1 rfl ?_
  refine v_iconst (v := nI 1) O dX5_boxSum_2 (by decide) ?_
  refine v_bipush (v := nI 8) O dX5_boxSum_3 (by decide) ?_
  refine v_S1 O dX5_boxSum_5 lkX5_42 (c_withinN hst wd 1 8 (by omega) (by decide) (by decide)) rfl rfl rfl (by first | exact hkc | exact Nat.zero_le _) (by first | exact hks | exact Nat.zero_le _) ?_
  refine v_ifB_ne (tgt := 15) O dX5_boxSum_8 (by decide) (fun h => ?_) (fun h => ?_)
  · refine v_aload_n O dX5_boxSum_15 rfl ?_
    refine v_iload_n O dX5_boxSum_16 rfl ?_
    refine v_iload_n O dX5_boxSum_17 rfl ?_
    refine v_iload_n O dX5_boxSum_18 rfl ?_
    refine v_V1 O dX5_boxSum_19 lkX5_114 (c_isBox hst hn ht x1 x2 wd hw) 0 rfl rfl rfl rfl rfl (by first | exact hkc | exact Nat.zero_le _) (by first | exact hks | exact Nat.zero_le _) ?_
    refine v_ifB_eq (tgt := 29) O dX5_boxSum_22 (by decide) (fun h2 => ?_) (fun h2 => ?_)
    · refine v_iconst (v := nI 2) O dX5_boxSum_29 (by decide) ?_
      refine v_put (ty := .int) O dX5_boxSum_30 flX5_39 ftX5 0 rfl rfl (by decide +kernel) rfl rfl (Nat.le_of_ble_eq_true rfl) ?_
      refine v_aload_n O dX5_boxSum_33 rfl ?_
      refine v_get O dX5_boxSum_34 flX5_39 0 rfl rfl ?_
      refine v_ifN_le (tgt := 42) O dX5_boxSum_37 (by decide) (by omega) (fun h3 => ?_) (fun h3 => ?_)
      · omega
      · refine v_iconst (v := nI 0) O dX5_boxSum_40 (by decide) ?_
        exact v_ireturn O OR dX5_boxSum_41 (⟨rfl, rfl⟩) (Nat.le_of_ble_eq_true rfl) (Nat.le_of_ble_eq_true rfl)
    · rw [hx] at h2; cases h2
  · exact absurd h (by simp; omega)
theorem m_score {E : ET} {ad : Nat → Nat} {th n t dr ms : Nat} {pe pw : Nat → Nat} {len : Nat} {cod : Nat → Nat} {mm : Nat} {fs fc fw : Nat → Nat} {sc : Nat → Int64} {li : Nat → Nat} {lm ls lq hs : Int64} {K : Nat} (hst : E.1.stackTraces = false) (hK : 1 ≤ K) (hK4 : K ≤ 4) (hn : n = 2 ^ K) (hm : ms < 65536) (ht : t ≤ 48) (d q wd : Nat) (hd : d < n) (hw1 : 1 ≤ wd) (hw : wd ≤ 8) (hq : q + wd ≤ t - d) (hz : 0 < scV (nI (t - d)).toInt64 (smL (lnL ms pw K n d) (t - d)) (smL (sqL (lnL ms pw K n d)) (t - d)) → ¬ (nI wd).toInt64 * scV (nI (t - d)).toInt64 (smL (lnL ms pw K n d) (t - d)) (smL (sqL (lnL ms pw K n d)) (t - d)) = 0) : Ctr E yX5_score cdX5_score (rmL 5) [.ref (ad 0), .int (nI d), .int (nI q), .int (nI wd)] (WM E ad th n t dr ms pe pw len cod mm fs fc fw sc li lm ls lq hs) (pR (some (.long (scr (nI (t - d)).toInt64 (smL (lnL ms pw K n d) (t - d)) (smL (sqL (lnL ms pw K n d)) (t - d)) (sm (fun i => lnN ms pw K n d (q + i)) wd) wd))) (WM E ad (0) n t dr ms pe pw len cod mm fs fc fw sc (liF ms pw K n t d li) ((nI (t - d)).toInt64) (smL (lnL ms pw K n d) (t - d)) (smL (sqL (lnL ms pw K n d)) (t - d)) hs)) noX 0 0 := by
  obtain ⟨g1, g2⟩ := two_le hn hK hK4
  refine ctr_of hst (by decide) (Nat.le_of_ble_eq_true rfl) (fun G O OR hN => ?_)
  have O : OKG E G cX5_score RX5 (rmL 5) [] := O
  have hN : nLG G = 4 := hN
  refine v_aload_n O dX5_score_0 rfl ?_
  refine v_iload_n O dX5_score_1 rfl ?_
  refine v_iconst (v := nI 1) O dX5_score_2 (by decide) ?_
  refine v_bipush (v := nI 8) O dX5_score_3 (by decide) ?_
  refine v_S1 O dX5_score_5 lkX5_42 (c_withinN hst wd 1 8 (by omega) (by decide) (by decide)) rfl rfl rfl (by first | exact hkc | exact Nat.zero_le _) (by first | exact hks | exact Nat.zero_le _) ?_
  refine v_ifB_ne (tgt := 15) O dX5_score_8 (by decide) (fun h => ?_) (fun h => ?_)
  · refine v_aload_n O dX5_score_15 rfl ?_
    refine v_iload_n O dX5_score_16 rfl ?_
    refine v_iload_n O dX5_score_17 rfl ?_
    refine v_iload_n O dX5_score_18 rfl ?_
    refine v_V1 O dX5_score_19 lkX5_114 (c_isBox hst g2 ht (nI d) (nI q) wd hw) 0 rfl rfl rfl rfl rfl (by first | exact hkc | exact Nat.zero_le _) (by first | exact hks | exact Nat.zero_le _) ?_
    refine v_ifB_eq (tgt := 29) O dX5_score_22 (by decide) (fun h2 => ?_) (fun h2 => ?_)
    · rw [bxB_nI g2 hd (by omega), decide_eq_true hq] at h2; cases h2
    · refine v_iconst (v := nI 0) O dX5_score_25 (by decide) ?_
      refine v_goto (tgt := 30) O dX5_score_26 (by decide) ?_
      refine v_put (ty := .int) O dX5_score_30 flX5_39 ftX5 0 rfl rfl (by decide +kernel) rfl rfl (Nat.le_of_ble_eq_true rfl) ?_
      refine v_aload_n O dX5_score_33 rfl ?_
      refine v_get O dX5_score_34 flX5_39 0 rfl rfl ?_
      refine v_ifN_le (tgt := 42) O dX5_score_37 (by decide) (by omega) (fun h3 => ?_) (fun h3 => ?_)
      · refine v_aload_n O dX5_score_42 rfl ?_
        refine v_iload_n O dX5_score_43 rfl ?_
        refine v_w (w' := (WM E ad (0) n t dr ms pe pw len cod mm fs fc fw sc li lm ls lq hs)) rfl ?_
        refine v_V0 O dX5_score_44 lkX5_139 (c_layLines hst hK hK4 hn hm ht d hd) 0 rfl rfl rfl rfl rfl (by first | exact hkc | exact Nat.zero_le _) (by first | exact hks | exact Nat.zero_le _) ?_
        refine v_aload_n O dX5_score_47 rfl ?_
        refine v_iload_n O dX5_score_48 rfl ?_
        refine v_iload_n O dX5_score_49 rfl ?_
        refine v_V1 O dX5_score_50 lkX5_143 (c_scoreBy hst q wd (by omega) hz) 0 rfl rfl rfl rfl rfl (by first | exact hkc | exact Nat.zero_le _) (by first | exact hks | exact Nat.zero_le _) ?_
        exact v_lreturn O OR dX5_score_53 (⟨by rw [sm_cong (fun i hi => fl2_in (show q + i < t - d by omega))], rfl⟩) (Nat.le_of_ble_eq_true rfl) (Nat.le_of_ble_eq_true rfl)
      · omega
  · exact absurd h (by simp; omega)
theorem mx_score1 {E : ET} {ad : Nat → Nat} {th n t dr ms : Nat} {pe pw : Nat → Nat} {len : Nat} {cod : Nat → Nat} {mm : Nat} {fs fc fw : Nat → Nat} {sc : Nat → Int64} {li : Nat → Nat} {lm ls lq hs : Int64} (hst : E.1.stackTraces = false) (x1 x2 x3 : Int32) (hx : ¬ (nI 1 ≤ x3 ∧ x3 ≤ nI 8)) : Ctr E yX5_score cdX5_score (rmL 5) [.ref (ad 0), .int x1, .int x2, .int x3] (WM E ad th n t dr ms pe pw len cod mm fs fc fw sc li lm ls lq hs) (pR (some (.long 0)) (WM E ad (1) n t dr ms pe pw len cod mm fs fc fw sc li lm ls lq hs)) noX 0 0 := by
  refine ctr_of hst (by decide) (Nat.le_of_ble_eq_true rfl) (fun G O OR hN => ?_)
  have O : OKG E G cX5_score RX5 (rmL 5) [] := O
  have hN : nLG G = 4 := hN
  refine v_aload_n O dX5_score_0 rfl ?_
  refine v_iload_n O dX5_score_1 rfl ?_
  refine v_iconst (v := nI 1) O dX5_score_2 (by decide) ?_
  refine v_bipush (v := nI 8) O dX5_score_3 (by decide) ?_
  refine v_S1 O dX5_score_5 lkX5_42 (c_within hst x3 (nI 1) (nI 8)) rfl rfl rfl (by first | exact hkc | exact Nat.zero_le _) (by first | exact hks | exact Nat.zero_le _) ?_
  refine v_ifB_ne (tgt := 15) O dX5_score_8 (by decide) (fun h => ?_) (fun h => ?_)
  · exact absurd (of_decide_eq_true h) hx
  · refine v_iconst (v := nI 1) O dX5_score_11 (by decide) ?_
    refine v_goto (tgt := 30) O dX5_score_12 (by decide) ?_
    refine v_put (ty := .int) O dX5_score_30 flX5_39 ftX5 0 rfl rfl (by decide +kernel) rfl rfl (Nat.le_of_ble_eq_true rfl) ?_
    refine v_aload_n O dX5_score_33 rfl ?_
    refine v_get O dX5_score_34 flX5_39 0 rfl rfl ?_
    refine v_ifN_le (tgt := 42) O dX5_score_37 (by decide) (by omega) (fun h3 => ?_) (fun h3 => ?_)
    · omega
    · refine v_lconst (v := 0) O dX5_score_40 (by decide) ?_
      exact v_lreturn O OR dX5_score_41 (⟨rfl, rfl⟩) (Nat.le_of_ble_eq_true rfl) (Nat.le_of_ble_eq_true rfl)
theorem mx_score2 {E : ET} {ad : Nat → Nat} {th n t dr ms : Nat} {pe pw : Nat → Nat} {len : Nat} {cod : Nat → Nat} {mm : Nat} {fs fc fw : Nat → Nat} {sc : Nat → Int64} {li : Nat → Nat} {lm ls lq hs : Int64} (hst : E.1.stackTraces = false) (hn : n ≤ 16) (ht : t ≤ 48) (x1 x2 : Int32) (wd : Nat) (hw1 : 1 ≤ wd) (hw : wd ≤ 8) (hx : bxB n t x1 x2 wd = false) : Ctr E yX5_score cdX5_score (rmL 5) [.ref (ad 0), .int x1, .int x2, .int (nI wd)] (WM E ad th n t dr ms pe pw len cod mm fs fc fw sc li lm ls lq hs) (pR (some (.long 0)) (WM E ad (2) n t dr ms pe pw len cod mm fs fc fw sc li lm ls lq hs)) noX 0 0 := by
  refine ctr_of hst (by decide) (Nat.le_of_ble_eq_true rfl) (fun G O OR hN => ?_)
  have O : OKG E G cX5_score RX5 (rmL 5) [] := O
  have hN : nLG G = 4 := hN
  refine v_aload_n O dX5_score_0 rfl ?_
  refine v_iload_n O dX5_score_1 rfl ?_
  refine v_iconst (v := nI 1) O dX5_score_2 (by decide) ?_
  refine v_bipush (v := nI 8) O dX5_score_3 (by decide) ?_
  refine v_S1 O dX5_score_5 lkX5_42 (c_withinN hst wd 1 8 (by omega) (by decide) (by decide)) rfl rfl rfl (by first | exact hkc | exact Nat.zero_le _) (by first | exact hks | exact Nat.zero_le _) ?_
  refine v_ifB_ne (tgt := 15) O dX5_score_8 (by decide) (fun h => ?_) (fun h => ?_)
  · refine v_aload_n O dX5_score_15 rfl ?_
    refine v_iload_n O dX5_score_16 rfl ?_
    refine v_iload_n O dX5_score_17 rfl ?_
    refine v_iload_n O dX5_score_18 rfl ?_
    refine v_V1 O dX5_score_19 lkX5_114 (c_isBox hst hn ht x1 x2 wd hw) 0 rfl rfl rfl rfl rfl (by first | exact hkc | exact Nat.zero_le _) (by first | exact hks | exact Nat.zero_le _) ?_
    refine v_ifB_eq (tgt := 29) O dX5_score_22 (by decide) (fun h2 => ?_) (fun h2 => ?_)
    · refine v_iconst (v := nI 2) O dX5_score_29 (by decide) ?_
      refine v_put (ty := .int) O dX5_score_30 flX5_39 ftX5 0 rfl rfl (by decide +kernel) rfl rfl (Nat.le_of_ble_eq_true rfl) ?_
      refine v_aload_n O dX5_score_33 rfl ?_
      refine v_get O dX5_score_34 flX5_39 0 rfl rfl ?_
      refine v_ifN_le (tgt := 42) O dX5_score_37 (by decide) (by omega) (fun h3 => ?_) (fun h3 => ?_)
      · omega
      · refine v_lconst (v := 0) O dX5_score_40 (by decide) ?_
        exact v_lreturn O OR dX5_score_41 (⟨rfl, rfl⟩) (Nat.le_of_ble_eq_true rfl) (Nat.le_of_ble_eq_true rfl)
    · rw [hx] at h2; cases h2
  · exact absurd h (by simp; omega)
theorem m_candidate {E : ET} {ad : Nat → Nat} {th n t dr ms : Nat} {pe pw : Nat → Nat} {len : Nat} {cod : Nat → Nat} {mm : Nat} {fs fc fw : Nat → Nat} {sc : Nat → Int64} {li : Nat → Nat} {lm ls lq hs : Int64} (hst : E.1.stackTraces = false) (hmm : mm ≤ 8) (i a : Nat) (hi : i < mm) (ha : a < 5) : Ctr E yX5_candidate cdX5_candidate (rmL 2) [.ref (ad 0), .int (nI i), .int (nI a)] (WM E ad th n t dr ms pe pw len cod mm fs fc fw sc li lm ls lq hs) (pR (some (.long (tld fs fc fw sc dr i a))) (WM E ad (0) n t dr ms pe pw len cod mm fs fc fw sc li lm ls lq hs)) noX 0 0 := by
  refine ctr_of hst (by decide) (Nat.le_of_ble_eq_true rfl) (fun G O OR hN => ?_)
  have O : OKG E G cX5_candidate RX5 (rmL 2) [] := O
  have hN : nLG G = 3 := hN
  refine v_aload_n O dX5_candidate_0 rfl ?_
  refine v_iload_n O dX5_candidate_1 rfl ?_
  refine v_iconst (v := nI 0) O dX5_candidate_2 (by decide) ?_
  refine v_aload_n O dX5_candidate_3 rfl ?_
  refine v_get O dX5_candidate_4 flX5_55 0 rfl rfl ?_
  refine v_iconst (v := nI 1) O dX5_candidate_7 (by decide) ?_
  refine v_isubN O dX5_candidate_8 (by omega) ?_
  refine v_S1 O dX5_candidate_9 lkX5_42 (c_withinN hst i 0 (mm - 1) (by omega) (by decide) (by omega)) rfl rfl rfl (by first | exact hkc | exact Nat.zero_le _) (by first | exact hks | exact Nat.zero_le _) ?_
  refine v_ifB_ne (tgt := 19) O dX5_candidate_12 (by decide) (fun h => ?_) (fun h => ?_)
  · refine v_iload_n O dX5_candidate_19 rfl ?_
    refine v_iconst (v := nI 0) O dX5_candidate_20 (by decide) ?_
    refine v_iconst (v := nI 4) O dX5_candidate_21 (by decide) ?_
    refine v_S1 O dX5_candidate_22 lkX5_42 (c_withinN hst a 0 4 (by omega) (by decide) (by decide)) rfl rfl rfl (by first | exact hkc | exact Nat.zero_le _) (by first | exact hks | exact Nat.zero_le _) ?_
    refine v_ifB_eq (tgt := 32) O dX5_candidate_25 (by decide) (fun h2 => ?_) (fun h2 => ?_)
    · exact absurd h2 (by simp; omega)
    · refine v_iconst (v := nI 0) O dX5_candidate_28 (by decide) ?_
      refine v_goto (tgt := 33) O dX5_candidate_29 (by decide) ?_
      refine v_put (ty := .int) O dX5_candidate_33 flX5_39 ftX5 0 rfl rfl (by decide +kernel) rfl rfl (Nat.le_of_ble_eq_true rfl) ?_
      refine v_aload_n O dX5_candidate_36 rfl ?_
      refine v_get O dX5_candidate_37 flX5_39 0 rfl rfl ?_
      refine v_ifN_le (tgt := 47) O dX5_candidate_40 (by decide) (by omega) (fun h3 => ?_) (fun h3 => ?_)
      · refine v_aload_n O dX5_candidate_47 rfl ?_
        refine v_iload_n O dX5_candidate_48 rfl ?_
        refine v_iload_n O dX5_candidate_49 rfl ?_
        refine v_w (w' := (WM E ad (0) n t dr ms pe pw len cod mm fs fc fw sc li lm ls lq hs)) rfl ?_
        refine v_V1 O dX5_candidate_50 lkX5_159 (c_told hst i a (by omega) ha) 0 rfl rfl rfl rfl rfl (by first | exact hkc | exact Nat.zero_le _) (by first | exact hks | exact Nat.zero_le _) ?_
        exact v_lreturn O OR dX5_candidate_53 (⟨rfl, rfl⟩) (Nat.le_of_ble_eq_true rfl) (Nat.le_of_ble_eq_true rfl)
      · omega
  · exact absurd h (by simp; omega)
theorem mx_candidate1 {E : ET} {ad : Nat → Nat} {th n t dr ms : Nat} {pe pw : Nat → Nat} {len : Nat} {cod : Nat → Nat} {mm : Nat} {fs fc fw : Nat → Nat} {sc : Nat → Int64} {li : Nat → Nat} {lm ls lq hs : Int64} (hst : E.1.stackTraces = false) (hmm : mm ≤ 8) (x y : Int32) (hx : inB x mm = false) : Ctr E yX5_candidate cdX5_candidate (rmL 2) [.ref (ad 0), .int x, .int y] (WM E ad th n t dr ms pe pw len cod mm fs fc fw sc li lm ls lq hs) (pR (some (.long 0)) (WM E ad (1) n t dr ms pe pw len cod mm fs fc fw sc li lm ls lq hs)) noX 0 0 := by
  refine ctr_of hst (by decide) (Nat.le_of_ble_eq_true rfl) (fun G O OR hN => ?_)
  have O : OKG E G cX5_candidate RX5 (rmL 2) [] := O
  have hN : nLG G = 3 := hN
  refine v_aload_n O dX5_candidate_0 rfl ?_
  refine v_iload_n O dX5_candidate_1 rfl ?_
  refine v_iconst (v := nI 0) O dX5_candidate_2 (by decide) ?_
  refine v_aload_n O dX5_candidate_3 rfl ?_
  refine v_get O dX5_candidate_4 flX5_55 0 rfl rfl ?_
  refine v_iconst (v := nI 1) O dX5_candidate_7 (by decide) ?_
  refine v_isub O dX5_candidate_8 ?_
  refine v_S1 O dX5_candidate_9 lkX5_42 (c_within hst x (nI 0) (nI mm - nI 1)) rfl rfl rfl (by first | exact hkc | exact Nat.zero_le _) (by first | exact hks | exact Nat.zero_le _) ?_
  rw [inB_dec (by omega), hx]
  refine v_ifB_ne (tgt := 19) O dX5_candidate_12 (by decide) (fun h => ?_) (fun h => ?_)
  · cases h
  · refine v_iconst (v := nI 1) O dX5_candidate_15 (by decide) ?_
    refine v_goto (tgt := 33) O dX5_candidate_16 (by decide) ?_
    refine v_put (ty := .int) O dX5_candidate_33 flX5_39 ftX5 0 rfl rfl (by decide +kernel) rfl rfl (Nat.le_of_ble_eq_true rfl) ?_
    refine v_aload_n O dX5_candidate_36 rfl ?_
    refine v_get O dX5_candidate_37 flX5_39 0 rfl rfl ?_
    refine v_ifN_le (tgt := 47) O dX5_candidate_40 (by decide) (by omega) (fun h3 => ?_) (fun h3 => ?_)
    · omega
    · refine v_lconst (v := 0) O dX5_candidate_43 (by decide) ?_
      refine v_goto (tgt := 53) O dX5_candidate_44 (by decide) ?_
      exact v_lreturn O OR dX5_candidate_53 (⟨rfl, rfl⟩) (Nat.le_of_ble_eq_true rfl) (Nat.le_of_ble_eq_true rfl)
theorem mx_candidate2 {E : ET} {ad : Nat → Nat} {th n t dr ms : Nat} {pe pw : Nat → Nat} {len : Nat} {cod : Nat → Nat} {mm : Nat} {fs fc fw : Nat → Nat} {sc : Nat → Int64} {li : Nat → Nat} {lm ls lq hs : Int64} (hst : E.1.stackTraces = false) (hmm : mm ≤ 8) (x y : Int32) (hx : inB x mm = true) (hy : ¬ (nI 0 ≤ y ∧ y ≤ nI 4)) : Ctr E yX5_candidate cdX5_candidate (rmL 2) [.ref (ad 0), .int x, .int y] (WM E ad th n t dr ms pe pw len cod mm fs fc fw sc li lm ls lq hs) (pR (some (.long 0)) (WM E ad (2) n t dr ms pe pw len cod mm fs fc fw sc li lm ls lq hs)) noX 0 0 := by
  refine ctr_of hst (by decide) (Nat.le_of_ble_eq_true rfl) (fun G O OR hN => ?_)
  have O : OKG E G cX5_candidate RX5 (rmL 2) [] := O
  have hN : nLG G = 3 := hN
  refine v_aload_n O dX5_candidate_0 rfl ?_
  refine v_iload_n O dX5_candidate_1 rfl ?_
  refine v_iconst (v := nI 0) O dX5_candidate_2 (by decide) ?_
  refine v_aload_n O dX5_candidate_3 rfl ?_
  refine v_get O dX5_candidate_4 flX5_55 0 rfl rfl ?_
  refine v_iconst (v := nI 1) O dX5_candidate_7 (by decide) ?_
  refine v_isub O dX5_candidate_8 ?_
  refine v_S1 O dX5_candidate_9 lkX5_42 (c_within hst x (nI 0) (nI mm - nI 1)) rfl rfl rfl (by first | exact hkc | exact Nat.zero_le _) (by first | exact hks | exact Nat.zero_le _) ?_
  rw [inB_dec (by omega), hx]
  refine v_ifB_ne (tgt := 19) O dX5_candidate_12 (by decide) (fun h => ?_) (fun h => ?_)
  · refine v_iload_n O dX5_candidate_19 rfl ?_
    refine v_iconst (v := nI 0) O dX5_candidate_20 (by decide) ?_
    refine v_iconst (v := nI 4) O dX5_candidate_21 (by decide) ?_
    refine v_S1 O dX5_candidate_22 lkX5_42 (c_within hst y (nI 0) (nI 4)) rfl rfl rfl (by first | exact hkc | exact Nat.zero_le _) (by first | exact hks | exact Nat.zero_le _) ?_
    refine v_ifB_eq (tgt := 32) O dX5_candidate_25 (by decide) (fun h2 => ?_) (fun h2 => ?_)
    · refine v_iconst (v := nI 2) O dX5_candidate_32 (by decide) ?_
      refine v_put (ty := .int) O dX5_candidate_33 flX5_39 ftX5 0 rfl rfl (by decide +kernel) rfl rfl (Nat.le_of_ble_eq_true rfl) ?_
      refine v_aload_n O dX5_candidate_36 rfl ?_
      refine v_get O dX5_candidate_37 flX5_39 0 rfl rfl ?_
      refine v_ifN_le (tgt := 47) O dX5_candidate_40 (by decide) (by omega) (fun h3 => ?_) (fun h3 => ?_)
      · omega
      · refine v_lconst (v := 0) O dX5_candidate_43 (by decide) ?_
        refine v_goto (tgt := 53) O dX5_candidate_44 (by decide) ?_
        exact v_lreturn O OR dX5_candidate_53 (⟨rfl, rfl⟩) (Nat.le_of_ble_eq_true rfl) (Nat.le_of_ble_eq_true rfl)
    · exact absurd (of_decide_eq_true h2) hy
  · cases h
-- candidateAt
def inS (fs fc fw : Nat → Nat) (q k : Nat) : Bool := decide (fc k ≤ q ∧ q ≤ fc k + fw k - 1 + fs k)
/-- the first of i, i + 1 .. (j of them) with p; none: -1 -/
def fI (p : Nat → Bool) : Nat → Nat → Int32
  | _, 0 => -1
  | i, j + 1 => if p i = true then nI i else fI p (i + 1) j
theorem dI_0 : nI 0 - nI 1 < 0 := by decide
theorem dI_s (j : Nat) : nI (j + 1) - nI 1 = nI j := by rw [pk_sub (by omega)]; rfl
theorem dI_m (j : Nat) : nI j + Int32.ofInt (-1) = nI j - nI 1 := by
  rw [Int32.sub_eq_add_neg]
  rfl
theorem lp_candidateAtM {E : ET} {G : GT} (O : OKG E G cX5_candidateAt RX5 (rmL 3) []) (hN : nLG G = 5) {ad : Nat → Nat} {th n t dr ms : Nat} {pe pw : Nat → Nat} {len : Nat} {cod : Nat → Nat} {mm : Nat} {fs fc fw : Nat → Nat} {sc : Nat → Int64} {li : Nat → Nat} {lm ls lq hs : Int64} {q : Nat} (hst : E.1.stackTraces = false) (hmm : mm ≤ 8) (hq : q < 48) (hcd : ∀ k, k < mm → fs k < 16 ∧ fc k < 48 ∧ 1 ≤ fw k ∧ fw k ≤ 8) (kk : V E G 0 0 88 [(0, .ref (ad 0)), (2, .int (fI (inS fs fc fw q) 0 mm))] [] (WM E ad (0) n t dr ms pe pw len cod mm fs fc fw sc li lm ls lq hs)) : ∀ i : Nat, i ≤ mm → V E G 0 0 26 [(0, .ref (ad 0)), (1, .int (nI q)), (2, .int (fI (inS fs fc fw q) i (mm - i))), (3, .int (nI i - nI 1))] [] (WM E ad (0) n t dr ms pe pw len cod mm fs fc fw sc li lm ls lq hs) := by
  intro i
  induction i with
  | zero =>
    intro hi
    refine v_iload_n O dX5_candidateAt_26 rfl ?_
    refine v_if_lt (tgt := 88) O dX5_candidateAt_27 (by decide) (fun h => ?_) (fun h => ?_)
    · refine v_ord [0, 2] ?_
      exact kk
    · exact absurd dI_0 h
  | succ i ih =>
    intro hi
    rw [dI_s]
    obtain ⟨a1, a2, a3, a4⟩ := hcd i (by omega)
    refine v_iload_n O dX5_candidateAt_26 rfl ?_
    refine v_if_lt (tgt := 88) O dX5_candidateAt_27 (by decide) (fun h => ?_) (fun h => ?_)
    · exact absurd h (nI_pos (by omega))
    · refine v_aload_n O dX5_candidateAt_30 rfl ?_
      refine v_get O dX5_candidateAt_31 flX5_39 0 rfl rfl ?_
      refine v_ifN_ne (tgt := 88) O dX5_candidateAt_34 (by decide) (by omega) (fun h2 => ?_) (fun h2 => ?_)
      · omega
      · refine v_iload_n O dX5_candidateAt_37 rfl ?_
        refine v_aload_n O dX5_candidateAt_38 rfl ?_
        refine v_get O dX5_candidateAt_39 flX5_26 0 rfl rfl ?_
        refine v_iload_n O dX5_candidateAt_42 rfl ?_
        refine v_iald O dX5_candidateAt_43 5 rfl (by decide) (by omega) ?_
        refine v_aload_n O dX5_candidateAt_44 rfl ?_
        refine v_get O dX5_candidateAt_45 flX5_26 0 rfl rfl ?_
        refine v_iload_n O dX5_candidateAt_48 rfl ?_
        refine v_iald O dX5_candidateAt_49 5 rfl (by decide) (by omega) ?_
        refine v_aload_n O dX5_candidateAt_50 rfl ?_
        refine v_get O dX5_candidateAt_51 flX5_29 0 rfl rfl ?_
        refine v_iload_n O dX5_candidateAt_54 rfl ?_
        refine v_iald O dX5_candidateAt_55 6 rfl (by decide) (by omega) ?_
        refine v_iaddN O dX5_candidateAt_56 ?_
        refine v_iconst (v := nI 1) O dX5_candidateAt_57 (by decide) ?_
        refine v_isubN O dX5_candidateAt_58 (by omega) ?_
        refine v_aload_n O dX5_candidateAt_59 rfl ?_
        refine v_get O dX5_candidateAt_60 flX5_23 0 rfl rfl ?_
        refine v_iload_n O dX5_candidateAt_63 rfl ?_
        refine v_iald O dX5_candidateAt_64 4 rfl (by decide) (by omega) ?_
        refine v_iaddN O dX5_candidateAt_65 ?_
        refine v_S1 O dX5_candidateAt_66 lkX5_42 (c_withinN hst q (fc i) (fc i + fw i - 1 + fs i) (by omega) (by omega) (by omega)) rfl rfl rfl (by first | exact hkc | exact Nat.zero_le _) (by first | exact hks | exact Nat.zero_le _) ?_
        have key : V E G 0 0 81 [(0, .ref (ad 0)), (1, .int (nI q)), (3, .int (nI i))] [.int (fI (inS fs fc fw q) i (mm - i))] (WM E ad (0) n t dr ms pe pw len cod mm fs fc fw sc li lm ls lq hs) := by
          refine v_istore_n O dX5_candidateAt_81 (by rw [hN]; decide) ?_
          refine v_iinc O dX5_candidateAt_82 rfl (by rw [hN]; decide) ?_
          refine v_goto (tgt := 26) O dX5_candidateAt_85 (by decide) ?_
          rw [dI_m]
          refine v_ord [0, 1, 2, 3] ?_
          exact ih (by omega)
        have e : mm - i = (mm - (i + 1)) + 1 := by omega
        refine v_istore O dX5_candidateAt_69 (by rw [hN]; decide) ?_
        refine v_iload O dX5_candidateAt_71 rfl ?_
        refine v_ifB_eq (tgt := 80) O dX5_candidateAt_73 (by decide) (fun h3 => ?_) (fun h3 => ?_)
        · refine v_iload_n O dX5_candidateAt_80 rfl ?_
          refine v_ord [0, 1, 3] ?_
          refine v_st ?_ key
          rw [e, fI, if_neg (by unfold inS; rw [h3]; decide)]
        · refine v_iload_n O dX5_candidateAt_76 rfl ?_
          refine v_goto (tgt := 81) O dX5_candidateAt_77 (by decide) ?_
          refine v_ord [0, 1, 3] ?_
          refine v_st ?_ key
          rw [e, fI, if_pos (by unfold inS; rw [h3])]
theorem m_candidateAt {E : ET} {ad : Nat → Nat} {th n t dr ms : Nat} {pe pw : Nat → Nat} {len : Nat} {cod : Nat → Nat} {mm : Nat} {fs fc fw : Nat → Nat} {sc : Nat → Int64} {li : Nat → Nat} {lm ls lq hs : Int64} (hst : E.1.stackTraces = false) (hmm : mm ≤ 8) (ht : t ≤ 48) (q : Nat) (hq : q < t) (hcd : ∀ k, k < mm → fs k < 16 ∧ fc k < 48 ∧ 1 ≤ fw k ∧ fw k ≤ 8) : Ctr E yX5_candidateAt cdX5_candidateAt (rmL 3) [.ref (ad 0), .int (nI q)] (WM E ad th n t dr ms pe pw len cod mm fs fc fw sc li lm ls lq hs) (pR (some (.int (fI (inS fs fc fw q) 0 mm))) (WM E ad (0) n t dr ms pe pw len cod mm fs fc fw sc li lm ls lq hs)) noX 0 0 := by
  refine ctr_of hst (by decide) (Nat.le_of_ble_eq_true rfl) (fun G O OR hN => ?_)
  have O : OKG E G cX5_candidateAt RX5 (rmL 3) [] := O
  have hN : nLG G = 5 := hN
  refine v_aload_n O dX5_candidateAt_0 rfl ?_
  refine v_aload_n O dX5_candidateAt_1 rfl ?_
  refine v_iload_n O dX5_candidateAt_2 rfl ?_
  refine v_V1 O dX5_candidateAt_3 lkX5_96 (c_isColumn hst ht (nI q)) 0 rfl rfl rfl rfl rfl (by first | exact hkc | exact Nat.zero_le _) (by first | exact hks | exact Nat.zero_le _) ?_
  refine v_ifB_eq (tgt := 13) O dX5_candidateAt_6 (by decide) (fun h => ?_) (fun h => ?_)
  · rw [inB_nI hq (by omega)] at h; cases h
  · refine v_iconst (v := nI 0) O dX5_candidateAt_9 (by decide) ?_
    refine v_goto (tgt := 14) O dX5_candidateAt_10 (by decide) ?_
    refine v_put (ty := .int) O dX5_candidateAt_14 flX5_39 ftX5 0 rfl rfl (by decide +kernel) rfl rfl (Nat.le_of_ble_eq_true rfl) ?_
    refine v_iconst (v := -1) O dX5_candidateAt_17 (by decide) ?_
    refine v_istore_n O dX5_candidateAt_18 (by rw [hN]; decide) ?_
    refine v_aload_n O dX5_candidateAt_19 rfl ?_
    refine v_get O dX5_candidateAt_20 flX5_55 0 rfl rfl ?_
    refine v_iconst (v := nI 1) O dX5_candidateAt_23 (by decide) ?_
    refine v_isub O dX5_candidateAt_24 ?_
    refine v_istore_n O dX5_candidateAt_25 (by rw [hN]; decide) ?_
    refine v_ord [0, 1, 2, 3] ?_
    refine v_w (w' := (WM E ad (0) n t dr ms pe pw len cod mm fs fc fw sc li lm ls lq hs)) rfl ?_
    have e : (-1 : Int32) = fI (inS fs fc fw q) mm (mm - mm) := by rw [Nat.sub_self, fI]
    rw [e]
    refine lp_candidateAtM (th := th) O hN hst hmm (by omega) hcd ?_ mm (Nat.le_refl _)
    refine v_aload_n O dX5_candidateAt_88 rfl ?_
    refine v_get O dX5_candidateAt_89 flX5_39 0 rfl rfl ?_
    refine v_ifN_le (tgt := 99) O dX5_candidateAt_92 (by decide) (by omega) (fun h2 => ?_) (fun h2 => ?_)
    · refine v_iload_n O dX5_candidateAt_99 rfl ?_
      exact v_ireturn O OR dX5_candidateAt_100 (⟨rfl, rfl⟩) (Nat.le_of_ble_eq_true rfl) (Nat.le_of_ble_eq_true rfl)
    · omega
theorem mx_candidateAt {E : ET} {ad : Nat → Nat} {th n t dr ms : Nat} {pe pw : Nat → Nat} {len : Nat} {cod : Nat → Nat} {mm : Nat} {fs fc fw : Nat → Nat} {sc : Nat → Int64} {li : Nat → Nat} {lm ls lq hs : Int64} (hst : E.1.stackTraces = false) (hmm : mm ≤ 8) (ht : t ≤ 48) (x : Int32) (hx : inB x t = false) : Ctr E yX5_candidateAt cdX5_candidateAt (rmL 3) [.ref (ad 0), .int x] (WM E ad th n t dr ms pe pw len cod mm fs fc fw sc li lm ls lq hs) (pR (some (.int (nI 0))) (WM E ad (1) n t dr ms pe pw len cod mm fs fc fw sc li lm ls lq hs)) noX 0 0 := by
  refine ctr_of hst (by decide) (Nat.le_of_ble_eq_true rfl) (fun G O OR hN => ?_)
  have O : OKG E G cX5_candidateAt RX5 (rmL 3) [] := O
  have hN : nLG G = 5 := hN
  have key : ∀ y : Int32, V E G 0 0 88 [(0, .ref (ad 0)), (2, .int y)] [] (WM E ad (1) n t dr ms pe pw len cod mm fs fc fw sc li lm ls lq hs) := by
    intro y
    refine v_aload_n O dX5_candidateAt_88 rfl ?_
    refine v_get O dX5_candidateAt_89 flX5_39 0 rfl rfl ?_
    refine v_ifN_le (tgt := 99) O dX5_candidateAt_92 (by decide) (by omega) (fun h2 => ?_) (fun h2 => ?_)
    · omega
    · refine v_iconst (v := nI 0) O dX5_candidateAt_95 (by decide) ?_
      refine v_goto (tgt := 100) O dX5_candidateAt_96 (by decide) ?_
      exact v_ireturn O OR dX5_candidateAt_100 (⟨rfl, rfl⟩) (Nat.le_of_ble_eq_true rfl) (Nat.le_of_ble_eq_true rfl)
  refine v_aload_n O dX5_candidateAt_0 rfl ?_
  refine v_aload_n O dX5_candidateAt_1 rfl ?_
  refine v_iload_n O dX5_candidateAt_2 rfl ?_
  refine v_V1 O dX5_candidateAt_3 lkX5_96 (c_isColumn hst ht x) 0 rfl rfl rfl rfl rfl (by first | exact hkc | exact Nat.zero_le _) (by first | exact hks | exact Nat.zero_le _) ?_
  refine v_ifB_eq (tgt := 13) O dX5_candidateAt_6 (by decide) (fun h => ?_) (fun h => ?_)
  · refine v_iconst (v := nI 1) O dX5_candidateAt_13 (by decide) ?_
    refine v_put (ty := .int) O dX5_candidateAt_14 flX5_39 ftX5 0 rfl rfl (by decide +kernel) rfl rfl (Nat.le_of_ble_eq_true rfl) ?_
    refine v_iconst (v := -1) O dX5_candidateAt_17 (by decide) ?_
    refine v_istore_n O dX5_candidateAt_18 (by rw [hN]; decide) ?_
    refine v_aload_n O dX5_candidateAt_19 rfl ?_
    refine v_get O dX5_candidateAt_20 flX5_55 0 rfl rfl ?_
    refine v_iconst (v := nI 1) O dX5_candidateAt_23 (by decide) ?_
    refine v_isub O dX5_candidateAt_24 ?_
    refine v_istore_n O dX5_candidateAt_25 (by rw [hN]; decide) ?_
    refine v_iload_n O dX5_candidateAt_26 rfl ?_
    refine v_w (w' := (WM E ad (1) n t dr ms pe pw len cod mm fs fc fw sc li lm ls lq hs)) rfl ?_
    refine v_if_lt (tgt := 88) O dX5_candidateAt_27 (by decide) (fun h2 => ?_) (fun h2 => ?_)
    · refine v_ord [0, 2] ?_
      exact key _
    · refine v_aload_n O dX5_candidateAt_30 rfl ?_
      refine v_get O dX5_candidateAt_31 flX5_39 0 rfl rfl ?_
      refine v_ifN_ne (tgt := 88) O dX5_candidateAt_34 (by decide) (by omega) (fun h3 => ?_) (fun h3 => ?_)
      · refine v_ord [0, 2] ?_
        exact key _
      · omega
  · rw [hx] at h; cases h
