-- the reference's public methods: m_.. where the document asks for an answer, mx_.. where for an exception
theorem m_setChannels {E : ET} {ad : Nat → Nat} {th n t dr ms : Nat} {pe pw : Nat → Nat} {len : Nat} {cod : Nat → Nat} {mm : Nat} {fs fc fw : Nat → Nat} {sc : Nat → Int64} {li : Nat → Nat} {lm ls lq hs : Int64} (hst : E.1.stackTraces = false) (n' : Nat) (hn : n' = 2 ∨ n' = 4 ∨ n' = 8 ∨ n' = 16) : Ctr E yX5_setChannels cdX5_setChannels (rmL 2) [.ref (ad 0), .int (nI n')] (WM E ad th n t dr ms pe pw len cod mm fs fc fw sc li lm ls lq hs) (pR (some (.int (nI n))) (WM E ad (0) (n') (0) (0) (0) (fil pe 0 16) pw len cod (0) fs fc fw sc li lm ls lq hs)) noX 0 0 := by
  refine ctr_of hst (by decide) (Nat.le_of_ble_eq_true rfl) (fun G O OR hN => ?_)
  have O : OKG E G cX5_setChannels RX5 (rmL 2) [] := O
  have hN : nLG G = 3 := hN
  have key : V E G 0 0 23 [(0, .ref (ad 0)), (1, .int (nI n'))] [.ref (ad 0)] (WM E ad th n t dr ms pe pw len cod mm fs fc fw sc li lm ls lq hs) := by
    refine v_iconst (v := nI 0) O dX5_setChannels_23 (by decide) ?_
    refine v_goto (tgt := 28) O dX5_setChannels_24 (by decide) ?_
    refine v_put (ty := .int) O dX5_setChannels_28 flX5_39 ftX5 0 rfl rfl (by decide +kernel) rfl rfl (Nat.le_of_ble_eq_true rfl) ?_
    refine v_aload_n O dX5_setChannels_31 rfl ?_
    refine v_get O dX5_setChannels_32 flX5_39 0 rfl rfl ?_
    refine v_ifN_le (tgt := 40) O dX5_setChannels_35 (by decide) (by omega) (fun h => ?_) (fun h => ?_)
    · refine v_aload_n O dX5_setChannels_40 rfl ?_
      refine v_get O dX5_setChannels_41 flX5_7 0 rfl rfl ?_
      refine v_istore_n O dX5_setChannels_44 (by rw [hN]; decide) ?_
      refine v_aload_n O dX5_setChannels_45 rfl ?_
      refine v_iload_n O dX5_setChannels_46 rfl ?_
      refine v_put (ty := .int) O dX5_setChannels_47 flX5_7 ftX5 0 rfl rfl (by decide +kernel) rfl rfl (Nat.le_of_ble_eq_true rfl) ?_
      refine v_aload_n O dX5_setChannels_50 rfl ?_
      refine v_iconst (v := nI 0) O dX5_setChannels_51 (by decide) ?_
      refine v_put (ty := .int) O dX5_setChannels_52 flX5_46 ftX5 0 rfl rfl (by decide +kernel) rfl rfl (Nat.le_of_ble_eq_true rfl) ?_
      refine v_aload_n O dX5_setChannels_55 rfl ?_
      refine v_iconst (v := nI 0) O dX5_setChannels_56 (by decide) ?_
      refine v_put (ty := .int) O dX5_setChannels_57 flX5_49 ftX5 0 rfl rfl (by decide +kernel) rfl rfl (Nat.le_of_ble_eq_true rfl) ?_
      refine v_aload_n O dX5_setChannels_60 rfl ?_
      refine v_iconst (v := nI 0) O dX5_setChannels_61 (by decide) ?_
      refine v_put (ty := .int) O dX5_setChannels_62 flX5_52 ftX5 0 rfl rfl (by decide +kernel) rfl rfl (Nat.le_of_ble_eq_true rfl) ?_
      refine v_aload_n O dX5_setChannels_65 rfl ?_
      refine v_iconst (v := nI 0) O dX5_setChannels_66 (by decide) ?_
      refine v_put (ty := .int) O dX5_setChannels_67 flX5_55 ftX5 0 rfl rfl (by decide +kernel) rfl rfl (Nat.le_of_ble_eq_true rfl) ?_
      refine v_aload_n O dX5_setChannels_70 rfl ?_
      refine v_w (w' := (WM E ad (0) (n') (0) (0) (0) pe pw len cod (0) fs fc fw sc li lm ls lq hs)) rfl ?_
      refine v_V0 O dX5_setChannels_71 lkX5_58 (c_clearPending hst) 0 rfl rfl rfl rfl rfl (by first | exact hkc | exact Nat.zero_le _) (by first | exact hks | exact Nat.zero_le _) ?_
      refine v_iload_n O dX5_setChannels_74 rfl ?_
      exact v_ireturn O OR dX5_setChannels_75 (⟨rfl, rfl⟩) (Nat.le_of_ble_eq_true rfl) (Nat.le_of_ble_eq_true rfl)
    · omega
  refine v_aload_n O dX5_setChannels_0 rfl ?_
  refine v_iload_n O dX5_setChannels_1 rfl ?_
  refine v_iconst (v := nI 2) O dX5_setChannels_2 (by decide) ?_
  refine v_icmpN_eq (tgt := 23) O dX5_setChannels_3 (by decide) (by omega) (by omega) (fun h1 => ?_) (fun h1 => ?_)
  · exact key
  · refine v_iload_n O dX5_setChannels_6 rfl ?_
    refine v_iconst (v := nI 4) O dX5_setChannels_7 (by decide) ?_
    refine v_icmpN_eq (tgt := 23) O dX5_setChannels_8 (by decide) (by omega) (by omega) (fun h2 => ?_) (fun h2 => ?_)
    · exact key
    · refine v_iload_n O dX5_setChannels_11 rfl ?_
      refine v_bipush (v := nI 8) O dX5_setChannels_12 (by decide) ?_
      refine v_icmpN_eq (tgt := 23) O dX5_setChannels_14 (by decide) (by omega) (by omega) (fun h3 => ?_) (fun h3 => ?_)
      · exact key
      · refine v_iload_n O dX5_setChannels_17 rfl ?_
        refine v_bipush (v := nI 16) O dX5_setChannels_18 (by decide) ?_
        refine v_icmpN_ne (tgt := 27) O dX5_setChannels_20 (by decide) (by omega) (by omega) (fun h4 => ?_) (fun h4 => ?_)
        · omega
        · exact key
theorem mx_setChannels {E : ET} {ad : Nat → Nat} {th n t dr ms : Nat} {pe pw : Nat → Nat} {len : Nat} {cod : Nat → Nat} {mm : Nat} {fs fc fw : Nat → Nat} {sc : Nat → Int64} {li : Nat → Nat} {lm ls lq hs : Int64} (hst : E.1.stackTraces = false) (x : Int32) (hx : ¬ x = nI 2 ∧ ¬ x = nI 4 ∧ ¬ x = nI 8 ∧ ¬ x = nI 16) : Ctr E yX5_setChannels cdX5_setChannels (rmL 2) [.ref (ad 0), .int x] (WM E ad th n t dr ms pe pw len cod mm fs fc fw sc li lm ls lq hs) (pR (some (.int (nI 0))) (WM E ad (1) n t dr ms pe pw len cod mm fs fc fw sc li lm ls lq hs)) noX 0 0 := by
  refine ctr_of hst (by decide) (Nat.le_of_ble_eq_true rfl) (fun G O OR hN => ?_)
  have O : OKG E G cX5_setChannels RX5 (rmL 2) [] := O
  have hN : nLG G = 3 := hN
  refine v_aload_n O dX5_setChannels_0 rfl ?_
  refine v_iload_n O dX5_setChannels_1 rfl ?_
  refine v_iconst (v := nI 2) O dX5_setChannels_2 (by decide) ?_
  refine v_icmp_eq (tgt := 23) O dX5_setChannels_3 (by decide) (fun h1 => ?_) (fun h1 => ?_)
  · exact absurd h1 hx.1
  · refine v_iload_n O dX5_setChannels_6 rfl ?_
    refine v_iconst (v := nI 4) O dX5_setChannels_7 (by decide) ?_
    refine v_icmp_eq (tgt := 23) O dX5_setChannels_8 (by decide) (fun h2 => ?_) (fun h2 => ?_)
    · exact absurd h2 hx.2.1
    · refine v_iload_n O dX5_setChannels_11 rfl ?_
      refine v_bipush (v := nI 8) O dX5_setChannels_12 (by decide) ?_
      refine v_icmp_eq (tgt := 23) O dX5_setChannels_14 (by decide) (fun h3 => ?_) (fun h3 => ?_)
      · exact absurd h3 hx.2.2.1
      · refine v_iload_n O dX5_setChannels_17 rfl ?_
        refine v_bipush (v := nI 16) O dX5_setChannels_18 (by decide) ?_
        refine v_icmp_ne (tgt := 27) O dX5_setChannels_20 (by decide) (fun h4 => ?_) (fun h4 => ?_)
        · refine v_iconst (v := nI 1) O dX5_setChannels_27 (by decide) ?_
          refine v_put (ty := .int) O dX5_setChannels_28 flX5_39 ftX5 0 rfl rfl (by decide +kernel) rfl rfl (Nat.le_of_ble_eq_true rfl) ?_
          refine v_aload_n O dX5_setChannels_31 rfl ?_
          refine v_get O dX5_setChannels_32 flX5_39 0 rfl rfl ?_
          refine v_ifN_le (tgt := 40) O dX5_setChannels_35 (by decide) (by omega) (fun h => ?_) (fun h => ?_)
          · omega
          · refine v_iconst (v := nI 0) O dX5_setChannels_38 (by decide) ?_
            exact v_ireturn O OR dX5_setChannels_39 (⟨rfl, rfl⟩) (Nat.le_of_ble_eq_true rfl) (Nat.le_of_ble_eq_true rfl)
        · exact absurd h4 hx.2.2.2
theorem m_setPending {E : ET} {ad : Nat → Nat} {th n t dr ms : Nat} {pe pw : Nat → Nat} {len : Nat} {cod : Nat → Nat} {mm : Nat} {fs fc fw : Nat → Nat} {sc : Nat → Int64} {li : Nat → Nat} {lm ls lq hs : Int64} (hst : E.1.stackTraces = false) (hn : n ≤ 16) (c p : Nat) (hc : c < n) (hp : p ≤ 9999) : Ctr E yX5_setPending cdX5_setPending (rmL 3) [.ref (ad 0), .int (nI c), .int (nI p)] (WM E ad th n t dr ms pe pw len cod mm fs fc fw sc li lm ls lq hs) (pR (some (.int (nI (pe c)))) (WM E ad (0) n t dr ms (va_up pe c p) pw len cod mm fs fc fw sc li lm ls lq hs)) noX 0 0 := by
  refine ctr_of hst (by decide) (Nat.le_of_ble_eq_true rfl) (fun G O OR hN => ?_)
  have O : OKG E G cX5_setPending RX5 (rmL 3) [] := O
  have hN : nLG G = 4 := hN
  refine v_aload_n O dX5_setPending_0 rfl ?_
  refine v_aload_n O dX5_setPending_1 rfl ?_
  refine v_iload_n O dX5_setPending_2 rfl ?_
  refine v_V1 O dX5_setPending_3 lkX5_61 (c_isChannel hst hn (nI c)) 0 rfl rfl rfl rfl rfl (by first | exact hkc | exact Nat.zero_le _) (by first | exact hks | exact Nat.zero_le _) ?_
  refine v_ifB_ne (tgt := 13) O dX5_setPending_6 (by decide) (fun h => ?_) (fun h => ?_)
  · refine v_iload_n O dX5_setPending_13 rfl ?_
    refine v_iconst (v := nI 0) O dX5_setPending_14 (by decide) ?_
    refine v_sipush (v := nI 9999) O dX5_setPending_15 (by decide) ?_
    refine v_S1 O dX5_setPending_18 lkX5_42 (c_withinN hst p 0 9999 (by omega) (by decide) (by decide)) rfl rfl rfl (by first | exact hkc | exact Nat.zero_le _) (by first | exact hks | exact Nat.zero_le _) ?_
    refine v_ifB_eq (tgt := 28) O dX5_setPending_21 (by decide) (fun h2 => ?_) (fun h2 => ?_)
    · exact absurd h2 (by simp [hp])
    · refine v_iconst (v := nI 0) O dX5_setPending_24 (by decide) ?_
      refine v_goto (tgt := 29) O dX5_setPending_25 (by decide) ?_
      refine v_put (ty := .int) O dX5_setPending_29 flX5_39 ftX5 0 rfl rfl (by decide +kernel) rfl rfl (Nat.le_of_ble_eq_true rfl) ?_
      refine v_aload_n O dX5_setPending_32 rfl ?_
      refine v_get O dX5_setPending_33 flX5_39 0 rfl rfl ?_
      refine v_ifN_le (tgt := 41) O dX5_setPending_36 (by decide) (by omega) (fun h3 => ?_) (fun h3 => ?_)
      · refine v_aload_n O dX5_setPending_41 rfl ?_
        refine v_get O dX5_setPending_42 flX5_13 0 rfl rfl ?_
        refine v_iload_n O dX5_setPending_45 rfl ?_
        refine v_iald O dX5_setPending_46 1 rfl (by decide) (by omega) ?_
        refine v_istore_n O dX5_setPending_47 (by rw [hN]; decide) ?_
        refine v_aload_n O dX5_setPending_48 rfl ?_
        refine v_get O dX5_setPending_49 flX5_13 0 rfl rfl ?_
        refine v_iload_n O dX5_setPending_52 rfl ?_
        refine v_iload_n O dX5_setPending_53 rfl ?_
        refine v_iastN O dX5_setPending_54 1 rfl (by decide) (by omega) ?_
        refine v_iload_n O dX5_setPending_55 rfl ?_
        exact v_ireturn O OR dX5_setPending_56 (⟨rfl, rfl⟩) (Nat.le_of_ble_eq_true rfl) (Nat.le_of_ble_eq_true rfl)
      · omega
  · rw [inB_nI hc (by omega)] at h; cases h
theorem mx_setPending1 {E : ET} {ad : Nat → Nat} {th n t dr ms : Nat} {pe pw : Nat → Nat} {len : Nat} {cod : Nat → Nat} {mm : Nat} {fs fc fw : Nat → Nat} {sc : Nat → Int64} {li : Nat → Nat} {lm ls lq hs : Int64} (hst : E.1.stackTraces = false) (hn : n ≤ 16) (x p : Int32) (hx : inB x n = false) : Ctr E yX5_setPending cdX5_setPending (rmL 3) [.ref (ad 0), .int x, .int p] (WM E ad th n t dr ms pe pw len cod mm fs fc fw sc li lm ls lq hs) (pR (some (.int (nI 0))) (WM E ad (1) n t dr ms pe pw len cod mm fs fc fw sc li lm ls lq hs)) noX 0 0 := by
  refine ctr_of hst (by decide) (Nat.le_of_ble_eq_true rfl) (fun G O OR hN => ?_)
  have O : OKG E G cX5_setPending RX5 (rmL 3) [] := O
  have hN : nLG G = 4 := hN
  refine v_aload_n O dX5_setPending_0 rfl ?_
  refine v_aload_n O dX5_setPending_1 rfl ?_
  refine v_iload_n O dX5_setPending_2 rfl ?_
  refine v_V1 O dX5_setPending_3 lkX5_61 (c_isChannel hst hn x) 0 rfl rfl rfl rfl rfl (by first | exact hkc | exact Nat.zero_le _) (by first | exact hks | exact Nat.zero_le _) ?_
  refine v_ifB_ne (tgt := 13) O dX5_setPending_6 (by decide) (fun h => ?_) (fun h => ?_)
  · rw [hx] at h; cases h
  · refine v_iconst (v := nI 1) O dX5_setPending_9 (by decide) ?_
    refine v_goto (tgt := 29) O dX5_setPending_10 (by decide) ?_
    refine v_put (ty := .int) O dX5_setPending_29 flX5_39 ftX5 0 rfl rfl (by decide +kernel) rfl rfl (Nat.le_of_ble_eq_true rfl) ?_
    refine v_aload_n O dX5_setPending_32 rfl ?_
    refine v_get O dX5_setPending_33 flX5_39 0 rfl rfl ?_
    refine v_ifN_le (tgt := 41) O dX5_setPending_36 (by decide) (by omega) (fun h3 => ?_) (fun h3 => ?_)
    · omega
    · refine v_iconst (v := nI 0) O dX5_setPending_39 (by decide) ?_
      exact v_ireturn O OR dX5_setPending_40 (⟨rfl, rfl⟩) (Nat.le_of_ble_eq_true rfl) (Nat.le_of_ble_eq_true rfl)
theorem mx_setPending2 {E : ET} {ad : Nat → Nat} {th n t dr ms : Nat} {pe pw : Nat → Nat} {len : Nat} {cod : Nat → Nat} {mm : Nat} {fs fc fw : Nat → Nat} {sc : Nat → Int64} {li : Nat → Nat} {lm ls lq hs : Int64} (hst : E.1.stackTraces = false) (hn : n ≤ 16) (x p : Int32) (hx : inB x n = true) (hp : ¬ (nI 0 ≤ p ∧ p ≤ nI 9999)) : Ctr E yX5_setPending cdX5_setPending (rmL 3) [.ref (ad 0), .int x, .int p] (WM E ad th n t dr ms pe pw len cod mm fs fc fw sc li lm ls lq hs) (pR (some (.int (nI 0))) (WM E ad (2) n t dr ms pe pw len cod mm fs fc fw sc li lm ls lq hs)) noX 0 0 := by
  refine ctr_of hst (by decide) (Nat.le_of_ble_eq_true rfl) (fun G O OR hN => ?_)
  have O : OKG E G cX5_setPending RX5 (rmL 3) [] := O
  have hN : nLG G = 4 := hN
  refine v_aload_n O dX5_setPending_0 rfl ?_
  refine v_aload_n O dX5_setPending_1 rfl ?_
  refine v_iload_n O dX5_setPending_2 rfl ?_
  refine v_V1 O dX5_setPending_3 lkX5_61 (c_isChannel hst hn x) 0 rfl rfl rfl rfl rfl (by first | exact hkc | exact Nat.zero_le _) (by first | exact hks | exact Nat.zero_le _) ?_
  refine v_ifB_ne (tgt := 13) O dX5_setPending_6 (by decide) (fun h => ?_) (fun h => ?_)
  · refine v_iload_n O dX5_setPending_13 rfl ?_
    refine v_iconst (v := nI 0) O dX5_setPending_14 (by decide) ?_
    refine v_sipush (v := nI 9999) O dX5_setPending_15 (by decide) ?_
    refine v_S1 O dX5_setPending_18 lkX5_42 (c_within hst p (nI 0) (nI 9999)) rfl rfl rfl (by first | exact hkc | exact Nat.zero_le _) (by first | exact hks | exact Nat.zero_le _) ?_
    refine v_ifB_eq (tgt := 28) O dX5_setPending_21 (by decide) (fun h2 => ?_) (fun h2 => ?_)
    · refine v_iconst (v := nI 2) O dX5_setPending_28 (by decide) ?_
      refine v_put (ty := .int) O dX5_setPending_29 flX5_39 ftX5 0 rfl rfl (by decide +kernel) rfl rfl (Nat.le_of_ble_eq_true rfl) ?_
      refine v_aload_n O dX5_setPending_32 rfl ?_
      refine v_get O dX5_setPending_33 flX5_39 0 rfl rfl ?_
      refine v_ifN_le (tgt := 41) O dX5_setPending_36 (by decide) (by omega) (fun h3 => ?_) (fun h3 => ?_)
      · omega
      · refine v_iconst (v := nI 0) O dX5_setPending_39 (by decide) ?_
        exact v_ireturn O OR dX5_setPending_40 (⟨rfl, rfl⟩) (Nat.le_of_ble_eq_true rfl) (Nat.le_of_ble_eq_true rfl)
    · exact absurd (of_decide_eq_true h2) hp
  · rw [hx] at h; cases h
/-- g laid into f from a on, i of it -/
def lay (f g : Nat → Nat) (a i : Nat) : Nat → Nat := fun q => if a ≤ q ∧ q < a + i then g (q - a) else f q
theorem lay_0 (f g : Nat → Nat) (a : Nat) : lay f g a 0 = f := by
  funext q
  exact if_neg (by omega)
theorem lay_s (f g : Nat → Nat) (a i : Nat) : va_up (lay f g a i) (a + i) (g i) = lay f g a (i + 1) := by
  funext q
  simp only [va_up, lay]
  by_cases h : q = a + i
  · subst h
    rw [if_pos rfl, if_pos (by omega), show a + i - a = i by omega]
  · rw [if_neg h]
    by_cases h2 : a ≤ q ∧ q < a + i
    · rw [if_pos h2, if_pos (by omega)]
    · rw [if_neg h2, if_neg (by omega)]
theorem lp_advanceM {E : ET} {G : GT} (O : OKG E G cX5_advance RX5 (rmL 2) []) (hN : nLG G = 2) {ad : Nat → Nat} {th n t dr ms : Nat} {pe pw : Nat → Nat} {len : Nat} {cod : Nat → Nat} {mm : Nat} {fs fc fw : Nat → Nat} {sc : Nat → Int64} {li : Nat → Nat} {lm ls lq hs : Int64} (h1 : 1 ≤ t) (ht : t ≤ 48) (kk : V E G 0 0 45 [(0, .ref (ad 0)), (1, .int (nI 16))] [] (WM E ad th n t dr ms pe (lay pw pe ((t - 1) * 16) 16) len cod mm fs fc fw sc li lm ls lq hs)) : ∀ j q : Nat, q ≤ 16 → j = 16 - q → V E G 0 0 11 [(0, .ref (ad 0)), (1, .int (nI q))] [] (WM E ad th n t dr ms pe (lay pw pe ((t - 1) * 16) q) len cod mm fs fc fw sc li lm ls lq hs) := by
  intro j
  induction j using Nat.strongRecOn with
  | _ j ih =>
    intro q hq hj
    refine v_iload_n O dX5_advance_11 rfl ?_
    refine v_bipush (v := nI 16) O dX5_advance_12 (by decide) ?_
    refine v_icmpN_ge (tgt := 45) O dX5_advance_14 (by decide) (by omega) (by omega) (fun h => ?_) (fun h => ?_)
    · have e : q = 16 := by omega
      subst e
      exact kk
    · refine v_aload_n O dX5_advance_17 rfl ?_
      refine v_get O dX5_advance_18 flX5_17 0 rfl rfl ?_
      refine v_bipush (v := nI 16) O dX5_advance_21 (by decide) ?_
      refine v_aload_n O dX5_advance_23 rfl ?_
      refine v_get O dX5_advance_24 flX5_46 0 rfl rfl ?_
      refine v_iconst (v := nI 1) O dX5_advance_27 (by decide) ?_
      refine v_isubN O dX5_advance_28 (by omega) ?_
      refine v_imulN O dX5_advance_29 ?_
      refine v_iload_n O dX5_advance_30 rfl ?_
      refine v_iaddN O dX5_advance_31 ?_
      refine v_aload_n O dX5_advance_32 rfl ?_
      refine v_get O dX5_advance_33 flX5_13 0 rfl rfl ?_
      refine v_iload_n O dX5_advance_36 rfl ?_
      refine v_iald O dX5_advance_37 1 rfl (by decide) (by omega) ?_
      refine v_iastN O dX5_advance_38 2 rfl (by decide) (by omega) ?_
      refine v_iincN (b := 1) O dX5_advance_39 rfl (by decide) (by rw [hN]; decide) ?_
      refine v_goto (tgt := 11) O dX5_advance_42 (by decide) ?_
      refine v_ord [0, 1] ?_
      refine v_w (w' := (WM E ad th n t dr ms pe (lay pw pe ((t - 1) * 16) (q + 1)) len cod mm fs fc fw sc li lm ls lq hs)) (by rw [← lay_s, Nat.mul_comm (t - 1) 16]; rfl) ?_
      exact ih (j - 1) (by omega) (q + 1) (by omega) (by omega)
theorem bgT_le {t : Nat} (ht : t ≤ 48) : 1 ≤ bgT t ∧ bgT t ≤ 48 := by unfold bgT; split <;> omega
theorem m_advance {E : ET} {ad : Nat → Nat} {th n t dr ms : Nat} {pe pw : Nat → Nat} {len : Nat} {cod : Nat → Nat} {mm : Nat} {fs fc fw : Nat → Nat} {sc : Nat → Int64} {li : Nat → Nat} {lm ls lq hs : Int64} (hst : E.1.stackTraces = false) (ht : t ≤ 48) : Ctr E yX5_advance cdX5_advance (rmL 2) [.ref (ad 0)] (WM E ad th n t dr ms pe pw len cod mm fs fc fw sc li lm ls lq hs) (pR (some (.int (nI (bgT t)))) (WM E ad (0) n (bgT t) (bgD t dr) ms (fil pe 0 16) (lay (bgP t pw) pe ((bgT t - 1) * 16) 16) len cod (0) fs fc fw sc li lm ls lq hs)) noX 0 0 := by
  obtain ⟨b1, b2⟩ := bgT_le ht
  refine ctr_of hst (by decide) (Nat.le_of_ble_eq_true rfl) (fun G O OR hN => ?_)
  have O : OKG E G cX5_advance RX5 (rmL 2) [] := O
  have hN : nLG G = 2 := hN
  refine v_aload_n O dX5_advance_0 rfl ?_
  refine v_iconst (v := nI 0) O dX5_advance_1 (by decide) ?_
  refine v_put (ty := .int) O dX5_advance_2 flX5_39 ftX5 0 rfl rfl (by decide +kernel) rfl rfl (Nat.le_of_ble_eq_true rfl) ?_
  refine v_aload_n O dX5_advance_5 rfl ?_
  refine v_w (w' := (WM E ad (0) n t dr ms pe pw len cod mm fs fc fw sc li lm ls lq hs)) rfl ?_
  refine v_V0 O dX5_advance_6 lkX5_65 (c_begin hst ht) 0 rfl rfl rfl rfl rfl (by first | exact hkc | exact Nat.zero_le _) (by first | exact hks | exact Nat.zero_le _) ?_
  refine v_iconst (v := nI 0) O dX5_advance_9 (by decide) ?_
  refine v_istore_n O dX5_advance_10 (by rw [hN]; decide) ?_
  refine v_ord [0, 1] ?_
  refine v_w (w' := (WM E ad (0) n (bgT t) (bgD t dr) ms pe (lay (bgP t pw) pe ((bgT t - 1) * 16) 0) len cod (0) fs fc fw sc li lm ls lq hs)) (by rw [lay_0]) ?_
  refine lp_advanceM O hN b1 b2 ?_ 16 0 (by omega) (by omega)
  refine v_aload_n O dX5_advance_45 rfl ?_
  refine v_V0 O dX5_advance_46 lkX5_58 (c_clearPending hst) 0 rfl rfl rfl rfl rfl (by first | exact hkc | exact Nat.zero_le _) (by first | exact hks | exact Nat.zero_le _) ?_
  refine v_aload_n O dX5_advance_49 rfl ?_
  refine v_get O dX5_advance_50 flX5_46 0 rfl rfl ?_
  exact v_ireturn O OR dX5_advance_53 (⟨rfl, rfl⟩) (Nat.le_of_ble_eq_true rfl) (Nat.le_of_ble_eq_true rfl)
theorem m_append {E : ET} {ad : Nat → Nat} {th n t dr ms : Nat} {pe pw : Nat → Nat} {len : Nat} {cod : Nat → Nat} {mm : Nat} {fs fc fw : Nat → Nat} {sc : Nat → Int64} {li : Nat → Nat} {lm ls lq hs : Int64} (hst : E.1.stackTraces = false) (c : Nat) (hc : 32 ≤ c ∧ c ≤ 126) (hl : len < 64) : Ctr E yX5_append cdX5_append (rmL 2) [.ref (ad 0), .int (nI c)] (WM E ad th n t dr ms pe pw len cod mm fs fc fw sc li lm ls lq hs) (pR (some (.int (nI (len + 1)))) (WM E ad (0) n t dr ms pe pw (len + 1) (va_up cod len c) mm fs fc fw sc li lm ls lq hs)) noX 0 0 := by
  refine ctr_of hst (by decide) (Nat.le_of_ble_eq_true rfl) (fun G O OR hN => ?_)
  have O : OKG E G cX5_append RX5 (rmL 2) [] := O
  have hN : nLG G = 2 := hN
  refine v_aload_n O dX5_append_0 rfl ?_
  refine v_iload_n O dX5_append_1 rfl ?_
  refine v_bipush (v := nI 32) O dX5_append_2 (by decide) ?_
  refine v_bipush (v := nI 126) O dX5_append_4 (by decide) ?_
  refine v_S1 O dX5_append_6 lkX5_42 (c_withinN hst c 32 126 (by omega) (by decide) (by decide)) rfl rfl rfl (by first | exact hkc | exact Nat.zero_le _) (by first | exact hks | exact Nat.zero_le _) ?_
  refine v_ifB_ne (tgt := 16) O dX5_append_9 (by decide) (fun h => ?_) (fun h => ?_)
  · refine v_aload_n O dX5_append_16 rfl ?_
    refine v_get O dX5_append_17 flX5_68 0 rfl rfl ?_
    refine v_bipush (v := nI 64) O dX5_append_20 (by decide) ?_
    refine v_icmpN_ne (tgt := 29) O dX5_append_22 (by decide) (by omega) (by omega) (fun h2 => ?_) (fun h2 => ?_)
    · refine v_iconst (v := nI 0) O dX5_append_29 (by decide) ?_
      refine v_put (ty := .int) O dX5_append_30 flX5_39 ftX5 0 rfl rfl (by decide +kernel) rfl rfl (Nat.le_of_ble_eq_true rfl) ?_
      refine v_aload_n O dX5_append_33 rfl ?_
      refine v_get O dX5_append_34 flX5_39 0 rfl rfl ?_
      refine v_ifN_le (tgt := 42) O dX5_append_37 (by decide) (by omega) (fun h3 => ?_) (fun h3 => ?_)
      · refine v_aload_n O dX5_append_42 rfl ?_
        refine v_get O dX5_append_43 flX5_20 0 rfl rfl ?_
        refine v_aload_n O dX5_append_46 rfl ?_
        refine v_get O dX5_append_47 flX5_68 0 rfl rfl ?_
        refine v_iload_n O dX5_append_50 rfl ?_
        refine v_iastN O dX5_append_51 3 rfl (by decide) (by omega) ?_
        refine v_aload_n O dX5_append_52 rfl ?_
        refine v_dup O dX5_append_53 rfl ?_
        refine v_get O dX5_append_54 flX5_68 0 rfl rfl ?_
        refine v_iconst (v := nI 1) O dX5_append_57 (by decide) ?_
        refine v_iaddN O dX5_append_58 ?_
        refine v_put (ty := .int) O dX5_append_59 flX5_68 ftX5 0 rfl rfl (by decide +kernel) rfl rfl (Nat.le_of_ble_eq_true rfl) ?_
        refine v_aload_n O dX5_append_62 rfl ?_
        refine v_get O dX5_append_63 flX5_68 0 rfl rfl ?_
        exact v_ireturn O OR dX5_append_66 (⟨rfl, rfl⟩) (Nat.le_of_ble_eq_true rfl) (Nat.le_of_ble_eq_true rfl)
      · omega
    · omega
  · exact absurd h (by simp [hc])
theorem mx_append1 {E : ET} {ad : Nat → Nat} {th n t dr ms : Nat} {pe pw : Nat → Nat} {len : Nat} {cod : Nat → Nat} {mm : Nat} {fs fc fw : Nat → Nat} {sc : Nat → Int64} {li : Nat → Nat} {lm ls lq hs : Int64} (hst : E.1.stackTraces = false) (x : Int32) (hx : ¬ (nI 32 ≤ x ∧ x ≤ nI 126)) : Ctr E yX5_append cdX5_append (rmL 2) [.ref (ad 0), .int x] (WM E ad th n t dr ms pe pw len cod mm fs fc fw sc li lm ls lq hs) (pR (some (.int (nI 0))) (WM E ad (1) n t dr ms pe pw len cod mm fs fc fw sc li lm ls lq hs)) noX 0 0 := by
  refine ctr_of hst (by decide) (Nat.le_of_ble_eq_true rfl) (fun G O OR hN => ?_)
  have O : OKG E G cX5_append RX5 (rmL 2) [] := O
  have hN : nLG G = 2 := hN
  refine v_aload_n O dX5_append_0 rfl ?_
  refine v_iload_n O dX5_append_1 rfl ?_
  refine v_bipush (v := nI 32) O dX5_append_2 (by decide) ?_
  refine v_bipush (v := nI 126) O dX5_append_4 (by decide) ?_
  refine v_S1 O dX5_append_6 lkX5_42 (c_within hst x (nI 32) (nI 126)) rfl rfl rfl (by first | exact hkc | exact Nat.zero_le _) (by first | exact hks | exact Nat.zero_le _) ?_
  refine v_ifB_ne (tgt := 16) O dX5_append_9 (by decide) (fun h => ?_) (fun h => ?_)
  · exact absurd (of_decide_eq_true h) hx
  · refine v_iconst (v := nI 1) O dX5_append_12 (by decide) ?_
    refine v_goto (tgt := 30) O dX5_append_13 (by decide) ?_
    refine v_put (ty := .int) O dX5_append_30 flX5_39 ftX5 0 rfl rfl (by decide +kernel) rfl rfl (Nat.le_of_ble_eq_true rfl) ?_
    refine v_aload_n O dX5_append_33 rfl ?_
    refine v_get O dX5_append_34 flX5_39 0 rfl rfl ?_
    refine v_ifN_le (tgt := 42) O dX5_append_37 (by decide) (by omega) (fun h3 => ?_) (fun h3 => ?_)
    · omega
    · refine v_iconst (v := nI 0) O dX5_append_40 (by decide) ?_
      exact v_ireturn O OR dX5_append_41 (⟨rfl, rfl⟩) (Nat.le_of_ble_eq_true rfl) (Nat.le_of_ble_eq_true rfl)
theorem mx_append2 {E : ET} {ad : Nat → Nat} {th n t dr ms : Nat} {pe pw : Nat → Nat} {len : Nat} {cod : Nat → Nat} {mm : Nat} {fs fc fw : Nat → Nat} {sc : Nat → Int64} {li : Nat → Nat} {lm ls lq hs : Int64} (hst : E.1.stackTraces = false) (x : Int32) (hx : nI 32 ≤ x ∧ x ≤ nI 126) (hl : len = 64) : Ctr E yX5_append cdX5_append (rmL 2) [.ref (ad 0), .int x] (WM E ad th n t dr ms pe pw len cod mm fs fc fw sc li lm ls lq hs) (pR (some (.int (nI 0))) (WM E ad (2) n t dr ms pe pw len cod mm fs fc fw sc li lm ls lq hs)) noX 0 0 := by
  refine ctr_of hst (by decide) (Nat.le_of_ble_eq_true rfl) (fun G O OR hN => ?_)
  have O : OKG E G cX5_append RX5 (rmL 2) [] := O
  have hN : nLG G = 2 := hN
  refine v_aload_n O dX5_append_0 rfl ?_
  refine v_iload_n O dX5_append_1 rfl ?_
  refine v_bipush (v := nI 32) O dX5_append_2 (by decide) ?_
  refine v_bipush (v := nI 126) O dX5_append_4 (by decide) ?_
  refine v_S1 O dX5_append_6 lkX5_42 (c_within hst x (nI 32) (nI 126)) rfl rfl rfl (by first | exact hkc | exact Nat.zero_le _) (by first | exact hks | exact Nat.zero_le _) ?_
  refine v_ifB_ne (tgt := 16) O dX5_append_9 (by decide) (fun h => ?_) (fun h => ?_)
  · refine v_aload_n O dX5_append_16 rfl ?_
    refine v_get O dX5_append_17 flX5_68 0 rfl rfl ?_
    refine v_bipush (v := nI 64) O dX5_append_20 (by decide) ?_
    refine v_icmpN_ne (tgt := 29) O dX5_append_22 (by decide) (by omega) (by omega) (fun h2 => ?_) (fun h2 => ?_)
    · omega
    · refine v_iconst (v := nI 2) O dX5_append_25 (by decide) ?_
      refine v_goto (tgt := 30) O dX5_append_26 (by decide) ?_
      refine v_put (ty := .int) O dX5_append_30 flX5_39 ftX5 0 rfl rfl (by decide +kernel) rfl rfl (Nat.le_of_ble_eq_true rfl) ?_
      refine v_aload_n O dX5_append_33 rfl ?_
      refine v_get O dX5_append_34 flX5_39 0 rfl rfl ?_
      refine v_ifN_le (tgt := 42) O dX5_append_37 (by decide) (by omega) (fun h3 => ?_) (fun h3 => ?_)
      · omega
      · refine v_iconst (v := nI 0) O dX5_append_40 (by decide) ?_
        exact v_ireturn O OR dX5_append_41 (⟨rfl, rfl⟩) (Nat.le_of_ble_eq_true rfl) (Nat.le_of_ble_eq_true rfl)
  · exact absurd hx (of_decide_eq_false h)
theorem m_clearInput {E : ET} {ad : Nat → Nat} {th n t dr ms : Nat} {pe pw : Nat → Nat} {len : Nat} {cod : Nat → Nat} {mm : Nat} {fs fc fw : Nat → Nat} {sc : Nat → Int64} {li : Nat → Nat} {lm ls lq hs : Int64} (hst : E.1.stackTraces = false) : Ctr E yX5_clearInput cdX5_clearInput (rmL 1) [.ref (ad 0)] (WM E ad th n t dr ms pe pw len cod mm fs fc fw sc li lm ls lq hs) (pR (some (.int (nI len))) (WM E ad (0) n t dr ms pe pw (0) cod mm fs fc fw sc li lm ls lq hs)) noX 0 0 := by
  refine ctr_of hst (by decide) (Nat.le_of_ble_eq_true rfl) (fun G O OR hN => ?_)
  have O : OKG E G cX5_clearInput RX5 (rmL 1) [] := O
  have hN : nLG G = 2 := hN
  refine v_aload_n O dX5_clearInput_0 rfl ?_
  refine v_iconst (v := nI 0) O dX5_clearInput_1 (by decide) ?_
  refine v_put (ty := .int) O dX5_clearInput_2 flX5_39 ftX5 0 rfl rfl (by decide +kernel) rfl rfl (Nat.le_of_ble_eq_true rfl) ?_
  refine v_aload_n O dX5_clearInput_5 rfl ?_
  refine v_get O dX5_clearInput_6 flX5_68 0 rfl rfl ?_
  refine v_istore_n O dX5_clearInput_9 (by rw [hN]; decide) ?_
  refine v_aload_n O dX5_clearInput_10 rfl ?_
  refine v_iconst (v := nI 0) O dX5_clearInput_11 (by decide) ?_
  refine v_put (ty := .int) O dX5_clearInput_12 flX5_68 ftX5 0 rfl rfl (by decide +kernel) rfl rfl (Nat.le_of_ble_eq_true rfl) ?_
  refine v_iload_n O dX5_clearInput_15 rfl ?_
  exact v_ireturn O OR dX5_clearInput_16 (⟨rfl, rfl⟩) (Nat.le_of_ble_eq_true rfl) (Nat.le_of_ble_eq_true rfl)
theorem m_firstError {E : ET} {ad : Nat → Nat} {th n t dr ms : Nat} {pe pw : Nat → Nat} {len : Nat} {cod : Nat → Nat} {mm : Nat} {fs fc fw : Nat → Nat} {sc : Nat → Int64} {li : Nat → Nat} {lm ls lq hs : Int64} (hst : E.1.stackTraces = false) (hl : len ≤ 64) (hcod : ∀ j, j < len → cod j < 128) : Ctr E yX5_firstError cdX5_firstError (rmL 4) [.ref (ad 0)] (WM E ad th n t dr ms pe pw len cod mm fs fc fw sc li lm ls lq hs) (pR (some (.int (nI (errAt cod len)))) (WM E ad (0) n t dr ms pe pw len cod mm fs fc fw sc li lm ls lq hs)) noX 0 0 := by
  refine ctr_of hst (by decide) (Nat.le_of_ble_eq_true rfl) (fun G O OR hN => ?_)
  have O : OKG E G cX5_firstError RX5 (rmL 4) [] := O
  have hN : nLG G = 1 := hN
  refine v_aload_n O dX5_firstError_0 rfl ?_
  refine v_iconst (v := nI 0) O dX5_firstError_1 (by decide) ?_
  refine v_put (ty := .int) O dX5_firstError_2 flX5_39 ftX5 0 rfl rfl (by decide +kernel) rfl rfl (Nat.le_of_ble_eq_true rfl) ?_
  refine v_aload_n O dX5_firstError_5 rfl ?_
  refine v_w (w' := (WM E ad (0) n t dr ms pe pw len cod mm fs fc fw sc li lm ls lq hs)) rfl ?_
  refine v_V1 O dX5_firstError_6 lkX5_75 (c_rightLength hst hl hcod) 0 rfl rfl rfl rfl rfl (by first | exact hkc | exact Nat.zero_le _) (by first | exact hks | exact Nat.zero_le _) ?_
  exact v_ireturn O OR dX5_firstError_9 (⟨rfl, rfl⟩) (Nat.le_of_ble_eq_true rfl) (Nat.le_of_ble_eq_true rfl)
theorem m_offset {E : ET} {ad : Nat → Nat} {th n t dr ms : Nat} {pe pw : Nat → Nat} {len : Nat} {cod : Nat → Nat} {mm : Nat} {fs fc fw : Nat → Nat} {sc : Nat → Int64} {li : Nat → Nat} {lm ls lq hs : Int64} {K : Nat} (hst : E.1.stackTraces = false) (hK : 1 ≤ K) (hK4 : K ≤ 4) (hn : n = 2 ^ K) (d c : Nat) (s : Bool) (hd : d < n) (hc : c < n) : Ctr E yX5_offset cdX5_offset (rmL 3) [.ref (ad 0), .int (nI d), .int (nI c), .int (bI s)] (WM E ad th n t dr ms pe pw len cod mm fs fc fw sc li lm ls lq hs) (pR (some (.int (nI (oby K n s d c)))) (WM E ad (0) n t dr ms pe pw len cod mm fs fc fw sc li lm ls lq hs)) noX 0 0 := by
  obtain ⟨g1, g2⟩ := two_le hn hK hK4
  refine ctr_of hst (by decide) (Nat.le_of_ble_eq_true rfl) (fun G O OR hN => ?_)
  have O : OKG E G cX5_offset RX5 (rmL 3) [] := O
  have hN : nLG G = 4 := hN
  refine v_aload_n O dX5_offset_0 rfl ?_
  refine v_aload_n O dX5_offset_1 rfl ?_
  refine v_iload_n O dX5_offset_2 rfl ?_
  refine v_V1 O dX5_offset_3 lkX5_86 (c_isSlope hst g2 (nI d)) 0 rfl rfl rfl rfl rfl (by first | exact hkc | exact Nat.zero_le _) (by first | exact hks | exact Nat.zero_le _) ?_
  refine v_ifB_eq (tgt := 21) O dX5_offset_6 (by decide) (fun h => ?_) (fun h => ?_)
  · rw [inB_nI hd (by omega)] at h; cases h
  · refine v_aload_n O dX5_offset_9 rfl ?_
    refine v_iload_n O dX5_offset_10 rfl ?_
    refine v_V1 O dX5_offset_11 lkX5_61 (c_isChannel hst g2 (nI c)) 0 rfl rfl rfl rfl rfl (by first | exact hkc | exact Nat.zero_le _) (by first | exact hks | exact Nat.zero_le _) ?_
    refine v_ifB_eq (tgt := 21) O dX5_offset_14 (by decide) (fun h2 => ?_) (fun h2 => ?_)
    · rw [inB_nI hc (by omega)] at h2; cases h2
    · refine v_iconst (v := nI 0) O dX5_offset_17 (by decide) ?_
      refine v_goto (tgt := 22) O dX5_offset_18 (by decide) ?_
      refine v_put (ty := .int) O dX5_offset_22 flX5_39 ftX5 0 rfl rfl (by decide +kernel) rfl rfl (Nat.le_of_ble_eq_true rfl) ?_
      refine v_aload_n O dX5_offset_25 rfl ?_
      refine v_get O dX5_offset_26 flX5_39 0 rfl rfl ?_
      refine v_ifN_le (tgt := 36) O dX5_offset_29 (by decide) (by omega) (fun h3 => ?_) (fun h3 => ?_)
      · refine v_aload_n O dX5_offset_36 rfl ?_
        refine v_iload_n O dX5_offset_37 rfl ?_
        refine v_iload_n O dX5_offset_38 rfl ?_
        refine v_iload_n O dX5_offset_39 rfl ?_
        refine v_w (w' := (WM E ad (0) n t dr ms pe pw len cod mm fs fc fw sc li lm ls lq hs)) rfl ?_
        refine v_V1 O dX5_offset_40 lkX5_89 (c_offsetBy hst hK hK4 hn d c s (by omega) (by omega)) 0 rfl rfl rfl rfl rfl (by first | exact hkc | exact Nat.zero_le _) (by first | exact hks | exact Nat.zero_le _) ?_
        exact v_ireturn O OR dX5_offset_43 (⟨rfl, rfl⟩) (Nat.le_of_ble_eq_true rfl) (Nat.le_of_ble_eq_true rfl)
      · omega
theorem mx_offset {E : ET} {ad : Nat → Nat} {th n t dr ms : Nat} {pe pw : Nat → Nat} {len : Nat} {cod : Nat → Nat} {mm : Nat} {fs fc fw : Nat → Nat} {sc : Nat → Int64} {li : Nat → Nat} {lm ls lq hs : Int64} (hst : E.1.stackTraces = false) (hn : n ≤ 16) (x y : Int32) (s : Bool) (hx : (inB x n && inB y n) = false) : Ctr E yX5_offset cdX5_offset (rmL 3) [.ref (ad 0), .int x, .int y, .int (bI s)] (WM E ad th n t dr ms pe pw len cod mm fs fc fw sc li lm ls lq hs) (pR (some (.int (nI 0))) (WM E ad (1) n t dr ms pe pw len cod mm fs fc fw sc li lm ls lq hs)) noX 0 0 := by
  refine ctr_of hst (by decide) (Nat.le_of_ble_eq_true rfl) (fun G O OR hN => ?_)
  have O : OKG E G cX5_offset RX5 (rmL 3) [] := O
  have hN : nLG G = 4 := hN
  have key : V E G 0 0 21 [(0, .ref (ad 0)), (1, .int x), (2, .int y), (3, .int (bI s))] [.ref (ad 0)] (WM E ad th n t dr ms pe pw len cod mm fs fc fw sc li lm ls lq hs) := by
    refine v_iconst (v := nI 1) O dX5_offset_21 (by decide) ?_
    refine v_put (ty := .int) O dX5_offset_22 flX5_39 ftX5 0 rfl rfl (by decide +kernel) rfl rfl (Nat.le_of_ble_eq_true rfl) ?_
    refine v_aload_n O dX5_offset_25 rfl ?_
    refine v_get O dX5_offset_26 flX5_39 0 rfl rfl ?_
    refine v_ifN_le (tgt := 36) O dX5_offset_29 (by decide) (by omega) (fun h3 => ?_) (fun h3 => ?_)
    · omega
    · refine v_iconst (v := nI 0) O dX5_offset_32 (by decide) ?_
      refine v_goto (tgt := 43) O dX5_offset_33 (by decide) ?_
      exact v_ireturn O OR dX5_offset_43 (⟨rfl, rfl⟩) (Nat.le_of_ble_eq_true rfl) (Nat.le_of_ble_eq_true rfl)
  refine v_aload_n O dX5_offset_0 rfl ?_
  refine v_aload_n O dX5_offset_1 rfl ?_
  refine v_iload_n O dX5_offset_2 rfl ?_
  refine v_V1 O dX5_offset_3 lkX5_86 (c_isSlope hst hn x) 0 rfl rfl rfl rfl rfl (by first | exact hkc | exact Nat.zero_le _) (by first | exact hks | exact Nat.zero_le _) ?_
  refine v_ifB_eq (tgt := 21) O dX5_offset_6 (by decide) (fun h => ?_) (fun h => ?_)
  · exact key
  · refine v_aload_n O dX5_offset_9 rfl ?_
    refine v_iload_n O dX5_offset_10 rfl ?_
    refine v_V1 O dX5_offset_11 lkX5_61 (c_isChannel hst hn y) 0 rfl rfl rfl rfl rfl (by first | exact hkc | exact Nat.zero_le _) (by first | exact hks | exact Nat.zero_le _) ?_
    refine v_ifB_eq (tgt := 21) O dX5_offset_14 (by decide) (fun h2 => ?_) (fun h2 => ?_)
    · exact key
    · rw [h, h2] at hx; cases hx
theorem m_bend {E : ET} {ad : Nat → Nat} {th n t dr ms : Nat} {pe pw : Nat → Nat} {len : Nat} {cod : Nat → Nat} {mm : Nat} {fs fc fw : Nat → Nat} {sc : Nat → Int64} {li : Nat → Nat} {lm ls lq hs : Int64} {K : Nat} (hst : E.1.stackTraces = false) (hK : 1 ≤ K) (hK4 : K ≤ 4) (hn : n = 2 ^ K) (d : Nat) (hd : d < n) : Ctr E yX5_bend cdX5_bend (rmL 3) [.ref (ad 0), .int (nI d)] (WM E ad th n t dr ms pe pw len cod mm fs fc fw sc li lm ls lq hs) (pR (some (.int (nI (bnd K n d n)))) (WM E ad (0) n t dr ms pe pw len cod mm fs fc fw sc li lm ls lq hs)) noX 0 0 := by
  obtain ⟨g1, g2⟩ := two_le hn hK hK4
  refine ctr_of hst (by decide) (Nat.le_of_ble_eq_true rfl) (fun G O OR hN => ?_)
  have O : OKG E G cX5_bend RX5 (rmL 3) [] := O
  have hN : nLG G = 2 := hN
  refine v_aload_n O dX5_bend_0 rfl ?_
  refine v_aload_n O dX5_bend_1 rfl ?_
  refine v_iload_n O dX5_bend_2 rfl ?_
  refine v_V1 O dX5_bend_3 lkX5_86 (c_isSlope hst g2 (nI d)) 0 rfl rfl rfl rfl rfl (by first | exact hkc | exact Nat.zero_le _) (by first | exact hks | exact Nat.zero_le _) ?_
  refine v_ifB_eq (tgt := 13) O dX5_bend_6 (by decide) (fun h => ?_) (fun h => ?_)
  · rw [inB_nI hd (by omega)] at h; cases h
  · refine v_iconst (v := nI 0) O dX5_bend_9 (by decide) ?_
    refine v_goto (tgt := 14) O dX5_bend_10 (by decide) ?_
    refine v_put (ty := .int) O dX5_bend_14 flX5_39 ftX5 0 rfl rfl (by decide +kernel) rfl rfl (Nat.le_of_ble_eq_true rfl) ?_
    refine v_aload_n O dX5_bend_17 rfl ?_
    refine v_get O dX5_bend_18 flX5_39 0 rfl rfl ?_
    refine v_ifN_le (tgt := 28) O dX5_bend_21 (by decide) (by omega) (fun h3 => ?_) (fun h3 => ?_)
    · refine v_aload_n O dX5_bend_28 rfl ?_
      refine v_iload_n O dX5_bend_29 rfl ?_
      refine v_w (w' := (WM E ad (0) n t dr ms pe pw len cod mm fs fc fw sc li lm ls lq hs)) rfl ?_
      refine v_V1 O dX5_bend_30 lkX5_93 (c_bendOf hst hK hK4 hn (by omega)) 0 rfl rfl rfl rfl rfl (by first | exact hkc | exact Nat.zero_le _) (by first | exact hks | exact Nat.zero_le _) ?_
      exact v_ireturn O OR dX5_bend_33 (⟨rfl, rfl⟩) (Nat.le_of_ble_eq_true rfl) (Nat.le_of_ble_eq_true rfl)
    · omega
theorem mx_bend {E : ET} {ad : Nat → Nat} {th n t dr ms : Nat} {pe pw : Nat → Nat} {len : Nat} {cod : Nat → Nat} {mm : Nat} {fs fc fw : Nat → Nat} {sc : Nat → Int64} {li : Nat → Nat} {lm ls lq hs : Int64} (hst : E.1.stackTraces = false) (hn : n ≤ 16) (x : Int32) (hx : inB x n = false) : Ctr E yX5_bend cdX5_bend (rmL 3) [.ref (ad 0), .int x] (WM E ad th n t dr ms pe pw len cod mm fs fc fw sc li lm ls lq hs) (pR (some (.int (nI 0))) (WM E ad (1) n t dr ms pe pw len cod mm fs fc fw sc li lm ls lq hs)) noX 0 0 := by
  refine ctr_of hst (by decide) (Nat.le_of_ble_eq_true rfl) (fun G O OR hN => ?_)
  have O : OKG E G cX5_bend RX5 (rmL 3) [] := O
  have hN : nLG G = 2 := hN
  refine v_aload_n O dX5_bend_0 rfl ?_
  refine v_aload_n O dX5_bend_1 rfl ?_
  refine v_iload_n O dX5_bend_2 rfl ?_
  refine v_V1 O dX5_bend_3 lkX5_86 (c_isSlope hst hn x) 0 rfl rfl rfl rfl rfl (by first | exact hkc | exact Nat.zero_le _) (by first | exact hks | exact Nat.zero_le _) ?_
  refine v_ifB_eq (tgt := 13) O dX5_bend_6 (by decide) (fun h => ?_) (fun h => ?_)
  · refine v_iconst (v := nI 1) O dX5_bend_13 (by decide) ?_
    refine v_put (ty := .int) O dX5_bend_14 flX5_39 ftX5 0 rfl rfl (by decide +kernel) rfl rfl (Nat.le_of_ble_eq_true rfl) ?_
    refine v_aload_n O dX5_bend_17 rfl ?_
    refine v_get O dX5_bend_18 flX5_39 0 rfl rfl ?_
    refine v_ifN_le (tgt := 28) O dX5_bend_21 (by decide) (by omega) (fun h3 => ?_) (fun h3 => ?_)
    · omega
    · refine v_iconst (v := nI 0) O dX5_bend_24 (by decide) ?_
      refine v_goto (tgt := 33) O dX5_bend_25 (by decide) ?_
      exact v_ireturn O OR dX5_bend_33 (⟨rfl, rfl⟩) (Nat.le_of_ble_eq_true rfl) (Nat.le_of_ble_eq_true rfl)
  · rw [hx] at h; cases h
theorem m_power {E : ET} {ad : Nat → Nat} {th n t dr ms : Nat} {pe pw : Nat → Nat} {len : Nat} {cod : Nat → Nat} {mm : Nat} {fs fc fw : Nat → Nat} {sc : Nat → Int64} {li : Nat → Nat} {lm ls lq hs : Int64} (hst : E.1.stackTraces = false) (hn : n ≤ 16) (ht : t ≤ 48) (c q : Nat) (hc : c < n) (hq : q < t) : Ctr E yX5_power cdX5_power (rmL 3) [.ref (ad 0), .int (nI c), .int (nI q)] (WM E ad th n t dr ms pe pw len cod mm fs fc fw sc li lm ls lq hs) (pR (some (.int (nI (pw (q * 16 + c))))) (WM E ad (0) n t dr ms pe pw len cod mm fs fc fw sc li lm ls lq hs)) noX 0 0 := by
  refine ctr_of hst (by decide) (Nat.le_of_ble_eq_true rfl) (fun G O OR hN => ?_)
  have O : OKG E G cX5_power RX5 (rmL 3) [] := O
  have hN : nLG G = 3 := hN
  refine v_aload_n O dX5_power_0 rfl ?_
  refine v_aload_n O dX5_power_1 rfl ?_
  refine v_iload_n O dX5_power_2 rfl ?_
  refine v_V1 O dX5_power_3 lkX5_61 (c_isChannel hst hn (nI c)) 0 rfl rfl rfl rfl rfl (by first | exact hkc | exact Nat.zero_le _) (by first | exact hks | exact Nat.zero_le _) ?_
  refine v_ifB_eq (tgt := 21) O dX5_power_6 (by decide) (fun h => ?_) (fun h => ?_)
  · rw [inB_nI hc (by omega)] at h; cases h
  · refine v_aload_n O dX5_power_9 rfl ?_
    refine v_iload_n O dX5_power_10 rfl ?_
    refine v_V1 O dX5_power_11 lkX5_96 (c_isColumn hst ht (nI q)) 0 rfl rfl rfl rfl rfl (by first | exact hkc | exact Nat.zero_le _) (by first | exact hks | exact Nat.zero_le _) ?_
    refine v_ifB_eq (tgt := 21) O dX5_power_14 (by decide) (fun h2 => ?_) (fun h2 => ?_)
    · rw [inB_nI hq (by omega)] at h2; cases h2
    · refine v_iconst (v := nI 0) O dX5_power_17 (by decide) ?_
      refine v_goto (tgt := 22) O dX5_power_18 (by decide) ?_
      refine v_put (ty := .int) O dX5_power_22 flX5_39 ftX5 0 rfl rfl (by decide +kernel) rfl rfl (Nat.le_of_ble_eq_true rfl) ?_
      refine v_aload_n O dX5_power_25 rfl ?_
      refine v_get O dX5_power_26 flX5_39 0 rfl rfl ?_
      refine v_ifN_le (tgt := 36) O dX5_power_29 (by decide) (by omega) (fun h3 => ?_) (fun h3 => ?_)
      · refine v_aload_n O dX5_power_36 rfl ?_
        refine v_get O dX5_power_37 flX5_17 0 rfl rfl ?_
        refine v_bipush (v := nI 16) O dX5_power_40 (by decide) ?_
        refine v_iload_n O dX5_power_42 rfl ?_
        refine v_imulN O dX5_power_43 ?_
        refine v_iload_n O dX5_power_44 rfl ?_
        refine v_iaddN O dX5_power_45 ?_
        refine v_iald O dX5_power_46 2 rfl (by decide) (by omega) ?_
        exact v_ireturn O OR dX5_power_47 (⟨by rw [Nat.mul_comm 16 q], rfl⟩) (Nat.le_of_ble_eq_true rfl) (Nat.le_of_ble_eq_true rfl)
      · omega
theorem mx_power {E : ET} {ad : Nat → Nat} {th n t dr ms : Nat} {pe pw : Nat → Nat} {len : Nat} {cod : Nat → Nat} {mm : Nat} {fs fc fw : Nat → Nat} {sc : Nat → Int64} {li : Nat → Nat} {lm ls lq hs : Int64} (hst : E.1.stackTraces = false) (hn : n ≤ 16) (ht : t ≤ 48) (x y : Int32) (hx : (inB x n && inB y t) = false) : Ctr E yX5_power cdX5_power (rmL 3) [.ref (ad 0), .int x, .int y] (WM E ad th n t dr ms pe pw len cod mm fs fc fw sc li lm ls lq hs) (pR (some (.int (nI 0))) (WM E ad (1) n t dr ms pe pw len cod mm fs fc fw sc li lm ls lq hs)) noX 0 0 := by
  refine ctr_of hst (by decide) (Nat.le_of_ble_eq_true rfl) (fun G O OR hN => ?_)
  have O : OKG E G cX5_power RX5 (rmL 3) [] := O
  have hN : nLG G = 3 := hN
  have key : V E G 0 0 21 [(0, .ref (ad 0)), (1, .int x), (2, .int y)] [.ref (ad 0)] (WM E ad th n t dr ms pe pw len cod mm fs fc fw sc li lm ls lq hs) := by
    refine v_iconst (v := nI 1) O dX5_power_21 (by decide) ?_
    refine v_put (ty := .int) O dX5_power_22 flX5_39 ftX5 0 rfl rfl (by decide +kernel) rfl rfl (Nat.le_of_ble_eq_true rfl) ?_
    refine v_aload_n O dX5_power_25 rfl ?_
    refine v_get O dX5_power_26 flX5_39 0 rfl rfl ?_
    refine v_ifN_le (tgt := 36) O dX5_power_29 (by decide) (by omega) (fun h3 => ?_) (fun h3 => ?_)
    · omega
    · refine v_iconst (v := nI 0) O dX5_power_32 (by decide) ?_
      refine v_goto (tgt := 47) O dX5_power_33 (by decide) ?_
      exact v_ireturn O OR dX5_power_47 (⟨rfl, rfl⟩) (Nat.le_of_ble_eq_true rfl) (Nat.le_of_ble_eq_true rfl)
  refine v_aload_n O dX5_power_0 rfl ?_
  refine v_aload_n O dX5_power_1 rfl ?_
  refine v_iload_n O dX5_power_2 rfl ?_
  refine v_V1 O dX5_power_3 lkX5_61 (c_isChannel hst hn x) 0 rfl rfl rfl rfl rfl (by first | exact hkc | exact Nat.zero_le _) (by first | exact hks | exact Nat.zero_le _) ?_
  refine v_ifB_eq (tgt := 21) O dX5_power_6 (by decide) (fun h => ?_) (fun h => ?_)
  · exact key
  · refine v_aload_n O dX5_power_9 rfl ?_
    refine v_iload_n O dX5_power_10 rfl ?_
    refine v_V1 O dX5_power_11 lkX5_96 (c_isColumn hst ht y) 0 rfl rfl rfl rfl rfl (by first | exact hkc | exact Nat.zero_le _) (by first | exact hks | exact Nat.zero_le _) ?_
    refine v_ifB_eq (tgt := 21) O dX5_power_14 (by decide) (fun h2 => ?_) (fun h2 => ?_)
    · exact key
    · rw [h, h2] at hx; cases hx
theorem m_count {E : ET} {ad : Nat → Nat} {th n t dr ms : Nat} {pe pw : Nat → Nat} {len : Nat} {cod : Nat → Nat} {mm : Nat} {fs fc fw : Nat → Nat} {sc : Nat → Int64} {li : Nat → Nat} {lm ls lq hs : Int64} (hst : E.1.stackTraces = false) (hm : ms < 65536) (a : Nat) (ha : a < 5) : Ctr E yX5_count cdX5_count (rmL 3) [.ref (ad 0), .int (nI a)] (WM E ad th n t dr ms pe pw len cod mm fs fc fw sc li lm ls lq hs) (pR (some (.int (nI (cnt5 n t dr (ons ms 16) mm a)))) (WM E ad (0) n t dr ms pe pw len cod mm fs fc fw sc li lm ls lq hs)) noX 0 0 := by
  refine ctr_of hst (by decide) (Nat.le_of_ble_eq_true rfl) (fun G O OR hN => ?_)
  have O : OKG E G cX5_count RX5 (rmL 3) [] := O
  have hN : nLG G = 2 := hN
  refine v_aload_n O dX5_count_0 rfl ?_
  refine v_iload_n O dX5_count_1 rfl ?_
  refine v_iconst (v := nI 0) O dX5_count_2 (by decide) ?_
  refine v_iconst (v := nI 4) O dX5_count_3 (by decide) ?_
  refine v_S1 O dX5_count_4 lkX5_42 (c_withinN hst a 0 4 (by omega) (by decide) (by decide)) rfl rfl rfl (by first | exact hkc | exact Nat.zero_le _) (by first | exact hks | exact Nat.zero_le _) ?_
  refine v_ifB_eq (tgt := 14) O dX5_count_7 (by decide) (fun h => ?_) (fun h => ?_)
  · exact absurd h (by simp; omega)
  · refine v_iconst (v := nI 0) O dX5_count_10 (by decide) ?_
    refine v_goto (tgt := 15) O dX5_count_11 (by decide) ?_
    refine v_put (ty := .int) O dX5_count_15 flX5_39 ftX5 0 rfl rfl (by decide +kernel) rfl rfl (Nat.le_of_ble_eq_true rfl) ?_
    refine v_aload_n O dX5_count_18 rfl ?_
    refine v_get O dX5_count_19 flX5_39 0 rfl rfl ?_
    refine v_ifN_le (tgt := 29) O dX5_count_22 (by decide) (by omega) (fun h3 => ?_) (fun h3 => ?_)
    · refine v_aload_n O dX5_count_29 rfl ?_
      refine v_iload_n O dX5_count_30 rfl ?_
      refine v_w (w' := (WM E ad (0) n t dr ms pe pw len cod mm fs fc fw sc li lm ls lq hs)) rfl ?_
      refine v_V1 O dX5_count_31 lkX5_102 (c_countOf hst hm a ha) 0 rfl rfl rfl rfl rfl (by first | exact hkc | exact Nat.zero_le _) (by first | exact hks | exact Nat.zero_le _) ?_
      exact v_ireturn O OR dX5_count_34 (⟨rfl, rfl⟩) (Nat.le_of_ble_eq_true rfl) (Nat.le_of_ble_eq_true rfl)
    · omega
theorem mx_count {E : ET} {ad : Nat → Nat} {th n t dr ms : Nat} {pe pw : Nat → Nat} {len : Nat} {cod : Nat → Nat} {mm : Nat} {fs fc fw : Nat → Nat} {sc : Nat → Int64} {li : Nat → Nat} {lm ls lq hs : Int64} (hst : E.1.stackTraces = false) (x : Int32) (hx : ¬ (nI 0 ≤ x ∧ x ≤ nI 4)) : Ctr E yX5_count cdX5_count (rmL 3) [.ref (ad 0), .int x] (WM E ad th n t dr ms pe pw len cod mm fs fc fw sc li lm ls lq hs) (pR (some (.int (nI 0))) (WM E ad (1) n t dr ms pe pw len cod mm fs fc fw sc li lm ls lq hs)) noX 0 0 := by
  refine ctr_of hst (by decide) (Nat.le_of_ble_eq_true rfl) (fun G O OR hN => ?_)
  have O : OKG E G cX5_count RX5 (rmL 3) [] := O
  have hN : nLG G = 2 := hN
  refine v_aload_n O dX5_count_0 rfl ?_
  refine v_iload_n O dX5_count_1 rfl ?_
  refine v_iconst (v := nI 0) O dX5_count_2 (by decide) ?_
  refine v_iconst (v := nI 4) O dX5_count_3 (by decide) ?_
  refine v_S1 O dX5_count_4 lkX5_42 (c_within hst x (nI 0) (nI 4)) rfl rfl rfl (by first | exact hkc | exact Nat.zero_le _) (by first | exact hks | exact Nat.zero_le _) ?_
  refine v_ifB_eq (tgt := 14) O dX5_count_7 (by decide) (fun h => ?_) (fun h => ?_)
  · refine v_iconst (v := nI 1) O dX5_count_14 (by decide) ?_
    refine v_put (ty := .int) O dX5_count_15 flX5_39 ftX5 0 rfl rfl (by decide +kernel) rfl rfl (Nat.le_of_ble_eq_true rfl) ?_
    refine v_aload_n O dX5_count_18 rfl ?_
    refine v_get O dX5_count_19 flX5_39 0 rfl rfl ?_
    refine v_ifN_le (tgt := 29) O dX5_count_22 (by decide) (by omega) (fun h3 => ?_) (fun h3 => ?_)
    · omega
    · refine v_iconst (v := nI 0) O dX5_count_25 (by decide) ?_
      refine v_goto (tgt := 34) O dX5_count_26 (by decide) ?_
      exact v_ireturn O OR dX5_count_34 (⟨rfl, rfl⟩) (Nat.le_of_ble_eq_true rfl) (Nat.le_of_ble_eq_true rfl)
  · exact absurd (of_decide_eq_true h) hx
theorem m_channelSum {E : ET} {ad : Nat → Nat} {th n t dr ms : Nat} {pe pw : Nat → Nat} {len : Nat} {cod : Nat → Nat} {mm : Nat} {fs fc fw : Nat → Nat} {sc : Nat → Int64} {li : Nat → Nat} {lm ls lq hs : Int64} (hst : E.1.stackTraces = false) (hn : n ≤ 16) (ht : t ≤ 48) (c : Nat) (hc : c < n) : Ctr E yX5_channelSum cdX5_channelSum (rmL 3) [.ref (ad 0), .int (nI c)] (WM E ad th n t dr ms pe pw len cod mm fs fc fw sc li lm ls lq hs) (pR (some (.int (nI (chs pw c t)))) (WM E ad (0) n t dr ms pe pw len cod mm fs fc fw sc li lm ls lq hs)) noX 0 0 := by
  refine ctr_of hst (by decide) (Nat.le_of_ble_eq_true rfl) (fun G O OR hN => ?_)
  have O : OKG E G cX5_channelSum RX5 (rmL 3) [] := O
  have hN : nLG G = 2 := hN
  refine v_aload_n O dX5_channelSum_0 rfl ?_
  refine v_aload_n O dX5_channelSum_1 rfl ?_
  refine v_iload_n O dX5_channelSum_2 rfl ?_
  refine v_V1 O dX5_channelSum_3 lkX5_61 (c_isChannel hst hn (nI c)) 0 rfl rfl rfl rfl rfl (by first | exact hkc | exact Nat.zero_le _) (by first | exact hks | exact Nat.zero_le _) ?_
  refine v_ifB_eq (tgt := 13) O dX5_channelSum_6 (by decide) (fun h => ?_) (fun h => ?_)
  · rw [inB_nI hc (by omega)] at h; cases h
  · refine v_iconst (v := nI 0) O dX5_channelSum_9 (by decide) ?_
    refine v_goto (tgt := 14) O dX5_channelSum_10 (by decide) ?_
    refine v_put (ty := .int) O dX5_channelSum_14 flX5_39 ftX5 0 rfl rfl (by decide +kernel) rfl rfl (Nat.le_of_ble_eq_true rfl) ?_
    refine v_aload_n O dX5_channelSum_17 rfl ?_
    refine v_get O dX5_channelSum_18 flX5_39 0 rfl rfl ?_
    refine v_ifN_le (tgt := 28) O dX5_channelSum_21 (by decide) (by omega) (fun h3 => ?_) (fun h3 => ?_)
    · refine v_aload_n O dX5_channelSum_28 rfl ?_
      refine v_iload_n O dX5_channelSum_29 rfl ?_
      refine v_w (w' := (WM E ad (0) n t dr ms pe pw len cod mm fs fc fw sc li lm ls lq hs)) rfl ?_
      refine v_V1 O dX5_channelSum_30 lkX5_108 (c_sumOf hst (by omega) ht) 0 rfl rfl rfl rfl rfl (by first | exact hkc | exact Nat.zero_le _) (by first | exact hks | exact Nat.zero_le _) ?_
      exact v_ireturn O OR dX5_channelSum_33 (⟨rfl, rfl⟩) (Nat.le_of_ble_eq_true rfl) (Nat.le_of_ble_eq_true rfl)
    · omega
theorem mx_channelSum {E : ET} {ad : Nat → Nat} {th n t dr ms : Nat} {pe pw : Nat → Nat} {len : Nat} {cod : Nat → Nat} {mm : Nat} {fs fc fw : Nat → Nat} {sc : Nat → Int64} {li : Nat → Nat} {lm ls lq hs : Int64} (hst : E.1.stackTraces = false) (hn : n ≤ 16) (x : Int32) (hx : inB x n = false) : Ctr E yX5_channelSum cdX5_channelSum (rmL 3) [.ref (ad 0), .int x] (WM E ad th n t dr ms pe pw len cod mm fs fc fw sc li lm ls lq hs) (pR (some (.int (nI 0))) (WM E ad (1) n t dr ms pe pw len cod mm fs fc fw sc li lm ls lq hs)) noX 0 0 := by
  refine ctr_of hst (by decide) (Nat.le_of_ble_eq_true rfl) (fun G O OR hN => ?_)
  have O : OKG E G cX5_channelSum RX5 (rmL 3) [] := O
  have hN : nLG G = 2 := hN
  refine v_aload_n O dX5_channelSum_0 rfl ?_
  refine v_aload_n O dX5_channelSum_1 rfl ?_
  refine v_iload_n O dX5_channelSum_2 rfl ?_
  refine v_V1 O dX5_channelSum_3 lkX5_61 (c_isChannel hst hn x) 0 rfl rfl rfl rfl rfl (by first | exact hkc | exact Nat.zero_le _) (by first | exact hks | exact Nat.zero_le _) ?_
  refine v_ifB_eq (tgt := 13) O dX5_channelSum_6 (by decide) (fun h => ?_) (fun h => ?_)
  · refine v_iconst (v := nI 1) O dX5_channelSum_13 (by decide) ?_
    refine v_put (ty := .int) O dX5_channelSum_14 flX5_39 ftX5 0 rfl rfl (by decide +kernel) rfl rfl (Nat.le_of_ble_eq_true rfl) ?_
    refine v_aload_n O dX5_channelSum_17 rfl ?_
    refine v_get O dX5_channelSum_18 flX5_39 0 rfl rfl ?_
    refine v_ifN_le (tgt := 28) O dX5_channelSum_21 (by decide) (by omega) (fun h3 => ?_) (fun h3 => ?_)
    · omega
    · refine v_iconst (v := nI 0) O dX5_channelSum_24 (by decide) ?_
      refine v_goto (tgt := 33) O dX5_channelSum_25 (by decide) ?_
      exact v_ireturn O OR dX5_channelSum_33 (⟨rfl, rfl⟩) (Nat.le_of_ble_eq_true rfl) (Nat.le_of_ble_eq_true rfl)
  · rw [hx] at h; cases h
