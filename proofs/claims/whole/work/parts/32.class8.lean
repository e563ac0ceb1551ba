-- the class's public methods: k_.. where the document asks for an answer, kx_.. where for an exception
theorem k_setChannels {E : ET} {ad : Nat → Nat} {n t dr : Nat} {pw pe : Nat → Nat} {mk : Nat → Bool} {len : Nat} {cod : Nat → Nat} {fr : Bool} {ls lc u v : Nat} {su sp : Nat → Nat} {tot spr : Nat → Int64} {mm : Nat} {fs fc fw : Nat → Nat} {sc : Nat → Int64} {fe : Nat → Nat} (hst : E.1.stackTraces = false) (n' : Nat) (hn : n' = 2 ∨ n' = 4 ∨ n' = 8 ∨ n' = 16) : Ctr E yX4_setChannels cdX4_setChannels (rmL 2) [.ref (ad 0), .int (nI n')] (WX E ad n t dr pw pe mk len cod fr ls lc u v su sp tot spr mm fs fc fw sc fe) (pR (some (.int (nI n))) (WX E ad (n') (0) (0) pw (fil pe 0 16) (fil mk false 16) len cod (false) ls lc u v su sp tot spr (0) fs fc fw sc fe)) noX 0 0 := by
  refine ctr_of hst (by decide) (Nat.le_of_ble_eq_true rfl) (fun G O OR hN => ?_)
  have O : OKG E G cX4_setChannels RX4 (rmL 2) [] := O
  have hN : nLG G = 3 := hN
  have key : V E G 0 0 32 [(0, .ref (ad 0)), (1, .int (nI n'))] [] (WX E ad n t dr pw pe mk len cod fr ls lc u v su sp tot spr mm fs fc fw sc fe) := by
    refine v_aload_n O dX4_setChannels_32 rfl ?_
    refine v_get O dX4_setChannels_33 flX4_10 0 rfl rfl ?_
    refine v_getN O dX4_setChannels_36 flX4_44 1 rfl rfl ?_
    refine v_istore_n O dX4_setChannels_39 (by rw [hN]; decide) ?_
    refine v_aload_n O dX4_setChannels_40 rfl ?_
    refine v_get O dX4_setChannels_41 flX4_10 0 rfl rfl ?_
    refine v_iload_n O dX4_setChannels_44 rfl ?_
    refine v_VN0 O dX4_setChannels_45 lkX4_48 (x_beginAnew hst n') 1 rfl rfl rfl rfl rfl (by first | exact hkc | exact Nat.zero_le _) (by first | exact hks | exact Nat.zero_le _) ?_
    refine v_aload_n O dX4_setChannels_48 rfl ?_
    refine v_V0 O dX4_setChannels_49 lkX4_52 (x_forget hst) 0 rfl rfl rfl rfl rfl (by first | exact hkc | exact Nat.zero_le _) (by first | exact hks | exact Nat.zero_le _) ?_
    refine v_iload_n O dX4_setChannels_52 rfl ?_
    exact v_ireturn O OR dX4_setChannels_53 (⟨rfl, rfl⟩) (Nat.le_of_ble_eq_true rfl) (Nat.le_of_ble_eq_true rfl)
  refine v_iload_n O dX4_setChannels_0 rfl ?_
  refine v_iconst (v := nI 2) O dX4_setChannels_1 (by decide) ?_
  refine v_icmpN_eq (tgt := 32) O dX4_setChannels_2 (by decide) (by omega) (by omega) (fun h1 => ?_) (fun h1 => ?_)
  · exact key
  · refine v_iload_n O dX4_setChannels_5 rfl ?_
    refine v_iconst (v := nI 4) O dX4_setChannels_6 (by decide) ?_
    refine v_icmpN_eq (tgt := 32) O dX4_setChannels_7 (by decide) (by omega) (by omega) (fun h2 => ?_) (fun h2 => ?_)
    · exact key
    · refine v_iload_n O dX4_setChannels_10 rfl ?_
      refine v_bipush (v := nI 8) O dX4_setChannels_11 (by decide) ?_
      refine v_icmpN_eq (tgt := 32) O dX4_setChannels_13 (by decide) (by omega) (by omega) (fun h3 => ?_) (fun h3 => ?_)
      · exact key
      · refine v_iload_n O dX4_setChannels_16 rfl ?_
        refine v_bipush (v := nI 16) O dX4_setChannels_17 (by decide) ?_
        refine v_icmpN_eq (tgt := 32) O dX4_setChannels_19 (by decide) (by omega) (by omega) (fun h4 => ?_) (fun h4 => ?_)
        · exact key
        · omega
theorem kx_setChannels {E : ET} {ad : Nat → Nat} {n t dr : Nat} {pw pe : Nat → Nat} {mk : Nat → Bool} {len : Nat} {cod : Nat → Nat} {fr : Bool} {ls lc u v : Nat} {su sp : Nat → Nat} {tot spr : Nat → Int64} {mm : Nat} {fs fc fw : Nat → Nat} {sc : Nat → Int64} {fe : Nat → Nat} (hst : E.1.stackTraces = false) (x : Int32) (hx : ¬ x = nI 2 ∧ ¬ x = nI 4 ∧ ¬ x = nI 8 ∧ ¬ x = nI 16) : Ctr E yX4_setChannels cdX4_setChannels (rmT 8) [.ref (ad 0), .int x] (WX E ad n t dr pw pe mk len cod fr ls lc u v su sp tot spr mm fs fc fw sc fe) noR (pX sIAE (WX E ad n t dr pw pe mk len cod fr ls lc u v su sp tot spr mm fs fc fw sc fe)) 1 6 := by
  refine ctr_of hst (by decide) (Nat.le_of_ble_eq_true rfl) (fun G O OR hN => ?_)
  have O : OKG E G cX4_setChannels RX4 (rmT 8) [] := O
  have hN : nLG G = 3 := hN
  refine v_iload_n O dX4_setChannels_0 rfl ?_
  refine v_iconst (v := nI 2) O dX4_setChannels_1 (by decide) ?_
  refine v_icmp_eq (tgt := 32) O dX4_setChannels_2 (by decide) (fun h1 => ?_) (fun h1 => ?_)
  · exact absurd h1 hx.1
  · refine v_iload_n O dX4_setChannels_5 rfl ?_
    refine v_iconst (v := nI 4) O dX4_setChannels_6 (by decide) ?_
    refine v_icmp_eq (tgt := 32) O dX4_setChannels_7 (by decide) (fun h2 => ?_) (fun h2 => ?_)
    · exact absurd h2 hx.2.1
    · refine v_iload_n O dX4_setChannels_10 rfl ?_
      refine v_bipush (v := nI 8) O dX4_setChannels_11 (by decide) ?_
      refine v_icmp_eq (tgt := 32) O dX4_setChannels_13 (by decide) (fun h3 => ?_) (fun h3 => ?_)
      · exact absurd h3 hx.2.2.1
      · refine v_iload_n O dX4_setChannels_16 rfl ?_
        refine v_bipush (v := nI 16) O dX4_setChannels_17 (by decide) ?_
        refine v_icmp_eq (tgt := 32) O dX4_setChannels_19 (by decide) (fun h4 => ?_) (fun h4 => ?_)
        · exact absurd h4 hx.2.2.2
        · exact v_throw O OR th_37_39 dX4_setChannels_22 dX4_setChannels_25 dX4_setChannels_26 dX4_setChannels_28 dX4_setChannels_31 ⟨rfl, rfl⟩ (by decide) (Nat.le_of_ble_eq_true rfl) (Nat.le_of_ble_eq_true rfl) (Nat.le_of_ble_eq_true rfl) (Nat.le_of_ble_eq_true rfl) (Nat.le_of_ble_eq_true rfl)
theorem k_setPending {E : ET} {ad : Nat → Nat} {n t dr : Nat} {pw pe : Nat → Nat} {mk : Nat → Bool} {len : Nat} {cod : Nat → Nat} {fr : Bool} {ls lc u v : Nat} {su sp : Nat → Nat} {tot spr : Nat → Int64} {mm : Nat} {fs fc fw : Nat → Nat} {sc : Nat → Int64} {fe : Nat → Nat} (hst : E.1.stackTraces = false) (hn : n ≤ 16) (c p : Nat) (hc : c < n) (hp : p ≤ 9999) : Ctr E yX4_setPending cdX4_setPending (rmL 2) [.ref (ad 0), .int (nI c), .int (nI p)] (WX E ad n t dr pw pe mk len cod fr ls lc u v su sp tot spr mm fs fc fw sc fe) (pR (some (.int (nI (pe c)))) (WX E ad n t dr pw (va_up pe c p) mk len cod fr ls lc u v su sp tot spr mm fs fc fw sc fe)) noX 0 0 := by
  refine ctr_of hst (by decide) (Nat.le_of_ble_eq_true rfl) (fun G O OR hN => ?_)
  have O : OKG E G cX4_setPending RX4 (rmL 2) [] := O
  have hN : nLG G = 4 := hN
  refine v_aload_n O dX4_setPending_0 rfl ?_
  refine v_iload_n O dX4_setPending_1 rfl ?_
  refine v_V0 O dX4_setPending_2 lkX4_55 (r_channel hst hn c hc) 0 rfl rfl rfl rfl rfl (by first | exact hkc | exact Nat.zero_le _) (by first | exact hks | exact Nat.zero_le _) ?_
  refine v_iload_n O dX4_setPending_5 rfl ?_
  refine v_if_lt (tgt := 16) O dX4_setPending_6 (by decide) (fun h => ?_) (fun h => ?_)
  · exact absurd h (nI_pos (by omega))
  · refine v_iload_n O dX4_setPending_9 rfl ?_
    refine v_sipush (v := nI 9999) O dX4_setPending_10 (by decide) ?_
    refine v_icmpN_le (tgt := 26) O dX4_setPending_13 (by decide) (by omega) (by omega) (fun h2 => ?_) (fun h2 => ?_)
    · refine v_aload_n O dX4_setPending_26 rfl ?_
      refine v_get O dX4_setPending_27 flX4_10 0 rfl rfl ?_
      refine v_getN O dX4_setPending_30 flX4_60 1 rfl rfl ?_
      refine v_iload_n O dX4_setPending_33 rfl ?_
      refine v_iald O dX4_setPending_34 6 rfl (by decide) (by omega) ?_
      refine v_istore_n O dX4_setPending_35 (by rw [hN]; decide) ?_
      refine v_aload_n O dX4_setPending_36 rfl ?_
      refine v_get O dX4_setPending_37 flX4_10 0 rfl rfl ?_
      refine v_getN O dX4_setPending_40 flX4_60 1 rfl rfl ?_
      refine v_iload_n O dX4_setPending_43 rfl ?_
      refine v_iload_n O dX4_setPending_44 rfl ?_
      refine v_iastN O dX4_setPending_45 6 rfl (by decide) (by omega) ?_
      refine v_iload_n O dX4_setPending_46 rfl ?_
      exact v_ireturn O OR dX4_setPending_47 (⟨rfl, rfl⟩) (Nat.le_of_ble_eq_true rfl) (Nat.le_of_ble_eq_true rfl)
    · omega
theorem kx_setPending1 {E : ET} {ad : Nat → Nat} {n t dr : Nat} {pw pe : Nat → Nat} {mk : Nat → Bool} {len : Nat} {cod : Nat → Nat} {fr : Bool} {ls lc u v : Nat} {su sp : Nat → Nat} {tot spr : Nat → Int64} {mm : Nat} {fs fc fw : Nat → Nat} {sc : Nat → Int64} {fe : Nat → Nat} (hst : E.1.stackTraces = false) (hn : n ≤ 16) (x p : Int32) (hx : inB x n = false) : Ctr E yX4_setPending cdX4_setPending (rmT 8) [.ref (ad 0), .int x, .int p] (WX E ad n t dr pw pe mk len cod fr ls lc u v su sp tot spr mm fs fc fw sc fe) noR (pX sIOB (WX E ad n t dr pw pe mk len cod fr ls lc u v su sp tot spr mm fs fc fw sc fe)) 1 6 := by
  refine ctr_of hst (by decide) (Nat.le_of_ble_eq_true rfl) (fun G O OR hN => ?_)
  have O : OKG E G cX4_setPending RX4 (rmT 8) [] := O
  have hN : nLG G = 4 := hN
  refine v_aload_n O dX4_setPending_0 rfl ?_
  refine v_iload_n O dX4_setPending_1 rfl ?_
  exact v_callV (mc := 1) (ms := 6) O dX4_setPending_2 lkX4_55 (rx_channel hst hn x hx) 0 rfl rfl rfl rfl rfl kk_no (fun X9 u9 h9 => by obtain ⟨rfl, rfl⟩ := h9; exact vx_pass O OR ⟨rfl, rfl⟩ (Nat.le_of_ble_eq_true rfl) (Nat.le_of_ble_eq_true rfl))
theorem kx_setPending2 {E : ET} {ad : Nat → Nat} {n t dr : Nat} {pw pe : Nat → Nat} {mk : Nat → Bool} {len : Nat} {cod : Nat → Nat} {fr : Bool} {ls lc u v : Nat} {su sp : Nat → Nat} {tot spr : Nat → Int64} {mm : Nat} {fs fc fw : Nat → Nat} {sc : Nat → Int64} {fe : Nat → Nat} (hst : E.1.stackTraces = false) (hn : n ≤ 16) (x p : Int32) (hx : inB x n = true) (hp : ¬ (nI 0 ≤ p ∧ p ≤ nI 9999)) : Ctr E yX4_setPending cdX4_setPending (rmT 8) [.ref (ad 0), .int x, .int p] (WX E ad n t dr pw pe mk len cod fr ls lc u v su sp tot spr mm fs fc fw sc fe) noR (pX sIAE (WX E ad n t dr pw pe mk len cod fr ls lc u v su sp tot spr mm fs fc fw sc fe)) 1 6 := by
  obtain ⟨c, hc, rfl⟩ := inB_of hx
  refine ctr_of hst (by decide) (Nat.le_of_ble_eq_true rfl) (fun G O OR hN => ?_)
  have O : OKG E G cX4_setPending RX4 (rmT 8) [] := O
  have hN : nLG G = 4 := hN
  refine v_aload_n O dX4_setPending_0 rfl ?_
  refine v_iload_n O dX4_setPending_1 rfl ?_
  refine v_V0 O dX4_setPending_2 lkX4_55 (r_channel hst hn c hc) 0 rfl rfl rfl rfl rfl (by first | exact hkc | exact Nat.zero_le _) (by first | exact hks | exact Nat.zero_le _) ?_
  refine v_iload_n O dX4_setPending_5 rfl ?_
  refine v_if_lt (tgt := 16) O dX4_setPending_6 (by decide) (fun h => ?_) (fun h => ?_)
  · exact v_throw O OR th_37_58 dX4_setPending_16 dX4_setPending_19 dX4_setPending_20 dX4_setPending_22 dX4_setPending_25 ⟨rfl, rfl⟩ (by decide) (Nat.le_of_ble_eq_true rfl) (Nat.le_of_ble_eq_true rfl) (Nat.le_of_ble_eq_true rfl) (Nat.le_of_ble_eq_true rfl) (Nat.le_of_ble_eq_true rfl)
  · refine v_iload_n O dX4_setPending_9 rfl ?_
    refine v_sipush (v := nI 9999) O dX4_setPending_10 (by decide) ?_
    refine v_icmp_le (tgt := 26) O dX4_setPending_13 (by decide) (fun h2 => ?_) (fun h2 => ?_)
    · exact absurd ⟨by rw [lt0_I] at h; rw [fa_le, nI_toInt (by decide)]; omega, h2⟩ hp
    · exact v_throw O OR th_37_58 dX4_setPending_16 dX4_setPending_19 dX4_setPending_20 dX4_setPending_22 dX4_setPending_25 ⟨rfl, rfl⟩ (by decide) (Nat.le_of_ble_eq_true rfl) (Nat.le_of_ble_eq_true rfl) (Nat.le_of_ble_eq_true rfl) (Nat.le_of_ble_eq_true rfl) (Nat.le_of_ble_eq_true rfl)
theorem k_advance {E : ET} {ad : Nat → Nat} {n t dr : Nat} {pw pe : Nat → Nat} {mk : Nat → Bool} {len : Nat} {cod : Nat → Nat} {fr : Bool} {ls lc u v : Nat} {su sp : Nat → Nat} {tot spr : Nat → Int64} {mm : Nat} {fs fc fw : Nat → Nat} {sc : Nat → Int64} {fe : Nat → Nat} (hst : E.1.stackTraces = false) (hn : n ≤ 16) (ht : t ≤ 48) : Ctr E yX4_advance cdX4_advance (rmL 3) [.ref (ad 0)] (WX E ad n t dr pw pe mk len cod fr ls lc u v su sp tot spr mm fs fc fw sc fe) (pR (some (.int (nI (bgT t)))) (WX E ad n (bgT t) (bgD t dr) (lay (bgP t pw) pe ((bgT t - 1) * 16) n) (fil pe 0 n) mk len cod (false) ls lc u v su sp tot spr (0) fs fc fw sc fe)) noX 0 0 := by
  refine ctr_of hst (by decide) (Nat.le_of_ble_eq_true rfl) (fun G O OR hN => ?_)
  have O : OKG E G cX4_advance RX4 (rmL 3) [] := O
  have hN : nLG G = 1 := hN
  refine v_aload_n O dX4_advance_0 rfl ?_
  refine v_get O dX4_advance_1 flX4_10 0 rfl rfl ?_
  refine v_VN0 O dX4_advance_4 lkX4_64 (x_takePending hst hn ht) 1 rfl rfl rfl rfl rfl (by first | exact hkc | exact Nat.zero_le _) (by first | exact hks | exact Nat.zero_le _) ?_
  refine v_aload_n O dX4_advance_7 rfl ?_
  refine v_V0 O dX4_advance_8 lkX4_52 (x_forget hst) 0 rfl rfl rfl rfl rfl (by first | exact hkc | exact Nat.zero_le _) (by first | exact hks | exact Nat.zero_le _) ?_
  refine v_aload_n O dX4_advance_11 rfl ?_
  refine v_get O dX4_advance_12 flX4_10 0 rfl rfl ?_
  refine v_getN O dX4_advance_15 flX4_67 1 rfl rfl ?_
  exact v_ireturn O OR dX4_advance_18 (⟨rfl, rfl⟩) (Nat.le_of_ble_eq_true rfl) (Nat.le_of_ble_eq_true rfl)
theorem k_append {E : ET} {ad : Nat → Nat} {n t dr : Nat} {pw pe : Nat → Nat} {mk : Nat → Bool} {len : Nat} {cod : Nat → Nat} {fr : Bool} {ls lc u v : Nat} {su sp : Nat → Nat} {tot spr : Nat → Int64} {mm : Nat} {fs fc fw : Nat → Nat} {sc : Nat → Int64} {fe : Nat → Nat} (hst : E.1.stackTraces = false) (c : Nat) (hc : 32 ≤ c ∧ c ≤ 126) (hl : len < 64) : Ctr E yX4_append cdX4_append (rmL 1) [.ref (ad 0), .int (nI c)] (WX E ad n t dr pw pe mk len cod fr ls lc u v su sp tot spr mm fs fc fw sc fe) (pR (some (.int (nI (len + 1)))) (WX E ad n t dr pw pe mk (len + 1) (va_up cod len c) fr ls lc u v su sp tot spr mm fs fc fw sc fe)) noX 0 0 := by
  refine ctr_of hst (by decide) (Nat.le_of_ble_eq_true rfl) (fun G O OR hN => ?_)
  have O : OKG E G cX4_append RX4 (rmL 1) [] := O
  have hN : nLG G = 2 := hN
  refine v_iload_n O dX4_append_0 rfl ?_
  refine v_bipush (v := nI 32) O dX4_append_1 (by decide) ?_
  refine v_icmpN_lt (tgt := 12) O dX4_append_3 (by decide) (by omega) (by omega) (fun h => ?_) (fun h => ?_)
  · omega
  · refine v_iload_n O dX4_append_6 rfl ?_
    refine v_bipush (v := nI 126) O dX4_append_7 (by decide) ?_
    refine v_icmpN_le (tgt := 22) O dX4_append_9 (by decide) (by omega) (by omega) (fun h2 => ?_) (fun h2 => ?_)
    · refine v_aload_n O dX4_append_22 rfl ?_
      refine v_get O dX4_append_23 flX4_19 0 rfl rfl ?_
      refine v_getN O dX4_append_26 flX4_72 2 rfl rfl ?_
      refine v_bipush (v := nI 64) O dX4_append_29 (by decide) ?_
      refine v_icmpN_lt (tgt := 44) O dX4_append_31 (by decide) (by omega) (by omega) (fun h3 => ?_) (fun h3 => ?_)
      · refine v_aload_n O dX4_append_44 rfl ?_
        refine v_get O dX4_append_45 flX4_19 0 rfl rfl ?_
        refine v_getN O dX4_append_48 flX4_80 2 rfl rfl ?_
        refine v_aload_n O dX4_append_51 rfl ?_
        refine v_get O dX4_append_52 flX4_19 0 rfl rfl ?_
        refine v_getN O dX4_append_55 flX4_72 2 rfl rfl ?_
        refine v_iload_n O dX4_append_58 rfl ?_
        refine v_iastN O dX4_append_59 8 rfl (by decide) (by omega) ?_
        refine v_aload_n O dX4_append_60 rfl ?_
        refine v_get O dX4_append_61 flX4_19 0 rfl rfl ?_
        refine v_dup O dX4_append_64 rfl ?_
        refine v_getN O dX4_append_65 flX4_72 2 rfl rfl ?_
        refine v_iconst (v := nI 1) O dX4_append_68 (by decide) ?_
        refine v_iaddN O dX4_append_69 ?_
        refine v_putN (ty := .int) O dX4_append_70 flX4_72 ftX3 2 rfl rfl (by decide +kernel) rfl rfl (Nat.le_of_ble_eq_true rfl) ?_
        refine v_aload_n O dX4_append_73 rfl ?_
        refine v_get O dX4_append_74 flX4_19 0 rfl rfl ?_
        refine v_getN O dX4_append_77 flX4_72 2 rfl rfl ?_
        exact v_ireturn O OR dX4_append_80 (⟨rfl, rfl⟩) (Nat.le_of_ble_eq_true rfl) (Nat.le_of_ble_eq_true rfl)
      · omega
    · omega
theorem kx_append1 {E : ET} {ad : Nat → Nat} {n t dr : Nat} {pw pe : Nat → Nat} {mk : Nat → Bool} {len : Nat} {cod : Nat → Nat} {fr : Bool} {ls lc u v : Nat} {su sp : Nat → Nat} {tot spr : Nat → Int64} {mm : Nat} {fs fc fw : Nat → Nat} {sc : Nat → Int64} {fe : Nat → Nat} (hst : E.1.stackTraces = false) (x : Int32) (hx : ¬ (nI 32 ≤ x ∧ x ≤ nI 126)) : Ctr E yX4_append cdX4_append (rmT 8) [.ref (ad 0), .int x] (WX E ad n t dr pw pe mk len cod fr ls lc u v su sp tot spr mm fs fc fw sc fe) noR (pX sIAE (WX E ad n t dr pw pe mk len cod fr ls lc u v su sp tot spr mm fs fc fw sc fe)) 1 6 := by
  refine ctr_of hst (by decide) (Nat.le_of_ble_eq_true rfl) (fun G O OR hN => ?_)
  have O : OKG E G cX4_append RX4 (rmT 8) [] := O
  have hN : nLG G = 2 := hN
  refine v_iload_n O dX4_append_0 rfl ?_
  refine v_bipush (v := nI 32) O dX4_append_1 (by decide) ?_
  refine v_icmp_lt (tgt := 12) O dX4_append_3 (by decide) (fun h => ?_) (fun h => ?_)
  · exact v_throw O OR th_37_70 dX4_append_12 dX4_append_15 dX4_append_16 dX4_append_18 dX4_append_21 ⟨rfl, rfl⟩ (by decide) (Nat.le_of_ble_eq_true rfl) (Nat.le_of_ble_eq_true rfl) (Nat.le_of_ble_eq_true rfl) (Nat.le_of_ble_eq_true rfl) (Nat.le_of_ble_eq_true rfl)
  · refine v_iload_n O dX4_append_6 rfl ?_
    refine v_bipush (v := nI 126) O dX4_append_7 (by decide) ?_
    refine v_icmp_le (tgt := 22) O dX4_append_9 (by decide) (fun h2 => ?_) (fun h2 => ?_)
    · exact absurd ⟨by rw [fa_lt] at h; rw [fa_le]; omega, h2⟩ hx
    · exact v_throw O OR th_37_70 dX4_append_12 dX4_append_15 dX4_append_16 dX4_append_18 dX4_append_21 ⟨rfl, rfl⟩ (by decide) (Nat.le_of_ble_eq_true rfl) (Nat.le_of_ble_eq_true rfl) (Nat.le_of_ble_eq_true rfl) (Nat.le_of_ble_eq_true rfl) (Nat.le_of_ble_eq_true rfl)
theorem kx_append2 {E : ET} {ad : Nat → Nat} {n t dr : Nat} {pw pe : Nat → Nat} {mk : Nat → Bool} {len : Nat} {cod : Nat → Nat} {fr : Bool} {ls lc u v : Nat} {su sp : Nat → Nat} {tot spr : Nat → Int64} {mm : Nat} {fs fc fw : Nat → Nat} {sc : Nat → Int64} {fe : Nat → Nat} (hst : E.1.stackTraces = false) (x : Int32) (hx : nI 32 ≤ x ∧ x ≤ nI 126) (hl : len = 64) : Ctr E yX4_append cdX4_append (rmT 8) [.ref (ad 0), .int x] (WX E ad n t dr pw pe mk len cod fr ls lc u v su sp tot spr mm fs fc fw sc fe) noR (pX sISE (WX E ad n t dr pw pe mk len cod fr ls lc u v su sp tot spr mm fs fc fw sc fe)) 1 6 := by
  refine ctr_of hst (by decide) (Nat.le_of_ble_eq_true rfl) (fun G O OR hN => ?_)
  have O : OKG E G cX4_append RX4 (rmT 8) [] := O
  have hN : nLG G = 2 := hN
  refine v_iload_n O dX4_append_0 rfl ?_
  refine v_bipush (v := nI 32) O dX4_append_1 (by decide) ?_
  refine v_icmp_lt (tgt := 12) O dX4_append_3 (by decide) (fun h => ?_) (fun h => ?_)
  · exact absurd hx.1 (by rw [fa_lt] at h; rw [fa_le]; omega)
  · refine v_iload_n O dX4_append_6 rfl ?_
    refine v_bipush (v := nI 126) O dX4_append_7 (by decide) ?_
    refine v_icmp_le (tgt := 22) O dX4_append_9 (by decide) (fun h2 => ?_) (fun h2 => ?_)
    · refine v_aload_n O dX4_append_22 rfl ?_
      refine v_get O dX4_append_23 flX4_19 0 rfl rfl ?_
      refine v_getN O dX4_append_26 flX4_72 2 rfl rfl ?_
      refine v_bipush (v := nI 64) O dX4_append_29 (by decide) ?_
      refine v_icmpN_lt (tgt := 44) O dX4_append_31 (by decide) (by omega) (by omega) (fun h3 => ?_) (fun h3 => ?_)
      · omega
      · exact v_throw O OR th_75_77 dX4_append_34 dX4_append_37 dX4_append_38 dX4_append_40 dX4_append_43 ⟨rfl, rfl⟩ (by decide) (Nat.le_of_ble_eq_true rfl) (Nat.le_of_ble_eq_true rfl) (Nat.le_of_ble_eq_true rfl) (Nat.le_of_ble_eq_true rfl) (Nat.le_of_ble_eq_true rfl)
    · exact absurd hx.2 h2
theorem k_clearInput {E : ET} {ad : Nat → Nat} {n t dr : Nat} {pw pe : Nat → Nat} {mk : Nat → Bool} {len : Nat} {cod : Nat → Nat} {fr : Bool} {ls lc u v : Nat} {su sp : Nat → Nat} {tot spr : Nat → Int64} {mm : Nat} {fs fc fw : Nat → Nat} {sc : Nat → Int64} {fe : Nat → Nat} (hst : E.1.stackTraces = false) : Ctr E yX4_clearInput cdX4_clearInput (rmL 1) [.ref (ad 0)] (WX E ad n t dr pw pe mk len cod fr ls lc u v su sp tot spr mm fs fc fw sc fe) (pR (some (.int (nI len))) (WX E ad n t dr pw pe mk (0) cod fr ls lc u v su sp tot spr mm fs fc fw sc fe)) noX 0 0 := by
  refine ctr_of hst (by decide) (Nat.le_of_ble_eq_true rfl) (fun G O OR hN => ?_)
  have O : OKG E G cX4_clearInput RX4 (rmL 1) [] := O
  have hN : nLG G = 2 := hN
  refine v_aload_n O dX4_clearInput_0 rfl ?_
  refine v_get O dX4_clearInput_1 flX4_19 0 rfl rfl ?_
  refine v_getN O dX4_clearInput_4 flX4_72 2 rfl rfl ?_
  refine v_istore_n O dX4_clearInput_7 (by rw [hN]; decide) ?_
  refine v_aload_n O dX4_clearInput_8 rfl ?_
  refine v_get O dX4_clearInput_9 flX4_19 0 rfl rfl ?_
  refine v_iconst (v := nI 0) O dX4_clearInput_12 (by decide) ?_
  refine v_putN (ty := .int) O dX4_clearInput_13 flX4_72 ftX3 2 rfl rfl (by decide +kernel) rfl rfl (Nat.le_of_ble_eq_true rfl) ?_
  refine v_iload_n O dX4_clearInput_16 rfl ?_
  exact v_ireturn O OR dX4_clearInput_17 (⟨rfl, rfl⟩) (Nat.le_of_ble_eq_true rfl) (Nat.le_of_ble_eq_true rfl)
theorem k_firstError {E : ET} {ad : Nat → Nat} {n t dr : Nat} {pw pe : Nat → Nat} {mk : Nat → Bool} {len : Nat} {cod : Nat → Nat} {fr : Bool} {ls lc u v : Nat} {su sp : Nat → Nat} {tot spr : Nat → Int64} {mm : Nat} {fs fc fw : Nat → Nat} {sc : Nat → Int64} {fe : Nat → Nat} (hst : E.1.stackTraces = false) (hl : len ≤ 64) (hcod : ∀ j, j < len → cod j < 128) : Ctr E yX4_firstError cdX4_firstError (rmL 3) [.ref (ad 0)] (WX E ad n t dr pw pe mk len cod fr ls lc u v su sp tot spr mm fs fc fw sc fe) (pR (some (.int (nI (errAt cod len)))) (WX E ad n t dr pw pe mk len cod fr ls lc u v su sp tot spr mm fs fc fw sc fe)) noX 0 0 := by
  refine ctr_of hst (by decide) (Nat.le_of_ble_eq_true rfl) (fun G O OR hN => ?_)
  have O : OKG E G cX4_firstError RX4 (rmL 3) [] := O
  have hN : nLG G = 1 := hN
  refine v_aload_n O dX4_firstError_0 rfl ?_
  refine v_get O dX4_firstError_1 flX4_19 0 rfl rfl ?_
  refine v_VN1 O dX4_firstError_4 lkX4_83 (x_indexOf hst hl hcod) 2 rfl rfl rfl rfl rfl (by first | exact hkc | exact Nat.zero_le _) (by first | exact hks | exact Nat.zero_le _) ?_
  exact v_ireturn O OR dX4_firstError_7 (⟨rfl, rfl⟩) (Nat.le_of_ble_eq_true rfl) (Nat.le_of_ble_eq_true rfl)
theorem lp_load {E : ET} {G : GT} (O : OKG E G cX4_load RX4 (rmL 4) []) (hN : nLG G = 3) {ad : Nat → Nat} {n t dr : Nat} {pw pe : Nat → Nat} {mk : Nat → Bool} {len : Nat} {cod : Nat → Nat} {fr : Bool} {ls lc u v : Nat} {su sp : Nat → Nat} {tot spr : Nat → Int64} {mm : Nat} {fs fc fw : Nat → Nat} {sc : Nat → Int64} {fe : Nat → Nat} {many : Nat} (hst : E.1.stackTraces = false) (hn1 : 2 ≤ n) (hn : n ≤ 16) (ht : t ≤ 48) (hl : len ≤ 64) (hk : n * many = len) (hcod : ∀ j, j < len → cod j < 128 ∧ isP (cod j) = true) (kk : V E G 0 0 63 [(0, .ref (ad 0)), (1, .int (nI many))] [] (WX E ad n (ldT t many) (ldD t dr many) (ldP t pw cod n many) pe mk len cod fr ls lc u v su sp tot spr mm fs fc fw sc fe)) : ∀ j k : Nat, k ≤ many → j = many - k → V E G 0 0 32 [(0, .ref (ad 0)), (1, .int (nI many)), (2, .int (nI k))] [] (WX E ad n (ldT t k) (ldD t dr k) (ldP t pw cod n k) pe mk len cod fr ls lc u v su sp tot spr mm fs fc fw sc fe) := by
  have hmb : many ≤ 64 := by
    have h2 := Nat.mul_le_mul_right many hn1
    omega
  intro j
  induction j using Nat.strongRecOn with
  | _ j ih =>
    intro k hkm hj
    refine v_iload_n O dX4_load_32 rfl ?_
    refine v_iload_n O dX4_load_33 rfl ?_
    refine v_icmpN_ge (tgt := 63) O dX4_load_34 (by decide) (by omega) (by omega) (fun h => ?_) (fun h => ?_)
    · have e : k = many := by omega
      subst e
      refine v_ord [0, 1] ?_
      exact kk
    · have hq : n * (k + 1) ≤ n * many := Nat.mul_le_mul_left n h
      rw [Nat.mul_succ] at hq
      refine v_aload_n O dX4_load_37 rfl ?_
      refine v_get O dX4_load_38 flX4_10 0 rfl rfl ?_
      refine v_aload_n O dX4_load_41 rfl ?_
      refine v_get O dX4_load_42 flX4_19 0 rfl rfl ?_
      refine v_iload_n O dX4_load_45 rfl ?_
      refine v_aload_n O dX4_load_46 rfl ?_
      refine v_get O dX4_load_47 flX4_10 0 rfl rfl ?_
      refine v_getN O dX4_load_50 flX4_44 1 rfl rfl ?_
      refine v_imulN O dX4_load_53 ?_
      rw [Nat.mul_comm k n]
      refine v_VN0 O dX4_load_54 lkX4_93 (x_takeColumn hst hn (ldT_le ht k) (n * k) hl (by omega) hcod) 1 rfl rfl rfl rfl rfl (by first | exact hkc | exact Nat.zero_le _) (by first | exact hks | exact Nat.zero_le _) ?_
      refine v_iincN (b := 1) O dX4_load_57 rfl (by decide) (by rw [hN]; decide) ?_
      refine v_goto (tgt := 32) O dX4_load_60 (by decide) ?_
      refine v_ord [0, 1, 2] ?_
      exact ih (j - 1) (by omega) (k + 1) (by omega) (by omega)
theorem k_load {E : ET} {ad : Nat → Nat} {n t dr : Nat} {pw pe : Nat → Nat} {mk : Nat → Bool} {len : Nat} {cod : Nat → Nat} {fr : Bool} {ls lc u v : Nat} {su sp : Nat → Nat} {tot spr : Nat → Int64} {mm : Nat} {fs fc fw : Nat → Nat} {sc : Nat → Int64} {fe : Nat → Nat} (hst : E.1.stackTraces = false) (hn1 : 2 ≤ n) (hn : n ≤ 16) (ht : t ≤ 48) (hl : len ≤ 64) (h0 : 1 ≤ len) (hr : len % n = 0) (hcod : ∀ j, j < len → cod j < 128 ∧ isP (cod j) = true) : Ctr E yX4_load cdX4_load (rmL 4) [.ref (ad 0)] (WX E ad n t dr pw pe mk len cod fr ls lc u v su sp tot spr mm fs fc fw sc fe) (pR (some (.int (nI (len / n)))) (WX E ad n (ldT t (len / n)) (ldD t dr (len / n)) (ldP t pw cod n (len / n)) pe mk (0) cod (false) ls lc u v su sp tot spr (0) fs fc fw sc fe)) noX 0 0 := by
  have hm := Nat.div_add_mod len n
  rw [hr, Nat.add_zero] at hm
  have hea : errAt cod len = len := errAt_of (Nat.le_refl _) (fun j hj => (hcod j hj).2) (Or.inl rfl)
  have hc : cntC cod len n = len / n := by unfold cntC; rw [if_pos ⟨hr, hea⟩]
  have hd1 := Nat.div_le_self len n
  have hd2 : 1 ≤ len / n := by
    rcases Nat.eq_zero_or_pos (len / n) with g | g
    · rw [g, Nat.mul_zero] at hm; omega
    · exact g
  refine ctr_of hst (by decide) (Nat.le_of_ble_eq_true rfl) (fun G O OR hN => ?_)
  have O : OKG E G cX4_load RX4 (rmL 4) [] := O
  have hN : nLG G = 3 := hN
  refine v_aload_n O dX4_load_0 rfl ?_
  refine v_get O dX4_load_1 flX4_19 0 rfl rfl ?_
  refine v_aload_n O dX4_load_4 rfl ?_
  refine v_get O dX4_load_5 flX4_10 0 rfl rfl ?_
  refine v_getN O dX4_load_8 flX4_44 1 rfl rfl ?_
  refine v_VN1 O dX4_load_11 lkX4_87 (x_countColumns hst hl (fun j hj => (hcod j hj).1) n hn1 hn) 2 rfl rfl rfl rfl rfl (by first | exact hkc | exact Nat.zero_le _) (by first | exact hks | exact Nat.zero_le _) ?_
  rw [hc]
  refine v_istore_n O dX4_load_14 (by rw [hN]; decide) ?_
  refine v_iload_n O dX4_load_15 rfl ?_
  refine v_iconst (v := nI 1) O dX4_load_16 (by decide) ?_
  refine v_icmpN_ge (tgt := 30) O dX4_load_17 (by decide) (by omega) (by omega) (fun h => ?_) (fun h => ?_)
  · refine v_iconst (v := nI 0) O dX4_load_30 (by decide) ?_
    refine v_istore_n O dX4_load_31 (by rw [hN]; decide) ?_
    refine v_ord [0, 1, 2] ?_
    refine v_w (w' := (WX E ad n (ldT t 0) (ldD t dr 0) (ldP t pw cod n 0) pe mk len cod fr ls lc u v su sp tot spr mm fs fc fw sc fe)) rfl ?_
    refine lp_load O hN hst hn1 hn ht hl hm hcod ?_ (len / n) 0 (Nat.zero_le _) (Nat.sub_zero _).symm
    refine v_aload_n O dX4_load_63 rfl ?_
    refine v_get O dX4_load_64 flX4_19 0 rfl rfl ?_
    refine v_iconst (v := nI 0) O dX4_load_67 (by decide) ?_
    refine v_putN (ty := .int) O dX4_load_68 flX4_72 ftX3 2 rfl rfl (by decide +kernel) rfl rfl (Nat.le_of_ble_eq_true rfl) ?_
    refine v_aload_n O dX4_load_71 rfl ?_
    refine v_w (w' := (WX E ad n (ldT t (len / n)) (ldD t dr (len / n)) (ldP t pw cod n (len / n)) pe mk (0) cod fr ls lc u v su sp tot spr mm fs fc fw sc fe)) rfl ?_
    refine v_V0 O dX4_load_72 lkX4_52 (x_forget hst) 0 rfl rfl rfl rfl rfl (by first | exact hkc | exact Nat.zero_le _) (by first | exact hks | exact Nat.zero_le _) ?_
    refine v_iload_n O dX4_load_75 rfl ?_
    exact v_ireturn O OR dX4_load_76 (⟨rfl, rfl⟩) (Nat.le_of_ble_eq_true rfl) (Nat.le_of_ble_eq_true rfl)
  · omega
theorem kx_load {E : ET} {ad : Nat → Nat} {n t dr : Nat} {pw pe : Nat → Nat} {mk : Nat → Bool} {len : Nat} {cod : Nat → Nat} {fr : Bool} {ls lc u v : Nat} {su sp : Nat → Nat} {tot spr : Nat → Int64} {mm : Nat} {fs fc fw : Nat → Nat} {sc : Nat → Int64} {fe : Nat → Nat} (hst : E.1.stackTraces = false) (hn1 : 2 ≤ n) (hn : n ≤ 16) (hl : len ≤ 64) (hcod : ∀ j, j < len → cod j < 128) (hx : len = 0 ∨ errAt cod len ≠ len ∨ len % n ≠ 0) : Ctr E yX4_load cdX4_load (rmT 8) [.ref (ad 0)] (WX E ad n t dr pw pe mk len cod fr ls lc u v su sp tot spr mm fs fc fw sc fe) noR (pX sISE (WX E ad n t dr pw pe mk len cod fr ls lc u v su sp tot spr mm fs fc fw sc fe)) 1 6 := by
  have hc : cntC cod len n = 0 := by
    unfold cntC
    split
    · rename_i h9
      have h8 : len = 0 := by omega
      rw [h8, Nat.zero_div]
    · rfl
  refine ctr_of hst (by decide) (Nat.le_of_ble_eq_true rfl) (fun G O OR hN => ?_)
  have O : OKG E G cX4_load RX4 (rmT 8) [] := O
  have hN : nLG G = 3 := hN
  refine v_aload_n O dX4_load_0 rfl ?_
  refine v_get O dX4_load_1 flX4_19 0 rfl rfl ?_
  refine v_aload_n O dX4_load_4 rfl ?_
  refine v_get O dX4_load_5 flX4_10 0 rfl rfl ?_
  refine v_getN O dX4_load_8 flX4_44 1 rfl rfl ?_
  refine v_VN1 O dX4_load_11 lkX4_87 (x_countColumns hst hl hcod n hn1 hn) 2 rfl rfl rfl rfl rfl (by first | exact hkc | exact Nat.zero_le _) (by first | exact hks | exact Nat.zero_le _) ?_
  rw [hc]
  refine v_istore_n O dX4_load_14 (by rw [hN]; decide) ?_
  refine v_iload_n O dX4_load_15 rfl ?_
  refine v_iconst (v := nI 1) O dX4_load_16 (by decide) ?_
  refine v_icmpN_ge (tgt := 30) O dX4_load_17 (by decide) (by omega) (by omega) (fun h => ?_) (fun h => ?_)
  · omega
  · exact v_throw O OR th_75_91 dX4_load_20 dX4_load_23 dX4_load_24 dX4_load_26 dX4_load_29 ⟨rfl, rfl⟩ (by decide) (Nat.le_of_ble_eq_true rfl) (Nat.le_of_ble_eq_true rfl) (Nat.le_of_ble_eq_true rfl) (Nat.le_of_ble_eq_true rfl) (Nat.le_of_ble_eq_true rfl)
theorem lp_inject {E : ET} {G : GT} (O : OKG E G cX4_inject RX4 (rmL 3) []) (hN : nLG G = 7) {ad : Nat → Nat} {n t dr : Nat} {pw pe : Nat → Nat} {mk : Nat → Bool} {len : Nat} {cod : Nat → Nat} {fr : Bool} {ls lc u v : Nat} {su sp : Nat → Nat} {tot spr : Nat → Int64} {mm : Nat} {fs fc fw : Nat → Nat} {sc : Nat → Int64} {fe : Nat → Nat} {d q am : Nat} (hst : E.1.stackTraces = false) (hn1 : 2 ≤ n) (hn : n ≤ 16) (hd : d < n) (ht : t ≤ 48) (hq : q + d < t) (ha : am ≤ 9999) (hp : ∀ j, pw j ≤ 9999) (kk : V E G 0 0 87 [(0, .ref (ad 0)), (4, .int (nI (injS pw n q d am n)))] [] (WX E ad n t dr (injP pw n q d am n) pe mk len cod fr ls lc u v su sp tot spr mm fs fc fw sc fe)) : ∀ j c : Nat, c ≤ n → j = n - c → V E G 0 0 35 [(0, .ref (ad 0)), (1, .int (nI d)), (2, .int (nI q)), (3, .int (nI am)), (4, .int (nI (injS pw n q d am c))), (5, .int (nI c))] [] (WX E ad n t dr (injP pw n q d am c) pe mk len cod fr ls lc u v su sp tot spr mm fs fc fw sc fe) := by
  intro j
  induction j using Nat.strongRecOn with
  | _ j ih =>
    intro c hc hj
    refine v_iload O dX4_inject_35 rfl ?_
    refine v_aload_n O dX4_inject_37 rfl ?_
    refine v_get O dX4_inject_38 flX4_10 0 rfl rfl ?_
    refine v_getN O dX4_inject_41 flX4_44 1 rfl rfl ?_
    refine v_icmpN_ge (tgt := 87) O dX4_inject_44 (by decide) (by omega) (by omega) (fun h => ?_) (fun h => ?_)
    · have e : c = n := by omega
      subst e
      refine v_ord [0, 4] ?_
      exact kk
    · have ho := sof_le (d := d) hn1 h
      refine v_aload_n O dX4_inject_47 rfl ?_
      refine v_get O dX4_inject_48 flX4_10 0 rfl rfl ?_
      refine v_getN O dX4_inject_51 flX4_44 1 rfl rfl ?_
      refine v_iload_n O dX4_inject_54 rfl ?_
      refine v_iload O dX4_inject_55 rfl ?_
      refine v_S1 O dX4_inject_57 lkX4_103 (x_straightOffset hst n hn1 hn d c (by omega) (by omega)) rfl rfl rfl (by first | exact hkc | exact Nat.zero_le _) (by first | exact hks | exact Nat.zero_le _) ?_
      refine v_istore O dX4_inject_60 (by rw [hN]; decide) ?_
      refine v_iload O dX4_inject_62 rfl ?_
      refine v_aload_n O dX4_inject_64 rfl ?_
      refine v_get O dX4_inject_65 flX4_10 0 rfl rfl ?_
      refine v_iload O dX4_inject_68 rfl ?_
      refine v_iload_n O dX4_inject_70 rfl ?_
      refine v_iload O dX4_inject_71 rfl ?_
      refine v_iaddN O dX4_inject_73 ?_
      refine v_iload_n O dX4_inject_74 rfl ?_
      refine v_VN1 O dX4_inject_75 lkX4_107 (x_raise hst c (q + sof n d c) am (by omega) (by omega) ha (injP_le hp c _)) 1 rfl rfl rfl rfl rfl (by first | exact hkc | exact Nat.zero_le _) (by first | exact hks | exact Nat.zero_le _) ?_
      refine v_iaddN O dX4_inject_78 ?_
      refine v_istore O dX4_inject_79 (by rw [hN]; decide) ?_
      refine v_iincN (b := 1) O dX4_inject_81 rfl (by decide) (by rw [hN]; decide) ?_
      refine v_goto (tgt := 35) O dX4_inject_84 (by decide) ?_
      refine v_ord [0, 1, 2, 3, 4, 5] ?_
      exact ih (j - 1) (by omega) (c + 1) (by omega) (by omega)
theorem k_inject {E : ET} {ad : Nat → Nat} {n t dr : Nat} {pw pe : Nat → Nat} {mk : Nat → Bool} {len : Nat} {cod : Nat → Nat} {fr : Bool} {ls lc u v : Nat} {su sp : Nat → Nat} {tot spr : Nat → Int64} {mm : Nat} {fs fc fw : Nat → Nat} {sc : Nat → Int64} {fe : Nat → Nat} (hst : E.1.stackTraces = false) (hn1 : 2 ≤ n) (hn : n ≤ 16) (ht : t ≤ 48) (d q am : Nat) (hd : d < n) (hq : q + 1 ≤ t - d) (ha1 : 1 ≤ am) (ha : am ≤ 9999) (hp : ∀ j, pw j ≤ 9999) : Ctr E yX4_inject cdX4_inject (rmL 3) [.ref (ad 0), .int (nI d), .int (nI q), .int (nI am)] (WX E ad n t dr pw pe mk len cod fr ls lc u v su sp tot spr mm fs fc fw sc fe) (pR (some (.int (nI (injS pw n q d am n)))) (WX E ad n t dr (injP pw n q d am n) pe mk len cod (false) ls lc u v su sp tot spr (0) fs fc fw sc fe)) noX 0 0 := by
  refine ctr_of hst (by decide) (Nat.le_of_ble_eq_true rfl) (fun G O OR hN => ?_)
  have O : OKG E G cX4_inject RX4 (rmL 3) [] := O
  have hN : nLG G = 7 := hN
  refine v_aload_n O dX4_inject_0 rfl ?_
  refine v_iload_n O dX4_inject_1 rfl ?_
  refine v_iload_n O dX4_inject_2 rfl ?_
  refine v_iconst (v := nI 1) O dX4_inject_3 (by decide) ?_
  refine v_V0 O dX4_inject_4 lkX4_97 (r_lines hst hn ht d q 1 hd (by decide) (by decide) hq) 0 rfl rfl rfl rfl rfl (by first | exact hkc | exact Nat.zero_le _) (by first | exact hks | exact Nat.zero_le _) ?_
  refine v_iload_n O dX4_inject_7 rfl ?_
  refine v_iconst (v := nI 1) O dX4_inject_8 (by decide) ?_
  refine v_icmpN_lt (tgt := 19) O dX4_inject_9 (by decide) (by omega) (by omega) (fun h => ?_) (fun h => ?_)
  · omega
  · refine v_iload_n O dX4_inject_12 rfl ?_
    refine v_sipush (v := nI 9999) O dX4_inject_13 (by decide) ?_
    refine v_icmpN_le (tgt := 29) O dX4_inject_16 (by decide) (by omega) (by omega) (fun h2 => ?_) (fun h2 => ?_)
    · refine v_iconst (v := nI 0) O dX4_inject_29 (by decide) ?_
      refine v_istore O dX4_inject_30 (by rw [hN]; decide) ?_
      refine v_iconst (v := nI 0) O dX4_inject_32 (by decide) ?_
      refine v_istore O dX4_inject_33 (by rw [hN]; decide) ?_
      refine v_ord [0, 1, 2, 3, 4, 5] ?_
      refine v_w (w' := (WX E ad n t dr (injP pw n q d am 0) pe mk len cod fr ls lc u v su sp tot spr mm fs fc fw sc fe)) rfl ?_
      refine lp_inject O hN hst hn1 hn hd ht (by omega) ha hp ?_ n 0 (by omega) (by omega)
      refine v_aload_n O dX4_inject_87 rfl ?_
      refine v_V0 O dX4_inject_88 lkX4_52 (x_forget hst) 0 rfl rfl rfl rfl rfl (by first | exact hkc | exact Nat.zero_le _) (by first | exact hks | exact Nat.zero_le _) ?_
      refine v_iload O dX4_inject_91 rfl ?_
      exact v_ireturn O OR dX4_inject_93 (⟨rfl, rfl⟩) (Nat.le_of_ble_eq_true rfl) (Nat.le_of_ble_eq_true rfl)
    · omega
theorem kx_inject1 {E : ET} {ad : Nat → Nat} {n t dr : Nat} {pw pe : Nat → Nat} {mk : Nat → Bool} {len : Nat} {cod : Nat → Nat} {fr : Bool} {ls lc u v : Nat} {su sp : Nat → Nat} {tot spr : Nat → Int64} {mm : Nat} {fs fc fw : Nat → Nat} {sc : Nat → Int64} {fe : Nat → Nat} (hst : E.1.stackTraces = false) (hn : n ≤ 16) (ht : t ≤ 48) (x1 x2 x3 : Int32) (hx : bxB n t x1 x2 1 = false) : Ctr E yX4_inject cdX4_inject (rmT 8) [.ref (ad 0), .int x1, .int x2, .int x3] (WX E ad n t dr pw pe mk len cod fr ls lc u v su sp tot spr mm fs fc fw sc fe) noR (pX sIOB (WX E ad n t dr pw pe mk len cod fr ls lc u v su sp tot spr mm fs fc fw sc fe)) 1 6 := by
  refine ctr_of hst (by decide) (Nat.le_of_ble_eq_true rfl) (fun G O OR hN => ?_)
  have O : OKG E G cX4_inject RX4 (rmT 8) [] := O
  have hN : nLG G = 7 := hN
  refine v_aload_n O dX4_inject_0 rfl ?_
  refine v_iload_n O dX4_inject_1 rfl ?_
  refine v_iload_n O dX4_inject_2 rfl ?_
  refine v_iconst (v := nI 1) O dX4_inject_3 (by decide) ?_
  exact v_callV (mc := 1) (ms := 6) O dX4_inject_4 lkX4_97 (rx_lines hst hn ht x1 x2 1 (by decide) (by decide) hx) 0 rfl rfl rfl rfl rfl kk_no (fun X9 u9 h9 => by obtain ⟨rfl, rfl⟩ := h9; exact vx_pass O OR ⟨rfl, rfl⟩ (Nat.le_of_ble_eq_true rfl) (Nat.le_of_ble_eq_true rfl))
theorem kx_inject2 {E : ET} {ad : Nat → Nat} {n t dr : Nat} {pw pe : Nat → Nat} {mk : Nat → Bool} {len : Nat} {cod : Nat → Nat} {fr : Bool} {ls lc u v : Nat} {su sp : Nat → Nat} {tot spr : Nat → Int64} {mm : Nat} {fs fc fw : Nat → Nat} {sc : Nat → Int64} {fe : Nat → Nat} (hst : E.1.stackTraces = false) (hn : n ≤ 16) (ht : t ≤ 48) (x1 x2 x3 : Int32) (hx : bxB n t x1 x2 1 = true) (h3 : ¬ (nI 1 ≤ x3 ∧ x3 ≤ nI 9999)) : Ctr E yX4_inject cdX4_inject (rmT 8) [.ref (ad 0), .int x1, .int x2, .int x3] (WX E ad n t dr pw pe mk len cod fr ls lc u v su sp tot spr mm fs fc fw sc fe) noR (pX sIAE (WX E ad n t dr pw pe mk len cod fr ls lc u v su sp tot spr mm fs fc fw sc fe)) 1 6 := by
  obtain ⟨d, q, hd, rfl, rfl, hq⟩ := bxB_of hn hx
  refine ctr_of hst (by decide) (Nat.le_of_ble_eq_true rfl) (fun G O OR hN => ?_)
  have O : OKG E G cX4_inject RX4 (rmT 8) [] := O
  have hN : nLG G = 7 := hN
  refine v_aload_n O dX4_inject_0 rfl ?_
  refine v_iload_n O dX4_inject_1 rfl ?_
  refine v_iload_n O dX4_inject_2 rfl ?_
  refine v_iconst (v := nI 1) O dX4_inject_3 (by decide) ?_
  refine v_V0 O dX4_inject_4 lkX4_97 (r_lines hst hn ht d q 1 hd (by decide) (by decide) hq) 0 rfl rfl rfl rfl rfl (by first | exact hkc | exact Nat.zero_le _) (by first | exact hks | exact Nat.zero_le _) ?_
  refine v_iload_n O dX4_inject_7 rfl ?_
  refine v_iconst (v := nI 1) O dX4_inject_8 (by decide) ?_
  refine v_icmp_lt (tgt := 19) O dX4_inject_9 (by decide) (fun h => ?_) (fun h => ?_)
  · exact v_throw O OR th_37_101 dX4_inject_19 dX4_inject_22 dX4_inject_23 dX4_inject_25 dX4_inject_28 ⟨rfl, rfl⟩ (by decide) (Nat.le_of_ble_eq_true rfl) (Nat.le_of_ble_eq_true rfl) (Nat.le_of_ble_eq_true rfl) (Nat.le_of_ble_eq_true rfl) (Nat.le_of_ble_eq_true rfl)
  · refine v_iload_n O dX4_inject_12 rfl ?_
    refine v_sipush (v := nI 9999) O dX4_inject_13 (by decide) ?_
    refine v_icmp_le (tgt := 29) O dX4_inject_16 (by decide) (fun h2 => ?_) (fun h2 => ?_)
    · exact absurd ⟨by rw [fa_lt] at h; rw [fa_le]; omega, h2⟩ h3
    · exact v_throw O OR th_37_101 dX4_inject_19 dX4_inject_22 dX4_inject_23 dX4_inject_25 dX4_inject_28 ⟨rfl, rfl⟩ (by decide) (Nat.le_of_ble_eq_true rfl) (Nat.le_of_ble_eq_true rfl) (Nat.le_of_ble_eq_true rfl) (Nat.le_of_ble_eq_true rfl) (Nat.le_of_ble_eq_true rfl)
theorem k_power {E : ET} {ad : Nat → Nat} {n t dr : Nat} {pw pe : Nat → Nat} {mk : Nat → Bool} {len : Nat} {cod : Nat → Nat} {fr : Bool} {ls lc u v : Nat} {su sp : Nat → Nat} {tot spr : Nat → Int64} {mm : Nat} {fs fc fw : Nat → Nat} {sc : Nat → Int64} {fe : Nat → Nat} (hst : E.1.stackTraces = false) (hn : n ≤ 16) (ht : t ≤ 48) (c q : Nat) (hc : c < n) (hq : q < t) : Ctr E yX4_power cdX4_power (rmL 2) [.ref (ad 0), .int (nI c), .int (nI q)] (WX E ad n t dr pw pe mk len cod fr ls lc u v su sp tot spr mm fs fc fw sc fe) (pR (some (.int (nI (pw (q * 16 + c))))) (WX E ad n t dr pw pe mk len cod fr ls lc u v su sp tot spr mm fs fc fw sc fe)) noX 0 0 := by
  refine ctr_of hst (by decide) (Nat.le_of_ble_eq_true rfl) (fun G O OR hN => ?_)
  have O : OKG E G cX4_power RX4 (rmL 2) [] := O
  have hN : nLG G = 3 := hN
  refine v_aload_n O dX4_power_0 rfl ?_
  refine v_iload_n O dX4_power_1 rfl ?_
  refine v_V0 O dX4_power_2 lkX4_55 (r_channel hst hn c hc) 0 rfl rfl rfl rfl rfl (by first | exact hkc | exact Nat.zero_le _) (by first | exact hks | exact Nat.zero_le _) ?_
  refine v_aload_n O dX4_power_5 rfl ?_
  refine v_iload_n O dX4_power_6 rfl ?_
  refine v_V0 O dX4_power_7 lkX4_110 (r_column hst ht q hq) 0 rfl rfl rfl rfl rfl (by first | exact hkc | exact Nat.zero_le _) (by first | exact hks | exact Nat.zero_le _) ?_
  refine v_aload_n O dX4_power_10 rfl ?_
  refine v_get O dX4_power_11 flX4_10 0 rfl rfl ?_
  refine v_iload_n O dX4_power_14 rfl ?_
  refine v_iload_n O dX4_power_15 rfl ?_
  refine v_VN1 O dX4_power_16 lkX4_113 (c_powerAt hst (c := c) (q := q) (by omega) (by omega)) 1 rfl rfl rfl rfl rfl (by first | exact hkc | exact Nat.zero_le _) (by first | exact hks | exact Nat.zero_le _) ?_
  exact v_ireturn O OR dX4_power_19 (⟨rfl, rfl⟩) (Nat.le_of_ble_eq_true rfl) (Nat.le_of_ble_eq_true rfl)
theorem kx_power {E : ET} {ad : Nat → Nat} {n t dr : Nat} {pw pe : Nat → Nat} {mk : Nat → Bool} {len : Nat} {cod : Nat → Nat} {fr : Bool} {ls lc u v : Nat} {su sp : Nat → Nat} {tot spr : Nat → Int64} {mm : Nat} {fs fc fw : Nat → Nat} {sc : Nat → Int64} {fe : Nat → Nat} (hst : E.1.stackTraces = false) (hn : n ≤ 16) (ht : t ≤ 48) (x y : Int32) (hx : (inB x n && inB y t) = false) : Ctr E yX4_power cdX4_power (rmT 8) [.ref (ad 0), .int x, .int y] (WX E ad n t dr pw pe mk len cod fr ls lc u v su sp tot spr mm fs fc fw sc fe) noR (pX sIOB (WX E ad n t dr pw pe mk len cod fr ls lc u v su sp tot spr mm fs fc fw sc fe)) 1 6 := by
  refine ctr_of hst (by decide) (Nat.le_of_ble_eq_true rfl) (fun G O OR hN => ?_)
  have O : OKG E G cX4_power RX4 (rmT 8) [] := O
  have hN : nLG G = 3 := hN
  refine v_aload_n O dX4_power_0 rfl ?_
  refine v_iload_n O dX4_power_1 rfl ?_
  cases h1 : inB x n with
  | false =>
    exact v_callV (mc := 1) (ms := 6) O dX4_power_2 lkX4_55 (rx_channel hst hn x h1) 0 rfl rfl rfl rfl rfl kk_no (fun X9 u9 h9 => by obtain ⟨rfl, rfl⟩ := h9; exact vx_pass O OR ⟨rfl, rfl⟩ (Nat.le_of_ble_eq_true rfl) (Nat.le_of_ble_eq_true rfl))
  | true =>
    rw [h1, Bool.true_and] at hx
    obtain ⟨c, hc, rfl⟩ := inB_of h1
    refine v_V0 O dX4_power_2 lkX4_55 (r_channel hst hn c hc) 0 rfl rfl rfl rfl rfl (by first | exact hkc | exact Nat.zero_le _) (by first | exact hks | exact Nat.zero_le _) ?_
    refine v_aload_n O dX4_power_5 rfl ?_
    refine v_iload_n O dX4_power_6 rfl ?_
    exact v_callV (mc := 1) (ms := 6) O dX4_power_7 lkX4_110 (rx_column hst ht y hx) 0 rfl rfl rfl rfl rfl kk_no (fun X9 u9 h9 => by obtain ⟨rfl, rfl⟩ := h9; exact vx_pass O OR ⟨rfl, rfl⟩ (Nat.le_of_ble_eq_true rfl) (Nat.le_of_ble_eq_true rfl))
theorem k_count {E : ET} {ad : Nat → Nat} {n t dr : Nat} {pw pe : Nat → Nat} {mk : Nat → Bool} {len : Nat} {cod : Nat → Nat} {fr : Bool} {ls lc u v : Nat} {su sp : Nat → Nat} {tot spr : Nat → Int64} {mm : Nat} {fs fc fw : Nat → Nat} {sc : Nat → Int64} {fe : Nat → Nat} (hst : E.1.stackTraces = false) (hn : n ≤ 16) (a : Nat) (ha : a < 5) : Ctr E yX4_count cdX4_count (rmL 2) [.ref (ad 0), .int (nI a)] (WX E ad n t dr pw pe mk len cod fr ls lc u v su sp tot spr mm fs fc fw sc fe) (pR (some (.int (nI (cnt5 n t dr (cntM mk n) mm a)))) (WX E ad n t dr pw pe mk len cod fr ls lc u v su sp tot spr mm fs fc fw sc fe)) noX 0 0 := by
  refine ctr_of hst (by decide) (Nat.le_of_ble_eq_true rfl) (fun G O OR hN => ?_)
  have O : OKG E G cX4_count RX4 (rmL 2) [] := O
  have hN : nLG G = 2 := hN
  refine v_iload_n O dX4_count_0 rfl ?_
  rcases (show a = 0 ∨ a = 1 ∨ a = 2 ∨ a = 3 ∨ a = 4 by omega) with rfl | rfl | rfl | rfl | rfl
  · refine v_tableIn (off := 35) (tgt := 36) O dX4_count_1 (by decide) (by decide) (by decide) (by decide) ?_
    refine v_aload_n O dX4_count_36 rfl ?_
    refine v_get O dX4_count_37 flX4_10 0 rfl rfl ?_
    refine v_getN O dX4_count_40 flX4_44 1 rfl rfl ?_
    exact v_ireturn O OR dX4_count_43 (⟨rfl, rfl⟩) (Nat.le_of_ble_eq_true rfl) (Nat.le_of_ble_eq_true rfl)
  · refine v_tableIn (off := 43) (tgt := 44) O dX4_count_1 (by decide) (by decide) (by decide) (by decide) ?_
    refine v_aload_n O dX4_count_44 rfl ?_
    refine v_get O dX4_count_45 flX4_10 0 rfl rfl ?_
    refine v_getN O dX4_count_48 flX4_67 1 rfl rfl ?_
    exact v_ireturn O OR dX4_count_51 (⟨rfl, rfl⟩) (Nat.le_of_ble_eq_true rfl) (Nat.le_of_ble_eq_true rfl)
  · refine v_tableIn (off := 51) (tgt := 52) O dX4_count_1 (by decide) (by decide) (by decide) (by decide) ?_
    refine v_aload_n O dX4_count_52 rfl ?_
    refine v_get O dX4_count_53 flX4_10 0 rfl rfl ?_
    refine v_getN O dX4_count_56 flX4_117 1 rfl rfl ?_
    exact v_ireturn O OR dX4_count_59 (⟨rfl, rfl⟩) (Nat.le_of_ble_eq_true rfl) (Nat.le_of_ble_eq_true rfl)
  · refine v_tableIn (off := 59) (tgt := 60) O dX4_count_1 (by decide) (by decide) (by decide) (by decide) ?_
    refine v_aload_n O dX4_count_60 rfl ?_
    refine v_get O dX4_count_61 flX4_10 0 rfl rfl ?_
    refine v_VN1 O dX4_count_64 lkX4_120 (x_countMasked hst hn) 1 rfl rfl rfl rfl rfl (by first | exact hkc | exact Nat.zero_le _) (by first | exact hks | exact Nat.zero_le _) ?_
    exact v_ireturn O OR dX4_count_67 (⟨rfl, rfl⟩) (Nat.le_of_ble_eq_true rfl) (Nat.le_of_ble_eq_true rfl)
  · refine v_tableIn (off := 67) (tgt := 68) O dX4_count_1 (by decide) (by decide) (by decide) (by decide) ?_
    refine v_aload_n O dX4_count_68 rfl ?_
    refine v_get O dX4_count_69 flX4_33 0 rfl rfl ?_
    refine v_getN O dX4_count_72 flX4_123 4 rfl rfl ?_
    exact v_ireturn O OR dX4_count_75 (⟨rfl, rfl⟩) (Nat.le_of_ble_eq_true rfl) (Nat.le_of_ble_eq_true rfl)
theorem kx_count {E : ET} {ad : Nat → Nat} {n t dr : Nat} {pw pe : Nat → Nat} {mk : Nat → Bool} {len : Nat} {cod : Nat → Nat} {fr : Bool} {ls lc u v : Nat} {su sp : Nat → Nat} {tot spr : Nat → Int64} {mm : Nat} {fs fc fw : Nat → Nat} {sc : Nat → Int64} {fe : Nat → Nat} (hst : E.1.stackTraces = false) (x : Int32) (hx : ¬ (nI 0 ≤ x ∧ x ≤ nI 4)) : Ctr E yX4_count cdX4_count (rmT 8) [.ref (ad 0), .int x] (WX E ad n t dr pw pe mk len cod fr ls lc u v su sp tot spr mm fs fc fw sc fe) noR (pX sIAE (WX E ad n t dr pw pe mk len cod fr ls lc u v su sp tot spr mm fs fc fw sc fe)) 1 6 := by
  refine ctr_of hst (by decide) (Nat.le_of_ble_eq_true rfl) (fun G O OR hN => ?_)
  have O : OKG E G cX4_count RX4 (rmT 8) [] := O
  have hN : nLG G = 2 := hN
  refine v_iload_n O dX4_count_0 rfl ?_
  refine v_tableOut (tgt := 76) O dX4_count_1 (by rw [fa_le, fa_le, nI_toInt (by decide), nI_toInt (by decide)] at hx; omega) (by decide) ?_
  exact v_throw O OR th_37_126 dX4_count_76 dX4_count_79 dX4_count_80 dX4_count_82 dX4_count_85 ⟨rfl, rfl⟩ (by decide) (Nat.le_of_ble_eq_true rfl) (Nat.le_of_ble_eq_true rfl) (Nat.le_of_ble_eq_true rfl) (Nat.le_of_ble_eq_true rfl) (Nat.le_of_ble_eq_true rfl)
theorem k_setMasked {E : ET} {ad : Nat → Nat} {n t dr : Nat} {pw pe : Nat → Nat} {mk : Nat → Bool} {len : Nat} {cod : Nat → Nat} {fr : Bool} {ls lc u v : Nat} {su sp : Nat → Nat} {tot spr : Nat → Int64} {mm : Nat} {fs fc fw : Nat → Nat} {sc : Nat → Int64} {fe : Nat → Nat} (hst : E.1.stackTraces = false) (hn : n ≤ 16) (c : Nat) (b : Bool) (hc : c < n) : Ctr E yX4_setMasked cdX4_setMasked (rmL 2) [.ref (ad 0), .int (nI c), .int (bI b)] (WX E ad n t dr pw pe mk len cod fr ls lc u v su sp tot spr mm fs fc fw sc fe) (pR (some (.int (bI (mk c)))) (WX E ad n t dr pw pe (va_up mk c b) len cod (false) ls lc u v su sp tot spr (0) fs fc fw sc fe)) noX 0 0 := by
  refine ctr_of hst (by decide) (Nat.le_of_ble_eq_true rfl) (fun G O OR hN => ?_)
  have O : OKG E G cX4_setMasked RX4 (rmL 2) [] := O
  have hN : nLG G = 4 := hN
  refine v_aload_n O dX4_setMasked_0 rfl ?_
  refine v_iload_n O dX4_setMasked_1 rfl ?_
  refine v_V0 O dX4_setMasked_2 lkX4_55 (r_channel hst hn c hc) 0 rfl rfl rfl rfl rfl (by first | exact hkc | exact Nat.zero_le _) (by first | exact hks | exact Nat.zero_le _) ?_
  refine v_aload_n O dX4_setMasked_5 rfl ?_
  refine v_get O dX4_setMasked_6 flX4_10 0 rfl rfl ?_
  refine v_getN O dX4_setMasked_9 flX4_128 1 rfl rfl ?_
  refine v_iload_n O dX4_setMasked_12 rfl ?_
  refine v_zald O dX4_setMasked_13 7 rfl (by decide) (by omega) ?_
  refine v_istore_n O dX4_setMasked_14 (by rw [hN]; decide) ?_
  refine v_aload_n O dX4_setMasked_15 rfl ?_
  refine v_get O dX4_setMasked_16 flX4_10 0 rfl rfl ?_
  refine v_getN O dX4_setMasked_19 flX4_128 1 rfl rfl ?_
  refine v_iload_n O dX4_setMasked_22 rfl ?_
  refine v_iload_n O dX4_setMasked_23 rfl ?_
  refine v_zastB O dX4_setMasked_24 7 rfl (by decide) (by omega) ?_
  refine v_aload_n O dX4_setMasked_25 rfl ?_
  refine v_w (w' := (WX E ad n t dr pw pe (va_up mk c b) len cod fr ls lc u v su sp tot spr mm fs fc fw sc fe)) rfl ?_
  refine v_V0 O dX4_setMasked_26 lkX4_52 (x_forget hst) 0 rfl rfl rfl rfl rfl (by first | exact hkc | exact Nat.zero_le _) (by first | exact hks | exact Nat.zero_le _) ?_
  refine v_iload_n O dX4_setMasked_29 rfl ?_
  exact v_zreturn O OR dX4_setMasked_30 (bI_nar _) (⟨rfl, rfl⟩) (Nat.le_of_ble_eq_true rfl) (Nat.le_of_ble_eq_true rfl)
theorem kx_setMasked {E : ET} {ad : Nat → Nat} {n t dr : Nat} {pw pe : Nat → Nat} {mk : Nat → Bool} {len : Nat} {cod : Nat → Nat} {fr : Bool} {ls lc u v : Nat} {su sp : Nat → Nat} {tot spr : Nat → Int64} {mm : Nat} {fs fc fw : Nat → Nat} {sc : Nat → Int64} {fe : Nat → Nat} (hst : E.1.stackTraces = false) (hn : n ≤ 16) (x : Int32) (b : Bool) (hx : inB x n = false) : Ctr E yX4_setMasked cdX4_setMasked (rmT 8) [.ref (ad 0), .int x, .int (bI b)] (WX E ad n t dr pw pe mk len cod fr ls lc u v su sp tot spr mm fs fc fw sc fe) noR (pX sIOB (WX E ad n t dr pw pe mk len cod fr ls lc u v su sp tot spr mm fs fc fw sc fe)) 1 6 := by
  refine ctr_of hst (by decide) (Nat.le_of_ble_eq_true rfl) (fun G O OR hN => ?_)
  have O : OKG E G cX4_setMasked RX4 (rmT 8) [] := O
  have hN : nLG G = 4 := hN
  refine v_aload_n O dX4_setMasked_0 rfl ?_
  refine v_iload_n O dX4_setMasked_1 rfl ?_
  exact v_callV (mc := 1) (ms := 6) O dX4_setMasked_2 lkX4_55 (rx_channel hst hn x hx) 0 rfl rfl rfl rfl rfl kk_no (fun X9 u9 h9 => by obtain ⟨rfl, rfl⟩ := h9; exact vx_pass O OR ⟨rfl, rfl⟩ (Nat.le_of_ble_eq_true rfl) (Nat.le_of_ble_eq_true rfl))
theorem k_channelSum {E : ET} {ad : Nat → Nat} {n t dr : Nat} {pw pe : Nat → Nat} {mk : Nat → Bool} {len : Nat} {cod : Nat → Nat} {fr : Bool} {ls lc u v : Nat} {su sp : Nat → Nat} {tot spr : Nat → Int64} {mm : Nat} {fs fc fw : Nat → Nat} {sc : Nat → Int64} {fe : Nat → Nat} (hst : E.1.stackTraces = false) (hn : n ≤ 16) (ht : t ≤ 48) (c : Nat) (hc : c < n) : Ctr E yX4_channelSum cdX4_channelSum (rmL 3) [.ref (ad 0), .int (nI c)] (WX E ad n t dr pw pe mk len cod fr ls lc u v su sp tot spr mm fs fc fw sc fe) (pR (some (.int (nI (chs pw c t)))) (WX E ad n t dr pw pe mk len cod fr ls lc u v su sp tot spr mm fs fc fw sc fe)) noX 0 0 := by
  refine ctr_of hst (by decide) (Nat.le_of_ble_eq_true rfl) (fun G O OR hN => ?_)
  have O : OKG E G cX4_channelSum RX4 (rmL 3) [] := O
  have hN : nLG G = 2 := hN
  refine v_aload_n O dX4_channelSum_0 rfl ?_
  refine v_iload_n O dX4_channelSum_1 rfl ?_
  refine v_V0 O dX4_channelSum_2 lkX4_55 (r_channel hst hn c hc) 0 rfl rfl rfl rfl rfl (by first | exact hkc | exact Nat.zero_le _) (by first | exact hks | exact Nat.zero_le _) ?_
  refine v_aload_n O dX4_channelSum_5 rfl ?_
  refine v_get O dX4_channelSum_6 flX4_10 0 rfl rfl ?_
  refine v_iload_n O dX4_channelSum_9 rfl ?_
  refine v_VN1 O dX4_channelSum_10 lkX4_132 (c_sumOfChannel hst (by omega) ht) 1 rfl rfl rfl rfl rfl (by first | exact hkc | exact Nat.zero_le _) (by first | exact hks | exact Nat.zero_le _) ?_
  exact v_ireturn O OR dX4_channelSum_13 (⟨rfl, rfl⟩) (Nat.le_of_ble_eq_true rfl) (Nat.le_of_ble_eq_true rfl)
theorem kx_channelSum {E : ET} {ad : Nat → Nat} {n t dr : Nat} {pw pe : Nat → Nat} {mk : Nat → Bool} {len : Nat} {cod : Nat → Nat} {fr : Bool} {ls lc u v : Nat} {su sp : Nat → Nat} {tot spr : Nat → Int64} {mm : Nat} {fs fc fw : Nat → Nat} {sc : Nat → Int64} {fe : Nat → Nat} (hst : E.1.stackTraces = false) (hn : n ≤ 16) (x : Int32) (hx : inB x n = false) : Ctr E yX4_channelSum cdX4_channelSum (rmT 8) [.ref (ad 0), .int x] (WX E ad n t dr pw pe mk len cod fr ls lc u v su sp tot spr mm fs fc fw sc fe) noR (pX sIOB (WX E ad n t dr pw pe mk len cod fr ls lc u v su sp tot spr mm fs fc fw sc fe)) 1 6 := by
  refine ctr_of hst (by decide) (Nat.le_of_ble_eq_true rfl) (fun G O OR hN => ?_)
  have O : OKG E G cX4_channelSum RX4 (rmT 8) [] := O
  have hN : nLG G = 2 := hN
  refine v_aload_n O dX4_channelSum_0 rfl ?_
  refine v_iload_n O dX4_channelSum_1 rfl ?_
  exact v_callV (mc := 1) (ms := 6) O dX4_channelSum_2 lkX4_55 (rx_channel hst hn x hx) 0 rfl rfl rfl rfl rfl kk_no (fun X9 u9 h9 => by obtain ⟨rfl, rfl⟩ := h9; exact vx_pass O OR ⟨rfl, rfl⟩ (Nat.le_of_ble_eq_true rfl) (Nat.le_of_ble_eq_true rfl))
