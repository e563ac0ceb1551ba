def stX (f : Nat → Nat) (n : Nat) (mk : Nat → Bool) : Nat → (Nat → Bool) × Nat
  | 0 => (mk, 0)
  | k + 1 => match bst (stX f n mk k).1 f n with
    | none => stX f n mk k
    | some b => (va_up (stX f n mk k).1 b true, (stX f n mk k).2 ||| 2 ^ b)
theorem stX_stop {f : Nat → Nat} {n : Nat} {mk : Nat → Bool} {k : Nat} (h : bst (stX f n mk k).1 f n = none) : ∀ j, stX f n mk (k + j) = stX f n mk k
  | 0 => rfl
  | j + 1 => by
    have ih := stX_stop h j
    show stX f n mk (k + j + 1) = stX f n mk k
    rw [stX, ih, h]
theorem lp_strike {E : ET} {G : GT} (O : OKG E G cX4_strike RX4 (rmL 4) []) (hN : nLG G = 5) {ad : Nat → Nat} {n t dr : Nat} {pw pe : Nat → Nat} {mk : Nat → Bool} {len : Nat} {cod : Nat → Nat} {fr : Bool} {ls lc u v : Nat} {su sp : Nat → Nat} {tot spr : Nat → Int64} {mm : Nat} {fs fc fw : Nat → Nat} {sc : Nat → Int64} {fe : Nat → Nat} {many : Nat} (hst : E.1.stackTraces = false) (hn : n ≤ 16) (hmany : many ≤ 16) (ht : t ≤ 48) (hch : ∀ c, chs pw c t < 2 ^ 30) (kk : V E G 0 0 76 [(0, .ref (ad 0)), (2, .int (nI (stX (fun c => chs pw c t) n mk many).2))] [] (WX E ad n t dr pw pe ((stX (fun c => chs pw c t) n mk many).1) len cod fr ls lc u v su sp tot spr mm fs fc fw sc fe)) : ∀ j k : Nat, k ≤ many → j = many - k → V E G 0 0 29 [(0, .ref (ad 0)), (1, .int (nI many)), (2, .int (nI (stX (fun c => chs pw c t) n mk k).2)), (3, .int (nI k))] [] (WX E ad n t dr pw pe ((stX (fun c => chs pw c t) n mk k).1) len cod fr ls lc u v su sp tot spr mm fs fc fw sc fe) := by
  intro j
  induction j using Nat.strongRecOn with
  | _ j ih =>
    intro k hk hj
    refine v_iload_n O dX4_strike_29 rfl ?_
    refine v_iload_n O dX4_strike_30 rfl ?_
    refine v_icmpN_ge (tgt := 76) O dX4_strike_31 (by decide) (by omega) (by omega) (fun h => ?_) (fun h => ?_)
    · have e : k = many := by omega
      subst e
      refine v_ord [0, 2] ?_
      exact kk
    · refine v_aload_n O dX4_strike_34 rfl ?_
      refine v_get O dX4_strike_35 flX4_10 0 rfl rfl ?_
      refine v_VN1 O dX4_strike_38 lkX4_137 (x_loudest hst hn ht hch) 1 rfl rfl rfl rfl rfl (by first | exact hkc | exact Nat.zero_le _) (by first | exact hks | exact Nat.zero_le _) ?_
      refine v_istore O dX4_strike_41 (by rw [hN]; decide) ?_
      refine v_iload O dX4_strike_43 rfl ?_
      refine v_iconst (v := -1) O dX4_strike_45 (by decide) ?_
      cases hb : bst (stX (fun c => chs pw c t) n mk k).1 (fun c => chs pw c t) n with
      | none =>
        have e := stX_stop hb (many - k)
        rw [show k + (many - k) = many by omega] at e
        rw [e] at kk
        refine v_icmp_ne (tgt := 52) O dX4_strike_46 (by decide) (fun h2 => ?_) (fun h2 => ?_)
        · exact absurd rfl h2
        · refine v_goto (tgt := 76) O dX4_strike_49 (by decide) ?_
          refine v_ord [0, 2] ?_
          exact kk
      | some b =>
        have hbl := bst_lt hb
        have e : stX (fun c => chs pw c t) n mk (k + 1) = (va_up (stX (fun c => chs pw c t) n mk k).1 b true, (stX (fun c => chs pw c t) n mk k).2 ||| 2 ^ b) := by rw [stX, hb]
        refine v_icmp_ne (tgt := 52) O dX4_strike_46 (by decide) (fun h2 => ?_) (fun h2 => ?_)
        · refine v_aload_n O dX4_strike_52 rfl ?_
          refine v_get O dX4_strike_53 flX4_10 0 rfl rfl ?_
          refine v_getN O dX4_strike_56 flX4_128 1 rfl rfl ?_
          refine v_iload O dX4_strike_59 rfl ?_
          refine v_iconst (v := bI true) O dX4_strike_61 (by decide) ?_
          refine v_zastB O dX4_strike_62 7 rfl (by decide) (by omega) ?_
          refine v_iload_n O dX4_strike_63 rfl ?_
          refine v_iconst (v := nI 1) O dX4_strike_64 (by decide) ?_
          refine v_iload O dX4_strike_65 rfl ?_
          refine v_ishl1 O dX4_strike_67 (by omega) ?_
          refine v_iorN O dX4_strike_68 ?_
          refine v_istore_n O dX4_strike_69 (by rw [hN]; decide) ?_
          refine v_iincN (b := 1) O dX4_strike_70 rfl (by decide) (by rw [hN]; decide) ?_
          refine v_goto (tgt := 29) O dX4_strike_73 (by decide) ?_
          refine v_ord [0, 1, 2, 3] ?_
          have hh := ih (j - 1) (by omega) (k + 1) (by omega) (by omega)
          rw [e] at hh
          exact hh
        · exact absurd h2 (bsI_n (by omega))
theorem k_strike {E : ET} {ad : Nat → Nat} {n t dr : Nat} {pw pe : Nat → Nat} {mk : Nat → Bool} {len : Nat} {cod : Nat → Nat} {fr : Bool} {ls lc u v : Nat} {su sp : Nat → Nat} {tot spr : Nat → Int64} {mm : Nat} {fs fc fw : Nat → Nat} {sc : Nat → Int64} {fe : Nat → Nat} (hst : E.1.stackTraces = false) (hn : n ≤ 16) (ht : t ≤ 48) (hch : ∀ c, chs pw c t < 2 ^ 30) (many : Nat) (hmany : many ≤ n) : Ctr E yX4_strike cdX4_strike (rmL 4) [.ref (ad 0), .int (nI many)] (WX E ad n t dr pw pe mk len cod fr ls lc u v su sp tot spr mm fs fc fw sc fe) (pR (some (.int (nI (stX (fun c => chs pw c t) n mk many).2))) (WX E ad n t dr pw pe ((stX (fun c => chs pw c t) n mk many).1) len cod (false) ls lc u v su sp tot spr (0) fs fc fw sc fe)) noX 0 0 := by
  refine ctr_of hst (by decide) (Nat.le_of_ble_eq_true rfl) (fun G O OR hN => ?_)
  have O : OKG E G cX4_strike RX4 (rmL 4) [] := O
  have hN : nLG G = 5 := hN
  refine v_iload_n O dX4_strike_0 rfl ?_
  refine v_if_lt (tgt := 15) O dX4_strike_1 (by decide) (fun h => ?_) (fun h => ?_)
  · exact absurd h (nI_pos (by omega))
  · refine v_iload_n O dX4_strike_4 rfl ?_
    refine v_aload_n O dX4_strike_5 rfl ?_
    refine v_get O dX4_strike_6 flX4_10 0 rfl rfl ?_
    refine v_getN O dX4_strike_9 flX4_44 1 rfl rfl ?_
    refine v_icmpN_le (tgt := 25) O dX4_strike_12 (by decide) (by omega) (by omega) (fun h2 => ?_) (fun h2 => ?_)
    · refine v_iconst (v := nI 0) O dX4_strike_25 (by decide) ?_
      refine v_istore_n O dX4_strike_26 (by rw [hN]; decide) ?_
      refine v_iconst (v := nI 0) O dX4_strike_27 (by decide) ?_
      refine v_istore_n O dX4_strike_28 (by rw [hN]; decide) ?_
      refine v_ord [0, 1, 2, 3] ?_
      refine v_w (w' := (WX E ad n t dr pw pe ((stX (fun c => chs pw c t) n mk 0).1) len cod fr ls lc u v su sp tot spr mm fs fc fw sc fe)) rfl ?_
      refine lp_strike O hN hst hn (by omega) ht hch ?_ many 0 (by omega) (by omega)
      refine v_aload_n O dX4_strike_76 rfl ?_
      refine v_V0 O dX4_strike_77 lkX4_52 (x_forget hst) 0 rfl rfl rfl rfl rfl (by first | exact hkc | exact Nat.zero_le _) (by first | exact hks | exact Nat.zero_le _) ?_
      refine v_iload_n O dX4_strike_80 rfl ?_
      exact v_ireturn O OR dX4_strike_81 (⟨rfl, rfl⟩) (Nat.le_of_ble_eq_true rfl) (Nat.le_of_ble_eq_true rfl)
    · omega
theorem kx_strike {E : ET} {ad : Nat → Nat} {n t dr : Nat} {pw pe : Nat → Nat} {mk : Nat → Bool} {len : Nat} {cod : Nat → Nat} {fr : Bool} {ls lc u v : Nat} {su sp : Nat → Nat} {tot spr : Nat → Int64} {mm : Nat} {fs fc fw : Nat → Nat} {sc : Nat → Int64} {fe : Nat → Nat} (hst : E.1.stackTraces = false) (hn : n ≤ 16) (x : Int32) (hx : ¬ (nI 0 ≤ x ∧ x ≤ nI n)) : Ctr E yX4_strike cdX4_strike (rmT 8) [.ref (ad 0), .int x] (WX E ad n t dr pw pe mk len cod fr ls lc u v su sp tot spr mm fs fc fw sc fe) noR (pX sIAE (WX E ad n t dr pw pe mk len cod fr ls lc u v su sp tot spr mm fs fc fw sc fe)) 1 6 := by
  refine ctr_of hst (by decide) (Nat.le_of_ble_eq_true rfl) (fun G O OR hN => ?_)
  have O : OKG E G cX4_strike RX4 (rmT 8) [] := O
  have hN : nLG G = 5 := hN
  refine v_iload_n O dX4_strike_0 rfl ?_
  refine v_if_lt (tgt := 15) O dX4_strike_1 (by decide) (fun h => ?_) (fun h => ?_)
  · exact v_throw O OR th_37_135 dX4_strike_15 dX4_strike_18 dX4_strike_19 dX4_strike_21 dX4_strike_24 ⟨rfl, rfl⟩ (by decide) (Nat.le_of_ble_eq_true rfl) (Nat.le_of_ble_eq_true rfl) (Nat.le_of_ble_eq_true rfl) (Nat.le_of_ble_eq_true rfl) (Nat.le_of_ble_eq_true rfl)
  · refine v_iload_n O dX4_strike_4 rfl ?_
    refine v_aload_n O dX4_strike_5 rfl ?_
    refine v_get O dX4_strike_6 flX4_10 0 rfl rfl ?_
    refine v_getN O dX4_strike_9 flX4_44 1 rfl rfl ?_
    refine v_icmp_le (tgt := 25) O dX4_strike_12 (by decide) (fun h2 => ?_) (fun h2 => ?_)
    · exact absurd ⟨by rw [lt0_I] at h; rw [fa_le, nI_toInt (by decide)]; omega, h2⟩ hx
    · exact v_throw O OR th_37_135 dX4_strike_15 dX4_strike_18 dX4_strike_19 dX4_strike_21 dX4_strike_24 ⟨rfl, rfl⟩ (by decide) (Nat.le_of_ble_eq_true rfl) (Nat.le_of_ble_eq_true rfl) (Nat.le_of_ble_eq_true rfl) (Nat.le_of_ble_eq_true rfl) (Nat.le_of_ble_eq_true rfl)
theorem k_offset {E : ET} {ad : Nat → Nat} {n t dr : Nat} {pw pe : Nat → Nat} {mk : Nat → Bool} {len : Nat} {cod : Nat → Nat} {fr : Bool} {ls lc u v : Nat} {su sp : Nat → Nat} {tot spr : Nat → Int64} {mm : Nat} {fs fc fw : Nat → Nat} {sc : Nat → Int64} {fe : Nat → Nat} {K : Nat} (hst : E.1.stackTraces = false) (hK : 1 ≤ K) (hK4 : K ≤ 4) (hn : n = 2 ^ K) (d c : Nat) (s : Bool) (hd : d < n) (hc : c < n) : Ctr E yX4_offset cdX4_offset (rmL 2) [.ref (ad 0), .int (nI d), .int (nI c), .int (bI s)] (WX E ad n t dr pw pe mk len cod fr ls lc u v su sp tot spr mm fs fc fw sc fe) (pR (some (.int (nI (oby K n s d c)))) (WX E ad n t dr pw pe mk len cod fr ls lc u v su sp tot spr mm fs fc fw sc fe)) noX 0 0 := by
  obtain ⟨g1, g2⟩ := two_le hn hK hK4
  refine ctr_of hst (by decide) (Nat.le_of_ble_eq_true rfl) (fun G O OR hN => ?_)
  have O : OKG E G cX4_offset RX4 (rmL 2) [] := O
  have hN : nLG G = 4 := hN
  refine v_aload_n O dX4_offset_0 rfl ?_
  refine v_iload_n O dX4_offset_1 rfl ?_
  refine v_V0 O dX4_offset_2 lkX4_140 (r_slope hst g2 d hd) 0 rfl rfl rfl rfl rfl (by first | exact hkc | exact Nat.zero_le _) (by first | exact hks | exact Nat.zero_le _) ?_
  refine v_aload_n O dX4_offset_5 rfl ?_
  refine v_iload_n O dX4_offset_6 rfl ?_
  refine v_V0 O dX4_offset_7 lkX4_55 (r_channel hst g2 c hc) 0 rfl rfl rfl rfl rfl (by first | exact hkc | exact Nat.zero_le _) (by first | exact hks | exact Nat.zero_le _) ?_
  refine v_iload_n O dX4_offset_10 rfl ?_
  refine v_ifB_eq (tgt := 29) O dX4_offset_11 (by decide) (fun h => ?_) (fun h => ?_)
  · refine v_aload_n O dX4_offset_29 rfl ?_
    refine v_get O dX4_offset_30 flX4_10 0 rfl rfl ?_
    refine v_getN O dX4_offset_33 flX4_44 1 rfl rfl ?_
    refine v_iload_n O dX4_offset_36 rfl ?_
    refine v_iload_n O dX4_offset_37 rfl ?_
    refine v_S1 O dX4_offset_38 lkX4_143 (x_treeOffset hst hK4 n hn d c (by omega) (by omega)) rfl rfl rfl (by first | exact hkc | exact Nat.zero_le _) (by first | exact hks | exact Nat.zero_le _) ?_
    exact v_ireturn O OR dX4_offset_41 (⟨by unfold oby; rw [h]; rfl, rfl⟩) (Nat.le_of_ble_eq_true rfl) (Nat.le_of_ble_eq_true rfl)
  · refine v_aload_n O dX4_offset_14 rfl ?_
    refine v_get O dX4_offset_15 flX4_10 0 rfl rfl ?_
    refine v_getN O dX4_offset_18 flX4_44 1 rfl rfl ?_
    refine v_iload_n O dX4_offset_21 rfl ?_
    refine v_iload_n O dX4_offset_22 rfl ?_
    refine v_S1 O dX4_offset_23 lkX4_103 (x_straightOffset hst n g1 g2 d c (by omega) (by omega)) rfl rfl rfl (by first | exact hkc | exact Nat.zero_le _) (by first | exact hks | exact Nat.zero_le _) ?_
    refine v_goto (tgt := 41) O dX4_offset_26 (by decide) ?_
    exact v_ireturn O OR dX4_offset_41 (⟨by unfold oby; rw [h]; rfl, rfl⟩) (Nat.le_of_ble_eq_true rfl) (Nat.le_of_ble_eq_true rfl)
theorem kx_offset {E : ET} {ad : Nat → Nat} {n t dr : Nat} {pw pe : Nat → Nat} {mk : Nat → Bool} {len : Nat} {cod : Nat → Nat} {fr : Bool} {ls lc u v : Nat} {su sp : Nat → Nat} {tot spr : Nat → Int64} {mm : Nat} {fs fc fw : Nat → Nat} {sc : Nat → Int64} {fe : Nat → Nat} (hst : E.1.stackTraces = false) (hn : n ≤ 16) (x y : Int32) (s : Bool) (hx : (inB x n && inB y n) = false) : Ctr E yX4_offset cdX4_offset (rmT 8) [.ref (ad 0), .int x, .int y, .int (bI s)] (WX E ad n t dr pw pe mk len cod fr ls lc u v su sp tot spr mm fs fc fw sc fe) noR (pX sIOB (WX E ad n t dr pw pe mk len cod fr ls lc u v su sp tot spr mm fs fc fw sc fe)) 1 6 := by
  refine ctr_of hst (by decide) (Nat.le_of_ble_eq_true rfl) (fun G O OR hN => ?_)
  have O : OKG E G cX4_offset RX4 (rmT 8) [] := O
  have hN : nLG G = 4 := hN
  refine v_aload_n O dX4_offset_0 rfl ?_
  refine v_iload_n O dX4_offset_1 rfl ?_
  cases h1 : inB x n with
  | false =>
    exact v_callV (mc := 1) (ms := 6) O dX4_offset_2 lkX4_140 (rx_slope hst hn x h1) 0 rfl rfl rfl rfl rfl kk_no (fun X9 u9 h9 => by obtain ⟨rfl, rfl⟩ := h9; exact vx_pass O OR ⟨rfl, rfl⟩ (Nat.le_of_ble_eq_true rfl) (Nat.le_of_ble_eq_true rfl))
  | true =>
    rw [h1, Bool.true_and] at hx
    obtain ⟨c, hc, rfl⟩ := inB_of h1
    refine v_V0 O dX4_offset_2 lkX4_140 (r_slope hst hn c hc) 0 rfl rfl rfl rfl rfl (by first | exact hkc | exact Nat.zero_le _) (by first | exact hks | exact Nat.zero_le _) ?_
    refine v_aload_n O dX4_offset_5 rfl ?_
    refine v_iload_n O dX4_offset_6 rfl ?_
    exact v_callV (mc := 1) (ms := 6) O dX4_offset_7 lkX4_55 (rx_channel hst hn y hx) 0 rfl rfl rfl rfl rfl kk_no (fun X9 u9 h9 => by obtain ⟨rfl, rfl⟩ := h9; exact vx_pass O OR ⟨rfl, rfl⟩ (Nat.le_of_ble_eq_true rfl) (Nat.le_of_ble_eq_true rfl))
theorem k_bend {E : ET} {ad : Nat → Nat} {n t dr : Nat} {pw pe : Nat → Nat} {mk : Nat → Bool} {len : Nat} {cod : Nat → Nat} {fr : Bool} {ls lc u v : Nat} {su sp : Nat → Nat} {tot spr : Nat → Int64} {mm : Nat} {fs fc fw : Nat → Nat} {sc : Nat → Int64} {fe : Nat → Nat} {K : Nat} (hst : E.1.stackTraces = false) (hK : 1 ≤ K) (hK4 : K ≤ 4) (hn : n = 2 ^ K) (d : Nat) (hd : d < n) : Ctr E yX4_bend cdX4_bend (rmL 3) [.ref (ad 0), .int (nI d)] (WX E ad n t dr pw pe mk len cod fr ls lc u v su sp tot spr mm fs fc fw sc fe) (pR (some (.int (nI (bnd K n d n)))) (WX E ad n t dr pw pe mk len cod fr ls lc u v su sp tot spr mm fs fc fw sc fe)) noX 0 0 := by
  obtain ⟨g1, g2⟩ := two_le hn hK hK4
  refine ctr_of hst (by decide) (Nat.le_of_ble_eq_true rfl) (fun G O OR hN => ?_)
  have O : OKG E G cX4_bend RX4 (rmL 3) [] := O
  have hN : nLG G = 2 := hN
  refine v_aload_n O dX4_bend_0 rfl ?_
  refine v_iload_n O dX4_bend_1 rfl ?_
  refine v_V0 O dX4_bend_2 lkX4_140 (r_slope hst g2 d hd) 0 rfl rfl rfl rfl rfl (by first | exact hkc | exact Nat.zero_le _) (by first | exact hks | exact Nat.zero_le _) ?_
  refine v_aload_n O dX4_bend_5 rfl ?_
  refine v_get O dX4_bend_6 flX4_10 0 rfl rfl ?_
  refine v_getN O dX4_bend_9 flX4_44 1 rfl rfl ?_
  refine v_iload_n O dX4_bend_12 rfl ?_
  refine v_S1 O dX4_bend_13 lkX4_146 (x_greatestBend hst hK hK4 n hn d (by omega)) rfl rfl rfl (by first | exact hkc | exact Nat.zero_le _) (by first | exact hks | exact Nat.zero_le _) ?_
  exact v_ireturn O OR dX4_bend_16 (⟨rfl, rfl⟩) (Nat.le_of_ble_eq_true rfl) (Nat.le_of_ble_eq_true rfl)
theorem kx_bend {E : ET} {ad : Nat → Nat} {n t dr : Nat} {pw pe : Nat → Nat} {mk : Nat → Bool} {len : Nat} {cod : Nat → Nat} {fr : Bool} {ls lc u v : Nat} {su sp : Nat → Nat} {tot spr : Nat → Int64} {mm : Nat} {fs fc fw : Nat → Nat} {sc : Nat → Int64} {fe : Nat → Nat} (hst : E.1.stackTraces = false) (hn : n ≤ 16) (x : Int32) (hx : inB x n = false) : Ctr E yX4_bend cdX4_bend (rmT 8) [.ref (ad 0), .int x] (WX E ad n t dr pw pe mk len cod fr ls lc u v su sp tot spr mm fs fc fw sc fe) noR (pX sIOB (WX E ad n t dr pw pe mk len cod fr ls lc u v su sp tot spr mm fs fc fw sc fe)) 1 6 := by
  refine ctr_of hst (by decide) (Nat.le_of_ble_eq_true rfl) (fun G O OR hN => ?_)
  have O : OKG E G cX4_bend RX4 (rmT 8) [] := O
  have hN : nLG G = 2 := hN
  refine v_aload_n O dX4_bend_0 rfl ?_
  refine v_iload_n O dX4_bend_1 rfl ?_
  exact v_callV (mc := 1) (ms := 6) O dX4_bend_2 lkX4_140 (rx_slope hst hn x hx) 0 rfl rfl rfl rfl rfl kk_no (fun X9 u9 h9 => by obtain ⟨rfl, rfl⟩ := h9; exact vx_pass O OR ⟨rfl, rfl⟩ (Nat.le_of_ble_eq_true rfl) (Nat.le_of_ble_eq_true rfl))
/-- the class's world behind a look at fresh lines -/
def Frs (E : ET) (ad : Nat → Nat) (K n t dr : Nat) (pw pe : Nat → Nat) (mk : Nat → Bool) (len : Nat) (cod : Nat → Nat) (mm : Nat) (fs fc fw : Nat → Nat) (sc : Nat → Int64) (fe : Nat → Nat) (w' : va_W) : Prop := ∃ u v su sp tot spr, LnOK mk pw K n t su tot spr ∧ w' = (WX E ad n t dr pw pe mk len cod (true) (n) (t) u v su sp tot spr mm fs fc fw sc fe)
theorem k_lineSum {E : ET} {ad : Nat → Nat} {n t dr : Nat} {pw pe : Nat → Nat} {mk : Nat → Bool} {len : Nat} {cod : Nat → Nat} {fr : Bool} {ls lc u v : Nat} {su sp : Nat → Nat} {tot spr : Nat → Int64} {mm : Nat} {fs fc fw : Nat → Nat} {sc : Nat → Int64} {fe : Nat → Nat} {K : Nat} (hst : E.1.stackTraces = false) (hK : 1 ≤ K) (hK4 : K ≤ 4) (hn : n = 2 ^ K) (ht : t ≤ 48) (hfr : fr = true → ls = n ∧ lc = t ∧ LnOK mk pw K n t su tot spr) (d q : Nat) (hd : d < n) (hq : q + 1 ≤ t - d) : Ctr E yX4_lineSum cdX4_lineSum (rmL 5) [.ref (ad 0), .int (nI d), .int (nI q), .int (bI false)] (WX E ad n t dr pw pe mk len cod fr ls lc u v su sp tot spr mm fs fc fw sc fe) (fun r w' => r = some (.int (nI (lin mk pw n (oby K n false d) q))) ∧ Frs E ad K n t dr pw pe mk len cod mm fs fc fw sc fe w') noX 0 0 := by
  obtain ⟨g1, g2⟩ := two_le hn hK hK4
  refine ctr_of hst (by decide) (Nat.le_of_ble_eq_true rfl) (fun G O OR hN => ?_)
  have O : OKG E G cX4_lineSum RX4 (rmL 5) [] := O
  have hN : nLG G = 4 := hN
  refine v_aload_n O dX4_lineSum_0 rfl ?_
  refine v_iload_n O dX4_lineSum_1 rfl ?_
  refine v_iload_n O dX4_lineSum_2 rfl ?_
  refine v_iconst (v := nI 1) O dX4_lineSum_3 (by decide) ?_
  refine v_V0 O dX4_lineSum_4 lkX4_97 (r_lines hst g2 ht d q 1 hd (by decide) (by decide) hq) 0 rfl rfl rfl rfl rfl (by first | exact hkc | exact Nat.zero_le _) (by first | exact hks | exact Nat.zero_le _) ?_
  refine v_iload_n O dX4_lineSum_7 rfl ?_
  refine v_ifB_eq (tgt := 18) O dX4_lineSum_8 (by decide) (fun h => ?_) (fun h => ?_)
  · refine v_aload_n O dX4_lineSum_18 rfl ?_
    refine v_get O dX4_lineSum_19 flX4_26 0 rfl rfl ?_
    refine v_aload_n O dX4_lineSum_22 rfl ?_
    refine v_get O dX4_lineSum_23 flX4_10 0 rfl rfl ?_
    refine v_callVN (mc := 0) (ms := 0) O dX4_lineSum_26 lkX4_152 (x_refresh hst hK hK4 hn ht hfr) 3 rfl rfl rfl rfl rfl (fun r9 u9 h9 => ?_) kx_no
    obtain ⟨rfl, u, v, su, sp, tot, spr, hL, rfl⟩ := h9
    refine v_aload_n O dX4_lineSum_29 rfl ?_
    refine v_get O dX4_lineSum_30 flX4_26 0 rfl rfl ?_
    refine v_iload_n O dX4_lineSum_33 rfl ?_
    refine v_iload_n O dX4_lineSum_34 rfl ?_
    refine v_VN1 O dX4_lineSum_35 lkX4_156 (x_sumAt hst d q (by omega) (by omega)) 3 rfl rfl rfl rfl rfl (by first | exact hkc | exact Nat.zero_le _) (by first | exact hks | exact Nat.zero_le _) ?_
    exact v_ireturn O OR dX4_lineSum_38 (⟨by rw [hL.1 d q hd (by omega)]; rfl, u, v, su, sp, tot, spr, hL, rfl⟩) (Nat.le_of_ble_eq_true rfl) (Nat.le_of_ble_eq_true rfl)
  · cases h
theorem k_lineSumS {E : ET} {ad : Nat → Nat} {n t dr : Nat} {pw pe : Nat → Nat} {mk : Nat → Bool} {len : Nat} {cod : Nat → Nat} {fr : Bool} {ls lc u v : Nat} {su sp : Nat → Nat} {tot spr : Nat → Int64} {mm : Nat} {fs fc fw : Nat → Nat} {sc : Nat → Int64} {fe : Nat → Nat} {K : Nat} (hst : E.1.stackTraces = false) (hK : 1 ≤ K) (hK4 : K ≤ 4) (hn : n = 2 ^ K) (ht : t ≤ 48) (d q : Nat) (hd : d < n) (hq : q + 1 ≤ t - d) : Ctr E yX4_lineSum cdX4_lineSum (rmL 5) [.ref (ad 0), .int (nI d), .int (nI q), .int (bI true)] (WX E ad n t dr pw pe mk len cod fr ls lc u v su sp tot spr mm fs fc fw sc fe) (pR (some (.int (nI (lin mk pw n (oby K n true d) q)))) (WX E ad n t dr pw pe mk len cod fr ls lc u v su sp tot spr mm fs fc fw sc fe)) noX 0 0 := by
  obtain ⟨g1, g2⟩ := two_le hn hK hK4
  refine ctr_of hst (by decide) (Nat.le_of_ble_eq_true rfl) (fun G O OR hN => ?_)
  have O : OKG E G cX4_lineSum RX4 (rmL 5) [] := O
  have hN : nLG G = 4 := hN
  refine v_aload_n O dX4_lineSum_0 rfl ?_
  refine v_iload_n O dX4_lineSum_1 rfl ?_
  refine v_iload_n O dX4_lineSum_2 rfl ?_
  refine v_iconst (v := nI 1) O dX4_lineSum_3 (by decide) ?_
  refine v_V0 O dX4_lineSum_4 lkX4_97 (r_lines hst g2 ht d q 1 hd (by decide) (by decide) hq) 0 rfl rfl rfl rfl rfl (by first | exact hkc | exact Nat.zero_le _) (by first | exact hks | exact Nat.zero_le _) ?_
  refine v_iload_n O dX4_lineSum_7 rfl ?_
  refine v_ifB_eq (tgt := 18) O dX4_lineSum_8 (by decide) (fun h => ?_) (fun h => ?_)
  · cases h
  · refine v_aload_n O dX4_lineSum_11 rfl ?_
    refine v_iload_n O dX4_lineSum_12 rfl ?_
    refine v_iload_n O dX4_lineSum_13 rfl ?_
    refine v_V1 O dX4_lineSum_14 lkX4_149 (x_straightSum (K := K) hst g1 g2 ht d q hd (by omega)) 0 rfl rfl rfl rfl rfl (by first | exact hkc | exact Nat.zero_le _) (by first | exact hks | exact Nat.zero_le _) ?_
    exact v_ireturn O OR dX4_lineSum_17 (⟨rfl, rfl⟩) (Nat.le_of_ble_eq_true rfl) (Nat.le_of_ble_eq_true rfl)
theorem kx_lineSum {E : ET} {ad : Nat → Nat} {n t dr : Nat} {pw pe : Nat → Nat} {mk : Nat → Bool} {len : Nat} {cod : Nat → Nat} {fr : Bool} {ls lc u v : Nat} {su sp : Nat → Nat} {tot spr : Nat → Int64} {mm : Nat} {fs fc fw : Nat → Nat} {sc : Nat → Int64} {fe : Nat → Nat} (hst : E.1.stackTraces = false) (hn : n ≤ 16) (ht : t ≤ 48) (x1 x2 : Int32) (s : Bool) (hx : bxB n t x1 x2 1 = false) : Ctr E yX4_lineSum cdX4_lineSum (rmT 8) [.ref (ad 0), .int x1, .int x2, .int (bI s)] (WX E ad n t dr pw pe mk len cod fr ls lc u v su sp tot spr mm fs fc fw sc fe) noR (pX sIOB (WX E ad n t dr pw pe mk len cod fr ls lc u v su sp tot spr mm fs fc fw sc fe)) 1 6 := by
  refine ctr_of hst (by decide) (Nat.le_of_ble_eq_true rfl) (fun G O OR hN => ?_)
  have O : OKG E G cX4_lineSum RX4 (rmT 8) [] := O
  have hN : nLG G = 4 := hN
  refine v_aload_n O dX4_lineSum_0 rfl ?_
  refine v_iload_n O dX4_lineSum_1 rfl ?_
  refine v_iload_n O dX4_lineSum_2 rfl ?_
  refine v_iconst (v := nI 1) O dX4_lineSum_3 (by decide) ?_
  exact v_callV (mc := 1) (ms := 6) O dX4_lineSum_4 lkX4_97 (rx_lines hst hn ht x1 x2 1 (by decide) (by decide) hx) 0 rfl rfl rfl rfl rfl kk_no (fun X9 u9 h9 => by obtain ⟨rfl, rfl⟩ := h9; exact vx_pass O OR ⟨rfl, rfl⟩ (Nat.le_of_ble_eq_true rfl) (Nat.le_of_ble_eq_true rfl))
theorem k_mean {E : ET} {ad : Nat → Nat} {n t dr : Nat} {pw pe : Nat → Nat} {mk : Nat → Bool} {len : Nat} {cod : Nat → Nat} {fr : Bool} {ls lc u v : Nat} {su sp : Nat → Nat} {tot spr : Nat → Int64} {mm : Nat} {fs fc fw : Nat → Nat} {sc : Nat → Int64} {fe : Nat → Nat} {K : Nat} (hst : E.1.stackTraces = false) (hK : 1 ≤ K) (hK4 : K ≤ 4) (hn : n = 2 ^ K) (ht : t ≤ 48) (hfr : fr = true → ls = n ∧ lc = t ∧ LnOK mk pw K n t su tot spr) (d : Nat) (hd : d < n) (hnan : vf_n64 (FP.ddiv (FP.l2d (smL (lnXL mk pw K n d) (t - d))) (FP.i2d (nI (t - d))))) : Ctr E yX4_mean cdX4_mean (rmL 5) [.ref (ad 0), .int (nI d)] (WX E ad n t dr pw pe mk len cod fr ls lc u v su sp tot spr mm fs fc fw sc fe) (fun r w' => r = some (.double (meanV (smL (lnXL mk pw K n d) (t - d)) (t - d))) ∧ Frs E ad K n t dr pw pe mk len cod mm fs fc fw sc fe w') noX 0 0 := by
  obtain ⟨g1, g2⟩ := two_le hn hK hK4
  refine ctr_of hst (by decide) (Nat.le_of_ble_eq_true rfl) (fun G O OR hN => ?_)
  have O : OKG E G cX4_mean RX4 (rmL 5) [] := O
  have hN : nLG G = 3 := hN
  refine v_aload_n O dX4_mean_0 rfl ?_
  refine v_iload_n O dX4_mean_1 rfl ?_
  refine v_V0 O dX4_mean_2 lkX4_140 (r_slope hst g2 d hd) 0 rfl rfl rfl rfl rfl (by first | exact hkc | exact Nat.zero_le _) (by first | exact hks | exact Nat.zero_le _) ?_
  refine v_aload_n O dX4_mean_5 rfl ?_
  refine v_get O dX4_mean_6 flX4_26 0 rfl rfl ?_
  refine v_aload_n O dX4_mean_9 rfl ?_
  refine v_get O dX4_mean_10 flX4_10 0 rfl rfl ?_
  refine v_callVN (mc := 0) (ms := 0) O dX4_mean_13 lkX4_152 (x_refresh hst hK hK4 hn ht hfr) 3 rfl rfl rfl rfl rfl (fun r9 u9 h9 => ?_) kx_no
  obtain ⟨rfl, u, v, su, sp, tot, spr, hL, rfl⟩ := h9
  refine v_aload_n O dX4_mean_16 rfl ?_
  refine v_get O dX4_mean_17 flX4_26 0 rfl rfl ?_
  refine v_iload_n O dX4_mean_20 rfl ?_
  refine v_VN1 O dX4_mean_21 lkX4_159 (x_linesOf hst ht d (by omega)) 3 rfl rfl rfl rfl rfl (by first | exact hkc | exact Nat.zero_le _) (by first | exact hks | exact Nat.zero_le _) ?_
  refine v_istore_n O dX4_mean_24 (by rw [hN]; decide) ?_
  refine v_iload_n O dX4_mean_25 rfl ?_
  refine v_iconst (v := nI 1) O dX4_mean_26 (by decide) ?_
  refine v_icmpN_ge (tgt := 32) O dX4_mean_27 (by decide) (by omega) (by omega) (fun h => ?_) (fun h => ?_)
  · refine v_aload_n O dX4_mean_32 rfl ?_
    refine v_get O dX4_mean_33 flX4_26 0 rfl rfl ?_
    refine v_getN O dX4_mean_36 flX4_162 3 rfl rfl ?_
    refine v_iload_n O dX4_mean_39 rfl ?_
    refine v_lald O dX4_mean_40 9 rfl (by decide) (by omega) ?_
    rw [hL.2.1 d hd]
    refine v_l2d O dX4_mean_41 ?_
    refine v_iload_n O dX4_mean_42 rfl ?_
    refine v_i2d O dX4_mean_43 ?_
    refine v_ddiv O dX4_mean_44 hnan ?_
    exact v_dreturn O OR dX4_mean_45 (⟨by unfold meanV; rw [if_neg (by omega)], u, v, su, sp, tot, spr, hL, rfl⟩) (Nat.le_of_ble_eq_true rfl) (Nat.le_of_ble_eq_true rfl)
  · refine v_dconst0 O dX4_mean_30 ?_
    exact v_dreturn O OR dX4_mean_31 (⟨by unfold meanV; rw [if_pos (by omega)], u, v, su, sp, tot, spr, hL, rfl⟩) (Nat.le_of_ble_eq_true rfl) (Nat.le_of_ble_eq_true rfl)
theorem kx_mean {E : ET} {ad : Nat → Nat} {n t dr : Nat} {pw pe : Nat → Nat} {mk : Nat → Bool} {len : Nat} {cod : Nat → Nat} {fr : Bool} {ls lc u v : Nat} {su sp : Nat → Nat} {tot spr : Nat → Int64} {mm : Nat} {fs fc fw : Nat → Nat} {sc : Nat → Int64} {fe : Nat → Nat} (hst : E.1.stackTraces = false) (hn : n ≤ 16) (x : Int32) (hx : inB x n = false) : Ctr E yX4_mean cdX4_mean (rmT 8) [.ref (ad 0), .int x] (WX E ad n t dr pw pe mk len cod fr ls lc u v su sp tot spr mm fs fc fw sc fe) noR (pX sIOB (WX E ad n t dr pw pe mk len cod fr ls lc u v su sp tot spr mm fs fc fw sc fe)) 1 6 := by
  refine ctr_of hst (by decide) (Nat.le_of_ble_eq_true rfl) (fun G O OR hN => ?_)
  have O : OKG E G cX4_mean RX4 (rmT 8) [] := O
  have hN : nLG G = 3 := hN
  refine v_aload_n O dX4_mean_0 rfl ?_
  refine v_iload_n O dX4_mean_1 rfl ?_
  exact v_callV (mc := 1) (ms := 6) O dX4_mean_2 lkX4_140 (rx_slope hst hn x hx) 0 rfl rfl rfl rfl rfl kk_no (fun X9 u9 h9 => by obtain ⟨rfl, rfl⟩ := h9; exact vx_pass O OR ⟨rfl, rfl⟩ (Nat.le_of_ble_eq_true rfl) (Nat.le_of_ble_eq_true rfl))
theorem k_boxSum {E : ET} {ad : Nat → Nat} {n t dr : Nat} {pw pe : Nat → Nat} {mk : Nat → Bool} {len : Nat} {cod : Nat → Nat} {fr : Bool} {ls lc u v : Nat} {su sp : Nat → Nat} {tot spr : Nat → Int64} {mm : Nat} {fs fc fw : Nat → Nat} {sc : Nat → Int64} {fe : Nat → Nat} {K : Nat} (hst : E.1.stackTraces = false) (hK : 1 ≤ K) (hK4 : K ≤ 4) (hn : n = 2 ^ K) (ht : t ≤ 48) (hfr : fr = true → ls = n ∧ lc = t ∧ LnOK mk pw K n t su tot spr) (d q wd : Nat) (hd : d < n) (hw1 : 1 ≤ wd) (hw : wd ≤ 8) (hq : q + wd ≤ t - d) : Ctr E yX4_boxSum cdX4_boxSum (rmL 5) [.ref (ad 0), .int (nI d), .int (nI q), .int (nI wd)] (WX E ad n t dr pw pe mk len cod fr ls lc u v su sp tot spr mm fs fc fw sc fe) (fun r w' => r = some (.int (nI (sm (fun i => lnX mk pw K n d (q + i)) wd))) ∧ Frs E ad K n t dr pw pe mk len cod mm fs fc fw sc fe w') noX 0 0 := by
  obtain ⟨g1, g2⟩ := two_le hn hK hK4
  refine ctr_of hst (by decide) (Nat.le_of_ble_eq_true rfl) (fun G O OR hN => ?_)
  have O : OKG E G cX4_boxSum RX4 (rmL 5) [] := O
  have hN : nLG G = 4 := hN
  refine v_iload_n O dX4_boxSum_0 rfl ?_
  refine v_S0 O dX4_boxSum_1 lkX4_166 (r_width hst wd ⟨hw1, hw⟩) rfl rfl rfl (by first | exact hkc | exact Nat.zero_le _) (by first | exact hks | exact Nat.zero_le _) ?_
  refine v_aload_n O dX4_boxSum_4 rfl ?_
  refine v_iload_n O dX4_boxSum_5 rfl ?_
  refine v_iload_n O dX4_boxSum_6 rfl ?_
  refine v_iload_n O dX4_boxSum_7 rfl ?_
  refine v_V0 O dX4_boxSum_8 lkX4_97 (r_lines hst g2 ht d q wd hd hw1 hw hq) 0 rfl rfl rfl rfl rfl (by first | exact hkc | exact Nat.zero_le _) (by first | exact hks | exact Nat.zero_le _) ?_
  refine v_aload_n O dX4_boxSum_11 rfl ?_
  refine v_get O dX4_boxSum_12 flX4_26 0 rfl rfl ?_
  refine v_aload_n O dX4_boxSum_15 rfl ?_
  refine v_get O dX4_boxSum_16 flX4_10 0 rfl rfl ?_
  refine v_callVN (mc := 0) (ms := 0) O dX4_boxSum_19 lkX4_152 (x_refresh hst hK hK4 hn ht hfr) 3 rfl rfl rfl rfl rfl (fun r9 u9 h9 => ?_) kx_no
  obtain ⟨rfl, u, v, su, sp, tot, spr, hL, rfl⟩ := h9
  refine v_aload_n O dX4_boxSum_22 rfl ?_
  refine v_get O dX4_boxSum_23 flX4_26 0 rfl rfl ?_
  refine v_iload_n O dX4_boxSum_26 rfl ?_
  refine v_iload_n O dX4_boxSum_27 rfl ?_
  refine v_iload_n O dX4_boxSum_28 rfl ?_
  refine v_VN1 O dX4_boxSum_29 lkX4_169 (x_sumOfBox hst d q wd (by omega) (by omega)) 3 rfl rfl rfl rfl rfl (by first | exact hkc | exact Nat.zero_le _) (by first | exact hks | exact Nat.zero_le _) ?_
  exact v_ireturn O OR dX4_boxSum_32 (⟨by rw [sm_cong (fun i hi => hL.1 d (q + i) hd (by omega))], u, v, su, sp, tot, spr, hL, rfl⟩) (Nat.le_of_ble_eq_true rfl) (Nat.le_of_ble_eq_true rfl)
theorem kx_boxSum1 {E : ET} {ad : Nat → Nat} {n t dr : Nat} {pw pe : Nat → Nat} {mk : Nat → Bool} {len : Nat} {cod : Nat → Nat} {fr : Bool} {ls lc u v : Nat} {su sp : Nat → Nat} {tot spr : Nat → Int64} {mm : Nat} {fs fc fw : Nat → Nat} {sc : Nat → Int64} {fe : Nat → Nat} (hst : E.1.stackTraces = false) (x1 x2 x3 : Int32) (hx : ¬ (nI 1 ≤ x3 ∧ x3 ≤ nI 8)) : Ctr E yX4_boxSum cdX4_boxSum (rmT 8) [.ref (ad 0), .int x1, .int x2, .int x3] (WX E ad n t dr pw pe mk len cod fr ls lc u v su sp tot spr mm fs fc fw sc fe) noR (pX sIAE (WX E ad n t dr pw pe mk len cod fr ls lc u v su sp tot spr mm fs fc fw sc fe)) 1 6 := by
  refine ctr_of hst (by decide) (Nat.le_of_ble_eq_true rfl) (fun G O OR hN => ?_)
  have O : OKG E G cX4_boxSum RX4 (rmT 8) [] := O
  have hN : nLG G = 4 := hN
  refine v_iload_n O dX4_boxSum_0 rfl ?_
  exact v_callS (mc := 1) (ms := 6) O dX4_boxSum_1 lkX4_166 (rx_width hst x3 hx) rfl rfl rfl kk_no (fun X9 u9 h9 => by obtain ⟨rfl, rfl⟩ := h9; exact vx_pass O OR ⟨rfl, rfl⟩ (Nat.le_of_ble_eq_true rfl) (Nat.le_of_ble_eq_true rfl))
theorem kx_boxSum2 {E : ET} {ad : Nat → Nat} {n t dr : Nat} {pw pe : Nat → Nat} {mk : Nat → Bool} {len : Nat} {cod : Nat → Nat} {fr : Bool} {ls lc u v : Nat} {su sp : Nat → Nat} {tot spr : Nat → Int64} {mm : Nat} {fs fc fw : Nat → Nat} {sc : Nat → Int64} {fe : Nat → Nat} (hst : E.1.stackTraces = false) (hn : n ≤ 16) (ht : t ≤ 48) (x1 x2 : Int32) (wd : Nat) (hw1 : 1 ≤ wd) (hw : wd ≤ 8) (hx : bxB n t x1 x2 wd = false) : Ctr E yX4_boxSum cdX4_boxSum (rmT 8) [.ref (ad 0), .int x1, .int x2, .int (nI wd)] (WX E ad n t dr pw pe mk len cod fr ls lc u v su sp tot spr mm fs fc fw sc fe) noR (pX sIOB (WX E ad n t dr pw pe mk len cod fr ls lc u v su sp tot spr mm fs fc fw sc fe)) 1 6 := by
  refine ctr_of hst (by decide) (Nat.le_of_ble_eq_true rfl) (fun G O OR hN => ?_)
  have O : OKG E G cX4_boxSum RX4 (rmT 8) [] := O
  have hN : nLG G = 4 := hN
  refine v_iload_n O dX4_boxSum_0 rfl ?_
  refine v_S0 O dX4_boxSum_1 lkX4_166 (r_width hst wd ⟨hw1, hw⟩) rfl rfl rfl (by first | exact hkc | exact Nat.zero_le _) (by first | exact hks | exact Nat.zero_le _) ?_
  refine v_aload_n O dX4_boxSum_4 rfl ?_
  refine v_iload_n O dX4_boxSum_5 rfl ?_
  refine v_iload_n O dX4_boxSum_6 rfl ?_
  refine v_iload_n O dX4_boxSum_7 rfl ?_
  exact v_callV (mc := 1) (ms := 6) O dX4_boxSum_8 lkX4_97 (rx_lines hst hn ht x1 x2 wd hw1 hw hx) 0 rfl rfl rfl rfl rfl kk_no (fun X9 u9 h9 => by obtain ⟨rfl, rfl⟩ := h9; exact vx_pass O OR ⟨rfl, rfl⟩ (Nat.le_of_ble_eq_true rfl) (Nat.le_of_ble_eq_true rfl))
theorem k_score {E : ET} {ad : Nat → Nat} {n t dr : Nat} {pw pe : Nat → Nat} {mk : Nat → Bool} {len : Nat} {cod : Nat → Nat} {fr : Bool} {ls lc u v : Nat} {su sp : Nat → Nat} {tot spr : Nat → Int64} {mm : Nat} {fs fc fw : Nat → Nat} {sc : Nat → Int64} {fe : Nat → Nat} {K : Nat} (hst : E.1.stackTraces = false) (hK : 1 ≤ K) (hK4 : K ≤ 4) (hn : n = 2 ^ K) (ht : t ≤ 48) (hfr : fr = true → ls = n ∧ lc = t ∧ LnOK mk pw K n t su tot spr) (d q wd : Nat) (hd : d < n) (hw1 : 1 ≤ wd) (hw : wd ≤ 8) (hq : q + wd ≤ t - d) : Ctr E yX4_score cdX4_score (rmL 5) [.ref (ad 0), .int (nI d), .int (nI q), .int (nI wd)] (WX E ad n t dr pw pe mk len cod fr ls lc u v su sp tot spr mm fs fc fw sc fe) (fun r w' => r = some (.long (scX (nI (t - d)).toInt64 (smL (lnXL mk pw K n d) (t - d)) (scV (nI (t - d)).toInt64 (smL (lnXL mk pw K n d) (t - d)) (smL (sqL (lnXL mk pw K n d)) (t - d))) (nI (sm (fun i => lnX mk pw K n d (q + i)) wd)).toInt64 wd)) ∧ Frs E ad K n t dr pw pe mk len cod mm fs fc fw sc fe w') noX 0 0 := by
  obtain ⟨g1, g2⟩ := two_le hn hK hK4
  refine ctr_of hst (by decide) (Nat.le_of_ble_eq_true rfl) (fun G O OR hN => ?_)
  have O : OKG E G cX4_score RX4 (rmL 5) [] := O
  have hN : nLG G = 4 := hN
  refine v_iload_n O dX4_score_0 rfl ?_
  refine v_S0 O dX4_score_1 lkX4_166 (r_width hst wd ⟨hw1, hw⟩) rfl rfl rfl (by first | exact hkc | exact Nat.zero_le _) (by first | exact hks | exact Nat.zero_le _) ?_
  refine v_aload_n O dX4_score_4 rfl ?_
  refine v_iload_n O dX4_score_5 rfl ?_
  refine v_iload_n O dX4_score_6 rfl ?_
  refine v_iload_n O dX4_score_7 rfl ?_
  refine v_V0 O dX4_score_8 lkX4_97 (r_lines hst g2 ht d q wd hd hw1 hw hq) 0 rfl rfl rfl rfl rfl (by first | exact hkc | exact Nat.zero_le _) (by first | exact hks | exact Nat.zero_le _) ?_
  refine v_aload_n O dX4_score_11 rfl ?_
  refine v_get O dX4_score_12 flX4_26 0 rfl rfl ?_
  refine v_aload_n O dX4_score_15 rfl ?_
  refine v_get O dX4_score_16 flX4_10 0 rfl rfl ?_
  refine v_callVN (mc := 0) (ms := 0) O dX4_score_19 lkX4_152 (x_refresh hst hK hK4 hn ht hfr) 3 rfl rfl rfl rfl rfl (fun r9 u9 h9 => ?_) kx_no
  obtain ⟨rfl, u, v, su, sp, tot, spr, hL, rfl⟩ := h9
  refine v_aload_n O dX4_score_22 rfl ?_
  refine v_get O dX4_score_23 flX4_26 0 rfl rfl ?_
  refine v_iload_n O dX4_score_26 rfl ?_
  refine v_iload_n O dX4_score_27 rfl ?_
  refine v_aload_n O dX4_score_28 rfl ?_
  refine v_get O dX4_score_29 flX4_26 0 rfl rfl ?_
  refine v_iload_n O dX4_score_32 rfl ?_
  refine v_iload_n O dX4_score_33 rfl ?_
  refine v_iload_n O dX4_score_34 rfl ?_
  refine v_VN1 O dX4_score_35 lkX4_169 (x_sumOfBox hst d q wd (by omega) (by omega)) 3 rfl rfl rfl rfl rfl (by first | exact hkc | exact Nat.zero_le _) (by first | exact hks | exact Nat.zero_le _) ?_
  refine v_i2l O dX4_score_38 ?_
  rw [sm_cong (fun i hi => hL.1 d (q + i) hd (by omega))]
  refine v_VN1 O dX4_score_39 lkX4_172 (x_scoreOf hst ht d wd (nI (sm (fun i => lnX mk pw K n d (q + i)) wd)).toInt64 (by omega)) 3 rfl rfl rfl rfl rfl (by first | exact hkc | exact Nat.zero_le _) (by first | exact hks | exact Nat.zero_le _) ?_
  exact v_lreturn O OR dX4_score_42 (⟨by rw [hL.2.1 d hd, hL.2.2 d hd], u, v, su, sp, tot, spr, hL, rfl⟩) (Nat.le_of_ble_eq_true rfl) (Nat.le_of_ble_eq_true rfl)
theorem kx_score1 {E : ET} {ad : Nat → Nat} {n t dr : Nat} {pw pe : Nat → Nat} {mk : Nat → Bool} {len : Nat} {cod : Nat → Nat} {fr : Bool} {ls lc u v : Nat} {su sp : Nat → Nat} {tot spr : Nat → Int64} {mm : Nat} {fs fc fw : Nat → Nat} {sc : Nat → Int64} {fe : Nat → Nat} (hst : E.1.stackTraces = false) (x1 x2 x3 : Int32) (hx : ¬ (nI 1 ≤ x3 ∧ x3 ≤ nI 8)) : Ctr E yX4_score cdX4_score (rmT 8) [.ref (ad 0), .int x1, .int x2, .int x3] (WX E ad n t dr pw pe mk len cod fr ls lc u v su sp tot spr mm fs fc fw sc fe) noR (pX sIAE (WX E ad n t dr pw pe mk len cod fr ls lc u v su sp tot spr mm fs fc fw sc fe)) 1 6 := by
  refine ctr_of hst (by decide) (Nat.le_of_ble_eq_true rfl) (fun G O OR hN => ?_)
  have O : OKG E G cX4_score RX4 (rmT 8) [] := O
  have hN : nLG G = 4 := hN
  refine v_iload_n O dX4_score_0 rfl ?_
  exact v_callS (mc := 1) (ms := 6) O dX4_score_1 lkX4_166 (rx_width hst x3 hx) rfl rfl rfl kk_no (fun X9 u9 h9 => by obtain ⟨rfl, rfl⟩ := h9; exact vx_pass O OR ⟨rfl, rfl⟩ (Nat.le_of_ble_eq_true rfl) (Nat.le_of_ble_eq_true rfl))
theorem kx_score2 {E : ET} {ad : Nat → Nat} {n t dr : Nat} {pw pe : Nat → Nat} {mk : Nat → Bool} {len : Nat} {cod : Nat → Nat} {fr : Bool} {ls lc u v : Nat} {su sp : Nat → Nat} {tot spr : Nat → Int64} {mm : Nat} {fs fc fw : Nat → Nat} {sc : Nat → Int64} {fe : Nat → Nat} (hst : E.1.stackTraces = false) (hn : n ≤ 16) (ht : t ≤ 48) (x1 x2 : Int32) (wd : Nat) (hw1 : 1 ≤ wd) (hw : wd ≤ 8) (hx : bxB n t x1 x2 wd = false) : Ctr E yX4_score cdX4_score (rmT 8) [.ref (ad 0), .int x1, .int x2, .int (nI wd)] (WX E ad n t dr pw pe mk len cod fr ls lc u v su sp tot spr mm fs fc fw sc fe) noR (pX sIOB (WX E ad n t dr pw pe mk len cod fr ls lc u v su sp tot spr mm fs fc fw sc fe)) 1 6 := by
  refine ctr_of hst (by decide) (Nat.le_of_ble_eq_true rfl) (fun G O OR hN => ?_)
  have O : OKG E G cX4_score RX4 (rmT 8) [] := O
  have hN : nLG G = 4 := hN
  refine v_iload_n O dX4_score_0 rfl ?_
  refine v_S0 O dX4_score_1 lkX4_166 (r_width hst wd ⟨hw1, hw⟩) rfl rfl rfl (by first | exact hkc | exact Nat.zero_le _) (by first | exact hks | exact Nat.zero_le _) ?_
  refine v_aload_n O dX4_score_4 rfl ?_
  refine v_iload_n O dX4_score_5 rfl ?_
  refine v_iload_n O dX4_score_6 rfl ?_
  refine v_iload_n O dX4_score_7 rfl ?_
  exact v_callV (mc := 1) (ms := 6) O dX4_score_8 lkX4_97 (rx_lines hst hn ht x1 x2 wd hw1 hw hx) 0 rfl rfl rfl rfl rfl kk_no (fun X9 u9 h9 => by obtain ⟨rfl, rfl⟩ := h9; exact vx_pass O OR ⟨rfl, rfl⟩ (Nat.le_of_ble_eq_true rfl) (Nat.le_of_ble_eq_true rfl))
theorem k_candidate {E : ET} {ad : Nat → Nat} {n t dr : Nat} {pw pe : Nat → Nat} {mk : Nat → Bool} {len : Nat} {cod : Nat → Nat} {fr : Bool} {ls lc u v : Nat} {su sp : Nat → Nat} {tot spr : Nat → Int64} {mm : Nat} {fs fc fw : Nat → Nat} {sc : Nat → Int64} {fe : Nat → Nat} (hst : E.1.stackTraces = false) (hmm : mm ≤ 8) (i a : Nat) (hi : i < mm) (ha : a < 5) : Ctr E yX4_candidate cdX4_candidate (rmL 1) [.ref (ad 0), .int (nI i), .int (nI a)] (WX E ad n t dr pw pe mk len cod fr ls lc u v su sp tot spr mm fs fc fw sc fe) (pR (some (.long (tld fs fc fw sc dr i a))) (WX E ad n t dr pw pe mk len cod fr ls lc u v su sp tot spr mm fs fc fw sc fe)) noX 0 0 := by
  refine ctr_of hst (by decide) (Nat.le_of_ble_eq_true rfl) (fun G O OR hN => ?_)
  have O : OKG E G cX4_candidate RX4 (rmL 1) [] := O
  have hN : nLG G = 3 := hN
  refine v_iload_n O dX4_candidate_0 rfl ?_
  refine v_if_lt (tgt := 15) O dX4_candidate_1 (by decide) (fun h => ?_) (fun h => ?_)
  · exact absurd h (nI_pos (by omega))
  · refine v_iload_n O dX4_candidate_4 rfl ?_
    refine v_aload_n O dX4_candidate_5 rfl ?_
    refine v_get O dX4_candidate_6 flX4_33 0 rfl rfl ?_
    refine v_getN O dX4_candidate_9 flX4_123 4 rfl rfl ?_
    refine v_icmpN_lt (tgt := 25) O dX4_candidate_12 (by decide) (by omega) (by omega) (fun h2 => ?_) (fun h2 => ?_)
    · refine v_iload_n O dX4_candidate_25 rfl ?_
      rcases (show a = 0 ∨ a = 1 ∨ a = 2 ∨ a = 3 ∨ a = 4 by omega) with rfl | rfl | rfl | rfl | rfl
      · refine v_tableIn (off := 34) (tgt := 60) O dX4_candidate_26 (by decide) (by decide) (by decide) (by decide) ?_
        refine v_aload_n O dX4_candidate_60 rfl ?_
        refine v_get O dX4_candidate_61 flX4_33 0 rfl rfl ?_
        refine v_getN O dX4_candidate_64 flX4_193 4 rfl rfl ?_
        refine v_iload_n O dX4_candidate_67 rfl ?_
        refine v_iald O dX4_candidate_68 11 rfl (by decide) (by omega) ?_
        refine v_i2l O dX4_candidate_69 ?_
        exact v_lreturn O OR dX4_candidate_70 (⟨rfl, rfl⟩) (Nat.le_of_ble_eq_true rfl) (Nat.le_of_ble_eq_true rfl)
      · refine v_tableIn (off := 45) (tgt := 71) O dX4_candidate_26 (by decide) (by decide) (by decide) (by decide) ?_
        refine v_aload_n O dX4_candidate_71 rfl ?_
        refine v_get O dX4_candidate_72 flX4_33 0 rfl rfl ?_
        refine v_getN O dX4_candidate_75 flX4_196 4 rfl rfl ?_
        refine v_iload_n O dX4_candidate_78 rfl ?_
        refine v_iald O dX4_candidate_79 12 rfl (by decide) (by omega) ?_
        refine v_i2l O dX4_candidate_80 ?_
        exact v_lreturn O OR dX4_candidate_81 (⟨rfl, rfl⟩) (Nat.le_of_ble_eq_true rfl) (Nat.le_of_ble_eq_true rfl)
      · refine v_tableIn (off := 56) (tgt := 82) O dX4_candidate_26 (by decide) (by decide) (by decide) (by decide) ?_
        refine v_aload_n O dX4_candidate_82 rfl ?_
        refine v_get O dX4_candidate_83 flX4_33 0 rfl rfl ?_
        refine v_getN O dX4_candidate_86 flX4_198 4 rfl rfl ?_
        refine v_iload_n O dX4_candidate_89 rfl ?_
        refine v_iald O dX4_candidate_90 13 rfl (by decide) (by omega) ?_
        refine v_i2l O dX4_candidate_91 ?_
        exact v_lreturn O OR dX4_candidate_92 (⟨rfl, rfl⟩) (Nat.le_of_ble_eq_true rfl) (Nat.le_of_ble_eq_true rfl)
      · refine v_tableIn (off := 67) (tgt := 93) O dX4_candidate_26 (by decide) (by decide) (by decide) (by decide) ?_
        refine v_aload_n O dX4_candidate_93 rfl ?_
        refine v_get O dX4_candidate_94 flX4_33 0 rfl rfl ?_
        refine v_getN O dX4_candidate_97 flX4_201 4 rfl rfl ?_
        refine v_iload_n O dX4_candidate_100 rfl ?_
        refine v_lald O dX4_candidate_101 14 rfl (by decide) (by omega) ?_
        exact v_lreturn O OR dX4_candidate_102 (⟨rfl, rfl⟩) (Nat.le_of_ble_eq_true rfl) (Nat.le_of_ble_eq_true rfl)
      · refine v_tableIn (off := 77) (tgt := 103) O dX4_candidate_26 (by decide) (by decide) (by decide) (by decide) ?_
        refine v_aload_n O dX4_candidate_103 rfl ?_
        refine v_get O dX4_candidate_104 flX4_33 0 rfl rfl ?_
        refine v_getN O dX4_candidate_107 flX4_196 4 rfl rfl ?_
        refine v_iload_n O dX4_candidate_110 rfl ?_
        refine v_iald O dX4_candidate_111 12 rfl (by decide) (by omega) ?_
        refine v_aload_n O dX4_candidate_112 rfl ?_
        refine v_get O dX4_candidate_113 flX4_10 0 rfl rfl ?_
        refine v_getN O dX4_candidate_116 flX4_117 1 rfl rfl ?_
        refine v_iaddN O dX4_candidate_119 ?_
        refine v_i2l O dX4_candidate_120 ?_
        exact v_lreturn O OR dX4_candidate_121 (⟨rfl, rfl⟩) (Nat.le_of_ble_eq_true rfl) (Nat.le_of_ble_eq_true rfl)
    · omega
theorem kx_candidate1 {E : ET} {ad : Nat → Nat} {n t dr : Nat} {pw pe : Nat → Nat} {mk : Nat → Bool} {len : Nat} {cod : Nat → Nat} {fr : Bool} {ls lc u v : Nat} {su sp : Nat → Nat} {tot spr : Nat → Int64} {mm : Nat} {fs fc fw : Nat → Nat} {sc : Nat → Int64} {fe : Nat → Nat} (hst : E.1.stackTraces = false) (hmm : mm ≤ 8) (x y : Int32) (hx : inB x mm = false) : Ctr E yX4_candidate cdX4_candidate (rmT 8) [.ref (ad 0), .int x, .int y] (WX E ad n t dr pw pe mk len cod fr ls lc u v su sp tot spr mm fs fc fw sc fe) noR (pX sIOB (WX E ad n t dr pw pe mk len cod fr ls lc u v su sp tot spr mm fs fc fw sc fe)) 1 6 := by
  refine ctr_of hst (by decide) (Nat.le_of_ble_eq_true rfl) (fun G O OR hN => ?_)
  have O : OKG E G cX4_candidate RX4 (rmT 8) [] := O
  have hN : nLG G = 3 := hN
  refine v_iload_n O dX4_candidate_0 rfl ?_
  refine v_if_lt (tgt := 15) O dX4_candidate_1 (by decide) (fun h => ?_) (fun h => ?_)
  · exact v_throw O OR th_188_190 dX4_candidate_15 dX4_candidate_18 dX4_candidate_19 dX4_candidate_21 dX4_candidate_24 ⟨rfl, rfl⟩ (by decide) (Nat.le_of_ble_eq_true rfl) (Nat.le_of_ble_eq_true rfl) (Nat.le_of_ble_eq_true rfl) (Nat.le_of_ble_eq_true rfl) (Nat.le_of_ble_eq_true rfl)
  · refine v_iload_n O dX4_candidate_4 rfl ?_
    refine v_aload_n O dX4_candidate_5 rfl ?_
    refine v_get O dX4_candidate_6 flX4_33 0 rfl rfl ?_
    refine v_getN O dX4_candidate_9 flX4_123 4 rfl rfl ?_
    refine v_icmp_lt (tgt := 25) O dX4_candidate_12 (by decide) (fun h2 => ?_) (fun h2 => ?_)
    · exact absurd ((inB_iff (x := x)).mpr ⟨by rw [lt0_I] at h; omega, by rw [fa_lt, nI_toInt (by omega)] at h2; exact h2⟩) (by rw [hx]; decide)
    · exact v_throw O OR th_188_190 dX4_candidate_15 dX4_candidate_18 dX4_candidate_19 dX4_candidate_21 dX4_candidate_24 ⟨rfl, rfl⟩ (by decide) (Nat.le_of_ble_eq_true rfl) (Nat.le_of_ble_eq_true rfl) (Nat.le_of_ble_eq_true rfl) (Nat.le_of_ble_eq_true rfl) (Nat.le_of_ble_eq_true rfl)
theorem kx_candidate2 {E : ET} {ad : Nat → Nat} {n t dr : Nat} {pw pe : Nat → Nat} {mk : Nat → Bool} {len : Nat} {cod : Nat → Nat} {fr : Bool} {ls lc u v : Nat} {su sp : Nat → Nat} {tot spr : Nat → Int64} {mm : Nat} {fs fc fw : Nat → Nat} {sc : Nat → Int64} {fe : Nat → Nat} (hst : E.1.stackTraces = false) (hmm : mm ≤ 8) (x y : Int32) (hx : inB x mm = true) (hy : ¬ (nI 0 ≤ y ∧ y ≤ nI 4)) : Ctr E yX4_candidate cdX4_candidate (rmT 8) [.ref (ad 0), .int x, .int y] (WX E ad n t dr pw pe mk len cod fr ls lc u v su sp tot spr mm fs fc fw sc fe) noR (pX sIAE (WX E ad n t dr pw pe mk len cod fr ls lc u v su sp tot spr mm fs fc fw sc fe)) 1 6 := by
  obtain ⟨i, hi, rfl⟩ := inB_of hx
  refine ctr_of hst (by decide) (Nat.le_of_ble_eq_true rfl) (fun G O OR hN => ?_)
  have O : OKG E G cX4_candidate RX4 (rmT 8) [] := O
  have hN : nLG G = 3 := hN
  refine v_iload_n O dX4_candidate_0 rfl ?_
  refine v_if_lt (tgt := 15) O dX4_candidate_1 (by decide) (fun h => ?_) (fun h => ?_)
  · exact absurd h (nI_pos (by omega))
  · refine v_iload_n O dX4_candidate_4 rfl ?_
    refine v_aload_n O dX4_candidate_5 rfl ?_
    refine v_get O dX4_candidate_6 flX4_33 0 rfl rfl ?_
    refine v_getN O dX4_candidate_9 flX4_123 4 rfl rfl ?_
    refine v_icmpN_lt (tgt := 25) O dX4_candidate_12 (by decide) (by omega) (by omega) (fun h2 => ?_) (fun h2 => ?_)
    · refine v_iload_n O dX4_candidate_25 rfl ?_
      refine v_tableOut (tgt := 122) O dX4_candidate_26 (by rw [fa_le, fa_le, nI_toInt (by decide), nI_toInt (by decide)] at hy; omega) (by decide) ?_
      exact v_throw O OR th_37_126 dX4_candidate_122 dX4_candidate_125 dX4_candidate_126 dX4_candidate_128 dX4_candidate_131 ⟨rfl, rfl⟩ (by decide) (Nat.le_of_ble_eq_true rfl) (Nat.le_of_ble_eq_true rfl) (Nat.le_of_ble_eq_true rfl) (Nat.le_of_ble_eq_true rfl) (Nat.le_of_ble_eq_true rfl)
    · omega
theorem k_candidateAt {E : ET} {ad : Nat → Nat} {n t dr : Nat} {pw pe : Nat → Nat} {mk : Nat → Bool} {len : Nat} {cod : Nat → Nat} {fr : Bool} {ls lc u v : Nat} {su sp : Nat → Nat} {tot spr : Nat → Int64} {mm : Nat} {fs fc fw : Nat → Nat} {sc : Nat → Int64} {fe : Nat → Nat} (hst : E.1.stackTraces = false) (hmm : mm ≤ 8) (ht : t ≤ 48) (q : Nat) (hq : q < t) (hcd : ∀ k, k < mm → fs k < 16 ∧ fc k < 48 ∧ 1 ≤ fw k ∧ fw k ≤ 8) : Ctr E yX4_candidateAt cdX4_candidateAt (rmL 2) [.ref (ad 0), .int (nI q)] (WX E ad n t dr pw pe mk len cod fr ls lc u v su sp tot spr mm fs fc fw sc fe) (pR (some (.int (fI (inS fs fc fw q) 0 mm))) (WX E ad n t dr pw pe mk len cod fr ls lc u v su sp tot spr mm fs fc fw sc fe)) noX 0 0 := by
  refine ctr_of hst (by decide) (Nat.le_of_ble_eq_true rfl) (fun G O OR hN => ?_)
  have O : OKG E G cX4_candidateAt RX4 (rmL 2) [] := O
  have hN : nLG G = 2 := hN
  refine v_aload_n O dX4_candidateAt_0 rfl ?_
  refine v_iload_n O dX4_candidateAt_1 rfl ?_
  refine v_V0 O dX4_candidateAt_2 lkX4_110 (r_column hst ht q hq) 0 rfl rfl rfl rfl rfl (by first | exact hkc | exact Nat.zero_le _) (by first | exact hks | exact Nat.zero_le _) ?_
  refine v_aload_n O dX4_candidateAt_5 rfl ?_
  refine v_get O dX4_candidateAt_6 flX4_33 0 rfl rfl ?_
  refine v_iload_n O dX4_candidateAt_9 rfl ?_
  refine v_VN1 O dX4_candidateAt_10 lkX4_204 (x_firstWith hst q (by omega) hmm hcd) 4 rfl rfl rfl rfl rfl (by first | exact hkc | exact Nat.zero_le _) (by first | exact hks | exact Nat.zero_le _) ?_
  exact v_ireturn O OR dX4_candidateAt_13 (⟨rfl, rfl⟩) (Nat.le_of_ble_eq_true rfl) (Nat.le_of_ble_eq_true rfl)
theorem kx_candidateAt {E : ET} {ad : Nat → Nat} {n t dr : Nat} {pw pe : Nat → Nat} {mk : Nat → Bool} {len : Nat} {cod : Nat → Nat} {fr : Bool} {ls lc u v : Nat} {su sp : Nat → Nat} {tot spr : Nat → Int64} {mm : Nat} {fs fc fw : Nat → Nat} {sc : Nat → Int64} {fe : Nat → Nat} (hst : E.1.stackTraces = false) (ht : t ≤ 48) (x : Int32) (hx : inB x t = false) : Ctr E yX4_candidateAt cdX4_candidateAt (rmT 8) [.ref (ad 0), .int x] (WX E ad n t dr pw pe mk len cod fr ls lc u v su sp tot spr mm fs fc fw sc fe) noR (pX sIOB (WX E ad n t dr pw pe mk len cod fr ls lc u v su sp tot spr mm fs fc fw sc fe)) 1 6 := by
  refine ctr_of hst (by decide) (Nat.le_of_ble_eq_true rfl) (fun G O OR hN => ?_)
  have O : OKG E G cX4_candidateAt RX4 (rmT 8) [] := O
  have hN : nLG G = 2 := hN
  refine v_aload_n O dX4_candidateAt_0 rfl ?_
  refine v_iload_n O dX4_candidateAt_1 rfl ?_
  exact v_callV (mc := 1) (ms := 6) O dX4_candidateAt_2 lkX4_110 (rx_column hst ht x hx) 0 rfl rfl rfl rfl rfl kk_no (fun X9 u9 h9 => by obtain ⟨rfl, rfl⟩ := h9; exact vx_pass O OR ⟨rfl, rfl⟩ (Nat.le_of_ble_eq_true rfl) (Nat.le_of_ble_eq_true rfl))
