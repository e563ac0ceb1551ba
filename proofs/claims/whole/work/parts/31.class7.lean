abbrev sIOB : String := "java/lang/IndexOutOfBoundsException"
abbrev sIAE : String := "java/lang/IllegalArgumentException"
abbrev sISE : String := "java/lang/IllegalStateException"
theorem lt0_I {x : Int32} : x < 0 ↔ x.toInt < 0 := by rw [fa_lt, show (0 : Int32).toInt = 0 from rfl]
theorem r_channel {E : ET} {ad : Nat → Nat} {n t dr : Nat} {pw pe : Nat → Nat} {mk : Nat → Bool} {len : Nat} {cod : Nat → Nat} {fr : Bool} {ls lc u v : Nat} {su sp : Nat → Nat} {tot spr : Nat → Int64} {mm : Nat} {fs fc fw : Nat → Nat} {sc : Nat → Int64} {fe : Nat → Nat} (hst : E.1.stackTraces = false) (hn : n ≤ 16) (c : Nat) (hc : c < n) : Ctr E yX4_requireChannel cdX4_requireChannel (rmL 1) [.ref (ad 0), .int (nI c)] (WX E ad n t dr pw pe mk len cod fr ls lc u v su sp tot spr mm fs fc fw sc fe) (pR none (WX E ad n t dr pw pe mk len cod fr ls lc u v su sp tot spr mm fs fc fw sc fe)) noX 0 0 := by
  refine ctr_of hst (by decide) (Nat.le_of_ble_eq_true rfl) (fun G O OR hN => ?_)
  have O : OKG E G cX4_requireChannel RX4 (rmL 1) [] := O
  have hN : nLG G = 2 := hN
  refine v_iload_n O dX4_requireChannel_0 rfl ?_
  refine v_if_lt (tgt := 15) O dX4_requireChannel_1 (by decide) (fun h => ?_) (fun h => ?_)
  · exact absurd h (nI_pos (by omega))
  · refine v_iload_n O dX4_requireChannel_4 rfl ?_
    refine v_aload_n O dX4_requireChannel_5 rfl ?_
    refine v_get O dX4_requireChannel_6 flX4_10 0 rfl rfl ?_
    refine v_getN O dX4_requireChannel_9 flX4_44 1 rfl rfl ?_
    refine v_icmpN_lt (tgt := 25) O dX4_requireChannel_12 (by decide) (by omega) (by omega) (fun h2 => ?_) (fun h2 => ?_)
    · exact v_return O OR dX4_requireChannel_25 (⟨rfl, rfl⟩) (Nat.le_of_ble_eq_true rfl) (Nat.le_of_ble_eq_true rfl)
    · omega
theorem rx_channel {E : ET} {ad : Nat → Nat} {n t dr : Nat} {pw pe : Nat → Nat} {mk : Nat → Bool} {len : Nat} {cod : Nat → Nat} {fr : Bool} {ls lc u v : Nat} {su sp : Nat → Nat} {tot spr : Nat → Int64} {mm : Nat} {fs fc fw : Nat → Nat} {sc : Nat → Int64} {fe : Nat → Nat} (hst : E.1.stackTraces = false) (hn : n ≤ 16) (x : Int32) (hx : inB x n = false) : Ctr E yX4_requireChannel cdX4_requireChannel (rmT 6) [.ref (ad 0), .int x] (WX E ad n t dr pw pe mk len cod fr ls lc u v su sp tot spr mm fs fc fw sc fe) noR (pX sIOB (WX E ad n t dr pw pe mk len cod fr ls lc u v su sp tot spr mm fs fc fw sc fe)) 1 6 := by
  refine ctr_of hst (by decide) (Nat.le_of_ble_eq_true rfl) (fun G O OR hN => ?_)
  have O : OKG E G cX4_requireChannel RX4 (rmT 6) [] := O
  have hN : nLG G = 2 := hN
  refine v_iload_n O dX4_requireChannel_0 rfl ?_
  refine v_if_lt (tgt := 15) O dX4_requireChannel_1 (by decide) (fun h => ?_) (fun h => ?_)
  · exact v_throw O OR th_188_237 dX4_requireChannel_15 dX4_requireChannel_18 dX4_requireChannel_19 dX4_requireChannel_21 dX4_requireChannel_24 ⟨rfl, rfl⟩ (by decide) (Nat.le_of_ble_eq_true rfl) (Nat.le_of_ble_eq_true rfl) (Nat.le_of_ble_eq_true rfl) (Nat.le_of_ble_eq_true rfl) (Nat.le_of_ble_eq_true rfl)
  · refine v_iload_n O dX4_requireChannel_4 rfl ?_
    refine v_aload_n O dX4_requireChannel_5 rfl ?_
    refine v_get O dX4_requireChannel_6 flX4_10 0 rfl rfl ?_
    refine v_getN O dX4_requireChannel_9 flX4_44 1 rfl rfl ?_
    refine v_icmp_lt (tgt := 25) O dX4_requireChannel_12 (by decide) (fun h2 => ?_) (fun h2 => ?_)
    · exact absurd ((inB_iff (x := x)).mpr ⟨by rw [lt0_I] at h; omega, by rw [fa_lt, nI_toInt (by omega)] at h2; exact h2⟩) (by rw [hx]; decide)
    · exact v_throw O OR th_188_237 dX4_requireChannel_15 dX4_requireChannel_18 dX4_requireChannel_19 dX4_requireChannel_21 dX4_requireChannel_24 ⟨rfl, rfl⟩ (by decide) (Nat.le_of_ble_eq_true rfl) (Nat.le_of_ble_eq_true rfl) (Nat.le_of_ble_eq_true rfl) (Nat.le_of_ble_eq_true rfl) (Nat.le_of_ble_eq_true rfl)
theorem r_slope {E : ET} {ad : Nat → Nat} {n t dr : Nat} {pw pe : Nat → Nat} {mk : Nat → Bool} {len : Nat} {cod : Nat → Nat} {fr : Bool} {ls lc u v : Nat} {su sp : Nat → Nat} {tot spr : Nat → Int64} {mm : Nat} {fs fc fw : Nat → Nat} {sc : Nat → Int64} {fe : Nat → Nat} (hst : E.1.stackTraces = false) (hn : n ≤ 16) (c : Nat) (hc : c < n) : Ctr E yX4_requireSlope cdX4_requireSlope (rmL 1) [.ref (ad 0), .int (nI c)] (WX E ad n t dr pw pe mk len cod fr ls lc u v su sp tot spr mm fs fc fw sc fe) (pR none (WX E ad n t dr pw pe mk len cod fr ls lc u v su sp tot spr mm fs fc fw sc fe)) noX 0 0 := by
  refine ctr_of hst (by decide) (Nat.le_of_ble_eq_true rfl) (fun G O OR hN => ?_)
  have O : OKG E G cX4_requireSlope RX4 (rmL 1) [] := O
  have hN : nLG G = 2 := hN
  refine v_iload_n O dX4_requireSlope_0 rfl ?_
  refine v_if_lt (tgt := 15) O dX4_requireSlope_1 (by decide) (fun h => ?_) (fun h => ?_)
  · exact absurd h (nI_pos (by omega))
  · refine v_iload_n O dX4_requireSlope_4 rfl ?_
    refine v_aload_n O dX4_requireSlope_5 rfl ?_
    refine v_get O dX4_requireSlope_6 flX4_10 0 rfl rfl ?_
    refine v_getN O dX4_requireSlope_9 flX4_44 1 rfl rfl ?_
    refine v_icmpN_lt (tgt := 25) O dX4_requireSlope_12 (by decide) (by omega) (by omega) (fun h2 => ?_) (fun h2 => ?_)
    · exact v_return O OR dX4_requireSlope_25 (⟨rfl, rfl⟩) (Nat.le_of_ble_eq_true rfl) (Nat.le_of_ble_eq_true rfl)
    · omega
theorem rx_slope {E : ET} {ad : Nat → Nat} {n t dr : Nat} {pw pe : Nat → Nat} {mk : Nat → Bool} {len : Nat} {cod : Nat → Nat} {fr : Bool} {ls lc u v : Nat} {su sp : Nat → Nat} {tot spr : Nat → Int64} {mm : Nat} {fs fc fw : Nat → Nat} {sc : Nat → Int64} {fe : Nat → Nat} (hst : E.1.stackTraces = false) (hn : n ≤ 16) (x : Int32) (hx : inB x n = false) : Ctr E yX4_requireSlope cdX4_requireSlope (rmT 6) [.ref (ad 0), .int x] (WX E ad n t dr pw pe mk len cod fr ls lc u v su sp tot spr mm fs fc fw sc fe) noR (pX sIOB (WX E ad n t dr pw pe mk len cod fr ls lc u v su sp tot spr mm fs fc fw sc fe)) 1 6 := by
  refine ctr_of hst (by decide) (Nat.le_of_ble_eq_true rfl) (fun G O OR hN => ?_)
  have O : OKG E G cX4_requireSlope RX4 (rmT 6) [] := O
  have hN : nLG G = 2 := hN
  refine v_iload_n O dX4_requireSlope_0 rfl ?_
  refine v_if_lt (tgt := 15) O dX4_requireSlope_1 (by decide) (fun h => ?_) (fun h => ?_)
  · exact v_throw O OR th_188_241 dX4_requireSlope_15 dX4_requireSlope_18 dX4_requireSlope_19 dX4_requireSlope_21 dX4_requireSlope_24 ⟨rfl, rfl⟩ (by decide) (Nat.le_of_ble_eq_true rfl) (Nat.le_of_ble_eq_true rfl) (Nat.le_of_ble_eq_true rfl) (Nat.le_of_ble_eq_true rfl) (Nat.le_of_ble_eq_true rfl)
  · refine v_iload_n O dX4_requireSlope_4 rfl ?_
    refine v_aload_n O dX4_requireSlope_5 rfl ?_
    refine v_get O dX4_requireSlope_6 flX4_10 0 rfl rfl ?_
    refine v_getN O dX4_requireSlope_9 flX4_44 1 rfl rfl ?_
    refine v_icmp_lt (tgt := 25) O dX4_requireSlope_12 (by decide) (fun h2 => ?_) (fun h2 => ?_)
    · exact absurd ((inB_iff (x := x)).mpr ⟨by rw [lt0_I] at h; omega, by rw [fa_lt, nI_toInt (by omega)] at h2; exact h2⟩) (by rw [hx]; decide)
    · exact v_throw O OR th_188_241 dX4_requireSlope_15 dX4_requireSlope_18 dX4_requireSlope_19 dX4_requireSlope_21 dX4_requireSlope_24 ⟨rfl, rfl⟩ (by decide) (Nat.le_of_ble_eq_true rfl) (Nat.le_of_ble_eq_true rfl) (Nat.le_of_ble_eq_true rfl) (Nat.le_of_ble_eq_true rfl) (Nat.le_of_ble_eq_true rfl)
theorem r_column {E : ET} {ad : Nat → Nat} {n t dr : Nat} {pw pe : Nat → Nat} {mk : Nat → Bool} {len : Nat} {cod : Nat → Nat} {fr : Bool} {ls lc u v : Nat} {su sp : Nat → Nat} {tot spr : Nat → Int64} {mm : Nat} {fs fc fw : Nat → Nat} {sc : Nat → Int64} {fe : Nat → Nat} (hst : E.1.stackTraces = false) (ht : t ≤ 48) (c : Nat) (hc : c < t) : Ctr E yX4_requireColumn cdX4_requireColumn (rmL 1) [.ref (ad 0), .int (nI c)] (WX E ad n t dr pw pe mk len cod fr ls lc u v su sp tot spr mm fs fc fw sc fe) (pR none (WX E ad n t dr pw pe mk len cod fr ls lc u v su sp tot spr mm fs fc fw sc fe)) noX 0 0 := by
  refine ctr_of hst (by decide) (Nat.le_of_ble_eq_true rfl) (fun G O OR hN => ?_)
  have O : OKG E G cX4_requireColumn RX4 (rmL 1) [] := O
  have hN : nLG G = 2 := hN
  refine v_iload_n O dX4_requireColumn_0 rfl ?_
  refine v_if_lt (tgt := 15) O dX4_requireColumn_1 (by decide) (fun h => ?_) (fun h => ?_)
  · exact absurd h (nI_pos (by omega))
  · refine v_iload_n O dX4_requireColumn_4 rfl ?_
    refine v_aload_n O dX4_requireColumn_5 rfl ?_
    refine v_get O dX4_requireColumn_6 flX4_10 0 rfl rfl ?_
    refine v_getN O dX4_requireColumn_9 flX4_67 1 rfl rfl ?_
    refine v_icmpN_lt (tgt := 25) O dX4_requireColumn_12 (by decide) (by omega) (by omega) (fun h2 => ?_) (fun h2 => ?_)
    · exact v_return O OR dX4_requireColumn_25 (⟨rfl, rfl⟩) (Nat.le_of_ble_eq_true rfl) (Nat.le_of_ble_eq_true rfl)
    · omega
theorem rx_column {E : ET} {ad : Nat → Nat} {n t dr : Nat} {pw pe : Nat → Nat} {mk : Nat → Bool} {len : Nat} {cod : Nat → Nat} {fr : Bool} {ls lc u v : Nat} {su sp : Nat → Nat} {tot spr : Nat → Int64} {mm : Nat} {fs fc fw : Nat → Nat} {sc : Nat → Int64} {fe : Nat → Nat} (hst : E.1.stackTraces = false) (ht : t ≤ 48) (x : Int32) (hx : inB x t = false) : Ctr E yX4_requireColumn cdX4_requireColumn (rmT 6) [.ref (ad 0), .int x] (WX E ad n t dr pw pe mk len cod fr ls lc u v su sp tot spr mm fs fc fw sc fe) noR (pX sIOB (WX E ad n t dr pw pe mk len cod fr ls lc u v su sp tot spr mm fs fc fw sc fe)) 1 6 := by
  refine ctr_of hst (by decide) (Nat.le_of_ble_eq_true rfl) (fun G O OR hN => ?_)
  have O : OKG E G cX4_requireColumn RX4 (rmT 6) [] := O
  have hN : nLG G = 2 := hN
  refine v_iload_n O dX4_requireColumn_0 rfl ?_
  refine v_if_lt (tgt := 15) O dX4_requireColumn_1 (by decide) (fun h => ?_) (fun h => ?_)
  · exact v_throw O OR th_188_239 dX4_requireColumn_15 dX4_requireColumn_18 dX4_requireColumn_19 dX4_requireColumn_21 dX4_requireColumn_24 ⟨rfl, rfl⟩ (by decide) (Nat.le_of_ble_eq_true rfl) (Nat.le_of_ble_eq_true rfl) (Nat.le_of_ble_eq_true rfl) (Nat.le_of_ble_eq_true rfl) (Nat.le_of_ble_eq_true rfl)
  · refine v_iload_n O dX4_requireColumn_4 rfl ?_
    refine v_aload_n O dX4_requireColumn_5 rfl ?_
    refine v_get O dX4_requireColumn_6 flX4_10 0 rfl rfl ?_
    refine v_getN O dX4_requireColumn_9 flX4_67 1 rfl rfl ?_
    refine v_icmp_lt (tgt := 25) O dX4_requireColumn_12 (by decide) (fun h2 => ?_) (fun h2 => ?_)
    · exact absurd ((inB_iff (x := x)).mpr ⟨by rw [lt0_I] at h; omega, by rw [fa_lt, nI_toInt (by omega)] at h2; exact h2⟩) (by rw [hx]; decide)
    · exact v_throw O OR th_188_239 dX4_requireColumn_15 dX4_requireColumn_18 dX4_requireColumn_19 dX4_requireColumn_21 dX4_requireColumn_24 ⟨rfl, rfl⟩ (by decide) (Nat.le_of_ble_eq_true rfl) (Nat.le_of_ble_eq_true rfl) (Nat.le_of_ble_eq_true rfl) (Nat.le_of_ble_eq_true rfl) (Nat.le_of_ble_eq_true rfl)
theorem r_width {E : ET} {w : va_W} (hst : E.1.stackTraces = false) (c : Nat) (hc : 1 ≤ c ∧ c ≤ 8) : Ctr E yX4_requireWidth cdX4_requireWidth (rmL 1) [.int (nI c)] w (pR none w) noX 0 0 := by
  refine ctr_of hst (by decide) (Nat.le_of_ble_eq_true rfl) (fun G O OR hN => ?_)
  have O : OKG E G cX4_requireWidth RX4 (rmL 1) [] := O
  have hN : nLG G = 1 := hN
  refine v_iload_n O dX4_requireWidth_0 rfl ?_
  refine v_iconst (v := nI 1) O dX4_requireWidth_1 (by decide) ?_
  refine v_icmpN_lt (tgt := 11) O dX4_requireWidth_2 (by decide) (by omega) (by omega) (fun h => ?_) (fun h => ?_)
  · omega
  · refine v_iload_n O dX4_requireWidth_5 rfl ?_
    refine v_bipush (v := nI 8) O dX4_requireWidth_6 (by decide) ?_
    refine v_icmpN_le (tgt := 21) O dX4_requireWidth_8 (by decide) (by omega) (by omega) (fun h2 => ?_) (fun h2 => ?_)
    · exact v_return O OR dX4_requireWidth_21 (⟨rfl, rfl⟩) (Nat.le_of_ble_eq_true rfl) (Nat.le_of_ble_eq_true rfl)
    · omega
theorem rx_width {E : ET} {w : va_W} (hst : E.1.stackTraces = false) (x : Int32) (hx : ¬ (nI 1 ≤ x ∧ x ≤ nI 8)) : Ctr E yX4_requireWidth cdX4_requireWidth (rmT 6) [.int x] w noR (pX sIAE w) 1 6 := by
  refine ctr_of hst (by decide) (Nat.le_of_ble_eq_true rfl) (fun G O OR hN => ?_)
  have O : OKG E G cX4_requireWidth RX4 (rmT 6) [] := O
  have hN : nLG G = 1 := hN
  refine v_iload_n O dX4_requireWidth_0 rfl ?_
  refine v_iconst (v := nI 1) O dX4_requireWidth_1 (by decide) ?_
  refine v_icmp_lt (tgt := 11) O dX4_requireWidth_2 (by decide) (fun h => ?_) (fun h => ?_)
  · exact v_throw O OR th_37_243 dX4_requireWidth_11 dX4_requireWidth_14 dX4_requireWidth_15 dX4_requireWidth_17 dX4_requireWidth_20 ⟨rfl, rfl⟩ (by decide) (Nat.le_of_ble_eq_true rfl) (Nat.le_of_ble_eq_true rfl) (Nat.le_of_ble_eq_true rfl) (Nat.le_of_ble_eq_true rfl) (Nat.le_of_ble_eq_true rfl)
  · refine v_iload_n O dX4_requireWidth_5 rfl ?_
    refine v_bipush (v := nI 8) O dX4_requireWidth_6 (by decide) ?_
    refine v_icmp_le (tgt := 21) O dX4_requireWidth_8 (by decide) (fun h2 => ?_) (fun h2 => ?_)
    · exact absurd ⟨by rw [fa_lt] at h; rw [fa_le]; omega, h2⟩ hx
    · exact v_throw O OR th_37_243 dX4_requireWidth_11 dX4_requireWidth_14 dX4_requireWidth_15 dX4_requireWidth_17 dX4_requireWidth_20 ⟨rfl, rfl⟩ (by decide) (Nat.le_of_ble_eq_true rfl) (Nat.le_of_ble_eq_true rfl) (Nat.le_of_ble_eq_true rfl) (Nat.le_of_ble_eq_true rfl) (Nat.le_of_ble_eq_true rfl)
theorem sub2 {t d wd : Nat} (ht : t ≤ 48) (hd : d < 16) (hw : wd ≤ 8) : (nI t - nI d - nI wd).toInt = (t : Int) - d - wd := by
  rw [fb_subI (by rw [pk_sub_toInt (by omega) (by omega), nI_toInt (by omega)]; omega) (by rw [pk_sub_toInt (by omega) (by omega), nI_toInt (by omega)]; omega), pk_sub_toInt (by omega) (by omega), nI_toInt (by omega)]
theorem r_lines {E : ET} {ad : Nat → Nat} {n t dr : Nat} {pw pe : Nat → Nat} {mk : Nat → Bool} {len : Nat} {cod : Nat → Nat} {fr : Bool} {ls lc u v : Nat} {su sp : Nat → Nat} {tot spr : Nat → Int64} {mm : Nat} {fs fc fw : Nat → Nat} {sc : Nat → Int64} {fe : Nat → Nat} (hst : E.1.stackTraces = false) (hn : n ≤ 16) (ht : t ≤ 48) (d q wd : Nat) (hd : d < n) (hw1 : 1 ≤ wd) (hw : wd ≤ 8) (hq : q + wd ≤ t - d) : Ctr E yX4_requireLines cdX4_requireLines (rmL 2) [.ref (ad 0), .int (nI d), .int (nI q), .int (nI wd)] (WX E ad n t dr pw pe mk len cod fr ls lc u v su sp tot spr mm fs fc fw sc fe) (pR none (WX E ad n t dr pw pe mk len cod fr ls lc u v su sp tot spr mm fs fc fw sc fe)) noX 0 0 := by
  refine ctr_of hst (by decide) (Nat.le_of_ble_eq_true rfl) (fun G O OR hN => ?_)
  have O : OKG E G cX4_requireLines RX4 (rmL 2) [] := O
  have hN : nLG G = 4 := hN
  refine v_aload_n O dX4_requireLines_0 rfl ?_
  refine v_iload_n O dX4_requireLines_1 rfl ?_
  refine v_V0 O dX4_requireLines_2 lkX4_140 (r_slope hst hn d hd) 0 rfl rfl rfl rfl rfl (by first | exact hkc | exact Nat.zero_le _) (by first | exact hks | exact Nat.zero_le _) ?_
  refine v_iload_n O dX4_requireLines_5 rfl ?_
  refine v_if_lt (tgt := 24) O dX4_requireLines_6 (by decide) (fun h => ?_) (fun h => ?_)
  · exact absurd h (nI_pos (by omega))
  · refine v_iload_n O dX4_requireLines_9 rfl ?_
    refine v_aload_n O dX4_requireLines_10 rfl ?_
    refine v_get O dX4_requireLines_11 flX4_10 0 rfl rfl ?_
    refine v_getN O dX4_requireLines_14 flX4_67 1 rfl rfl ?_
    refine v_iload_n O dX4_requireLines_17 rfl ?_
    refine v_isub O dX4_requireLines_18 ?_
    refine v_iload_n O dX4_requireLines_19 rfl ?_
    refine v_isub O dX4_requireLines_20 ?_
    refine v_icmp_le (tgt := 34) O dX4_requireLines_21 (by decide) (fun h2 => ?_) (fun h2 => ?_)
    · exact v_return O OR dX4_requireLines_34 (⟨rfl, rfl⟩) (Nat.le_of_ble_eq_true rfl) (Nat.le_of_ble_eq_true rfl)
    · exact absurd (by rw [fa_le, nI_toInt (by omega), sub2 ht (by omega) hw]; omega) h2
theorem rx_lines {E : ET} {ad : Nat → Nat} {n t dr : Nat} {pw pe : Nat → Nat} {mk : Nat → Bool} {len : Nat} {cod : Nat → Nat} {fr : Bool} {ls lc u v : Nat} {su sp : Nat → Nat} {tot spr : Nat → Int64} {mm : Nat} {fs fc fw : Nat → Nat} {sc : Nat → Int64} {fe : Nat → Nat} (hst : E.1.stackTraces = false) (hn : n ≤ 16) (ht : t ≤ 48) (x1 x2 : Int32) (wd : Nat) (hw1 : 1 ≤ wd) (hw : wd ≤ 8) (hx : bxB n t x1 x2 wd = false) : Ctr E yX4_requireLines cdX4_requireLines (rmT 7) [.ref (ad 0), .int x1, .int x2, .int (nI wd)] (WX E ad n t dr pw pe mk len cod fr ls lc u v su sp tot spr mm fs fc fw sc fe) noR (pX sIOB (WX E ad n t dr pw pe mk len cod fr ls lc u v su sp tot spr mm fs fc fw sc fe)) 1 6 := by
  refine ctr_of hst (by decide) (Nat.le_of_ble_eq_true rfl) (fun G O OR hN => ?_)
  have O : OKG E G cX4_requireLines RX4 (rmT 7) [] := O
  have hN : nLG G = 4 := hN
  refine v_aload_n O dX4_requireLines_0 rfl ?_
  refine v_iload_n O dX4_requireLines_1 rfl ?_
  cases h1 : inB x1 n with
  | false =>
    exact v_callV (mc := 1) (ms := 6) O dX4_requireLines_2 lkX4_140 (rx_slope hst hn x1 h1) 0 rfl rfl rfl rfl rfl kk_no (fun X9 u9 h9 => by obtain ⟨rfl, rfl⟩ := h9; exact vx_pass O OR ⟨rfl, rfl⟩ (Nat.le_of_ble_eq_true rfl) (Nat.le_of_ble_eq_true rfl))
  | true =>
    obtain ⟨d, hd, rfl⟩ := inB_of h1
    refine v_V0 O dX4_requireLines_2 lkX4_140 (r_slope hst hn d hd) 0 rfl rfl rfl rfl rfl (by first | exact hkc | exact Nat.zero_le _) (by first | exact hks | exact Nat.zero_le _) ?_
    refine v_iload_n O dX4_requireLines_5 rfl ?_
    refine v_if_lt (tgt := 24) O dX4_requireLines_6 (by decide) (fun h => ?_) (fun h => ?_)
    · exact v_throw O OR th_188_245 dX4_requireLines_24 dX4_requireLines_27 dX4_requireLines_28 dX4_requireLines_30 dX4_requireLines_33 ⟨rfl, rfl⟩ (by decide) (Nat.le_of_ble_eq_true rfl) (Nat.le_of_ble_eq_true rfl) (Nat.le_of_ble_eq_true rfl) (Nat.le_of_ble_eq_true rfl) (Nat.le_of_ble_eq_true rfl)
    · refine v_iload_n O dX4_requireLines_9 rfl ?_
      refine v_aload_n O dX4_requireLines_10 rfl ?_
      refine v_get O dX4_requireLines_11 flX4_10 0 rfl rfl ?_
      refine v_getN O dX4_requireLines_14 flX4_67 1 rfl rfl ?_
      refine v_iload_n O dX4_requireLines_17 rfl ?_
      refine v_isub O dX4_requireLines_18 ?_
      refine v_iload_n O dX4_requireLines_19 rfl ?_
      refine v_isub O dX4_requireLines_20 ?_
      refine v_icmp_le (tgt := 34) O dX4_requireLines_21 (by decide) (fun h2 => ?_) (fun h2 => ?_)
      · rw [lt0_I] at h
        rw [fa_le, sub2 ht (by omega) hw] at h2
        unfold bxB at hx
        rw [h1, show (nI d).toInt.toNat = d by rw [nI_toInt (by omega)]; omega, decide_eq_true (by omega), decide_eq_true (by omega)] at hx
        cases hx
      · exact v_throw O OR th_188_245 dX4_requireLines_24 dX4_requireLines_27 dX4_requireLines_28 dX4_requireLines_30 dX4_requireLines_33 ⟨rfl, rfl⟩ (by decide) (Nat.le_of_ble_eq_true rfl) (Nat.le_of_ble_eq_true rfl) (Nat.le_of_ble_eq_true rfl) (Nat.le_of_ble_eq_true rfl) (Nat.le_of_ble_eq_true rfl)
theorem x_forget {E : ET} {ad : Nat → Nat} {n t dr : Nat} {pw pe : Nat → Nat} {mk : Nat → Bool} {len : Nat} {cod : Nat → Nat} {fr : Bool} {ls lc u v : Nat} {su sp : Nat → Nat} {tot spr : Nat → Int64} {mm : Nat} {fs fc fw : Nat → Nat} {sc : Nat → Int64} {fe : Nat → Nat} (hst : E.1.stackTraces = false) : Ctr E yX4_forgetResults cdX4_forgetResults (rmL 1) [.ref (ad 0)] (WX E ad n t dr pw pe mk len cod fr ls lc u v su sp tot spr mm fs fc fw sc fe) (pR none (WX E ad n t dr pw pe mk len cod (false) ls lc u v su sp tot spr (0) fs fc fw sc fe)) noX 0 0 := by
  refine ctr_of hst (by decide) (Nat.le_of_ble_eq_true rfl) (fun G O OR hN => ?_)
  have O : OKG E G cX4_forgetResults RX4 (rmL 1) [] := O
  have hN : nLG G = 1 := hN
  refine v_aload_n O dX4_forgetResults_0 rfl ?_
  refine v_get O dX4_forgetResults_1 flX4_26 0 rfl rfl ?_
  refine v_iconst (v := bI false) O dX4_forgetResults_4 (by decide) ?_
  refine v_putN (ty := .boolean) O dX4_forgetResults_5 flX4_247 ftX2 3 rfl rfl (by decide +kernel) (by decide) rfl (Nat.le_of_ble_eq_true rfl) ?_
  refine v_aload_n O dX4_forgetResults_8 rfl ?_
  refine v_get O dX4_forgetResults_9 flX4_33 0 rfl rfl ?_
  refine v_iconst (v := nI 0) O dX4_forgetResults_12 (by decide) ?_
  refine v_putN (ty := .int) O dX4_forgetResults_13 flX4_123 ftX0 4 rfl rfl (by decide +kernel) rfl rfl (Nat.le_of_ble_eq_true rfl) ?_
  exact v_return O OR dX4_forgetResults_16 (⟨rfl, rfl⟩) (Nat.le_of_ble_eq_true rfl) (Nat.le_of_ble_eq_true rfl)
-- offsets
theorem lp_treeOffset {E : ET} {G : GT} {R0 : Room} {tb : List ExceptionTableEntry} (O : OKG E G cX4_treeOffset RX4 R0 tb) (hN : nLG G = 8) {w : va_W} : ∀ k b d c acc : Nat, k ≤ 4 → b = 2 ^ k / 2 → d < 2 ^ 20 → c < 2 ^ 20 → acc + d < 2 ^ 20 → V E G 0 0 60 [(3, .int (nI (acc + tof k d c)))] [] w → V E G 0 0 13 [(3, .int (nI acc)), (4, .int (nI d)), (5, .int (nI c)), (6, .int (nI b))] [] w := by
  intro k
  induction k with
  | zero =>
    intro b d c acc hk hb hd hc ha kk
    have hb : b = 0 := hb
    subst hb
    refine v_iload O dX4_treeOffset_13 rfl ?_
    refine v_iconst (v := nI 1) O dX4_treeOffset_15 (by decide) ?_
    refine v_icmpN_lt (tgt := 60) O dX4_treeOffset_16 (by decide) (by omega) (by omega) (fun h => ?_) (fun h => ?_)
    · refine v_ord [3] ?_
      exact kk
    · omega
  | succ k ih =>
    intro b d c acc hk hb hd hc ha kk
    have h2 : b = 2 ^ k := by rw [hb, Nat.pow_succ, Nat.mul_div_cancel _ (by decide)]
    have h16 : 2 ^ k ≤ 16 := Nat.pow_le_pow_right (n := 2) (i := k) (j := 4) (by decide) (by omega)
    have h1 : 1 ≤ 2 ^ k := Nat.one_le_two_pow
    refine v_iload O dX4_treeOffset_13 rfl ?_
    refine v_iconst (v := nI 1) O dX4_treeOffset_15 (by decide) ?_
    refine v_icmpN_lt (tgt := 60) O dX4_treeOffset_16 (by decide) (by omega) (by omega) (fun h => ?_) (fun h => ?_)
    · omega
    · refine v_iload O dX4_treeOffset_19 rfl ?_
      refine v_iconst (v := nI 2) O dX4_treeOffset_21 (by decide) ?_
      refine v_idivN O dX4_treeOffset_22 (by omega) (by omega) (by omega) ?_
      refine v_istore O dX4_treeOffset_23 (by rw [hN]; decide) ?_
      refine v_iload O dX4_treeOffset_25 rfl ?_
      refine v_iload O dX4_treeOffset_27 rfl ?_
      refine v_icmpN_lt (tgt := 47) O dX4_treeOffset_29 (by decide) (by omega) (by omega) (fun h4 => ?_) (fun h4 => ?_)
      · refine v_iload O dX4_treeOffset_47 rfl ?_
        refine v_istore O dX4_treeOffset_49 (by rw [hN]; decide) ?_
        refine v_iload O dX4_treeOffset_51 rfl ?_
        refine v_iconst (v := nI 2) O dX4_treeOffset_53 (by decide) ?_
        refine v_idivN O dX4_treeOffset_54 (by omega) (by omega) (by omega) ?_
        refine v_istore O dX4_treeOffset_55 (by rw [hN]; decide) ?_
        refine v_goto (tgt := 13) O dX4_treeOffset_57 (by decide) ?_
        refine v_ord [3, 4, 5, 6] ?_
        refine ih (b / 2) (d / 2) c acc (by omega) (by rw [h2]) (by omega) hc (by omega) ?_
        unfold tof at kk
        rw [if_neg (by omega)] at kk
        exact kk
      · refine v_iload_n O dX4_treeOffset_32 rfl ?_
        refine v_iload O dX4_treeOffset_33 rfl ?_
        refine v_iload O dX4_treeOffset_35 rfl ?_
        refine v_isubN O dX4_treeOffset_37 (by omega) ?_
        refine v_iaddN O dX4_treeOffset_38 ?_
        refine v_istore_n O dX4_treeOffset_39 (by rw [hN]; decide) ?_
        refine v_iload O dX4_treeOffset_40 rfl ?_
        refine v_iload O dX4_treeOffset_42 rfl ?_
        refine v_isubN O dX4_treeOffset_44 (by omega) ?_
        refine v_istore O dX4_treeOffset_45 (by rw [hN]; decide) ?_
        refine v_iload O dX4_treeOffset_47 rfl ?_
        refine v_istore O dX4_treeOffset_49 (by rw [hN]; decide) ?_
        refine v_iload O dX4_treeOffset_51 rfl ?_
        refine v_iconst (v := nI 2) O dX4_treeOffset_53 (by decide) ?_
        refine v_idivN O dX4_treeOffset_54 (by omega) (by omega) (by omega) ?_
        refine v_istore O dX4_treeOffset_55 (by rw [hN]; decide) ?_
        refine v_goto (tgt := 13) O dX4_treeOffset_57 (by decide) ?_
        refine v_ord [3, 4, 5, 6] ?_
        refine ih (b / 2) (d / 2) (c - b) (acc + (d - d / 2)) (by omega) (by rw [h2]) (by omega) (by omega) (by omega) ?_
        unfold tof at kk
        rw [if_pos (by omega), ← h2, ← Nat.add_assoc] at kk
        exact kk
theorem x_treeOffset {E : ET} {w : va_W} {K : Nat} (hst : E.1.stackTraces = false) (hK : K ≤ 4) (m : Nat) (hn : m = 2 ^ K) (d c : Nat) (hd : d < 16) (hc : c < 16) : Ctr E yX4_treeOffset cdX4_treeOffset (rmL 1) [.int (nI m), .int (nI d), .int (nI c)] w (pR (some (.int (nI (tof K d c)))) w) noX 0 0 := by
  have h16 : m ≤ 16 := by rw [hn]; exact Nat.pow_le_pow_right (n := 2) (i := K) (j := 4) (by decide) hK
  refine ctr_of hst (by decide) (Nat.le_of_ble_eq_true rfl) (fun G O OR hN => ?_)
  have O : OKG E G cX4_treeOffset RX4 (rmL 1) [] := O
  have hN : nLG G = 8 := hN
  refine v_iconst (v := nI 0) O dX4_treeOffset_0 (by decide) ?_
  refine v_istore_n O dX4_treeOffset_1 (by rw [hN]; decide) ?_
  refine v_iload_n O dX4_treeOffset_2 rfl ?_
  refine v_istore O dX4_treeOffset_3 (by rw [hN]; decide) ?_
  refine v_iload_n O dX4_treeOffset_5 rfl ?_
  refine v_istore O dX4_treeOffset_6 (by rw [hN]; decide) ?_
  refine v_iload_n O dX4_treeOffset_8 rfl ?_
  refine v_iconst (v := nI 2) O dX4_treeOffset_9 (by decide) ?_
  refine v_idivN O dX4_treeOffset_10 (by omega) (by omega) (by omega) ?_
  refine v_istore O dX4_treeOffset_11 (by rw [hN]; decide) ?_
  refine v_ord [3, 4, 5, 6] ?_
  refine lp_treeOffset O hN K (m / 2) d c 0 hK (by rw [hn]) (by omega) (by omega) (by omega) ?_
  rw [Nat.zero_add]
  refine v_iload_n O dX4_treeOffset_60 rfl ?_
  exact v_ireturn O OR dX4_treeOffset_61 (⟨rfl, rfl⟩) (Nat.le_of_ble_eq_true rfl) (Nat.le_of_ble_eq_true rfl)
theorem x_straightOffset {E : ET} {w : va_W} (hst : E.1.stackTraces = false) (m : Nat) (hn : 2 ≤ m) (hn2 : m ≤ 16) (d c : Nat) (hd : d < 16) (hc : c < 16) : Ctr E yX4_straightOffset cdX4_straightOffset (rmL 1) [.int (nI m), .int (nI d), .int (nI c)] w (pR (some (.int (nI (sof m d c)))) w) noX 0 0 := by
  have h9 : 2 * d * c ≤ 2 * d * 16 := Nat.mul_le_mul_left _ (by omega)
  refine ctr_of hst (by decide) (Nat.le_of_ble_eq_true rfl) (fun G O OR hN => ?_)
  have O : OKG E G cX4_straightOffset RX4 (rmL 1) [] := O
  have hN : nLG G = 4 := hN
  refine v_iload_n O dX4_straightOffset_0 rfl ?_
  refine v_iconst (v := nI 1) O dX4_straightOffset_1 (by decide) ?_
  refine v_isubN O dX4_straightOffset_2 (by omega) ?_
  refine v_istore_n O dX4_straightOffset_3 (by rw [hN]; decide) ?_
  refine v_iload_n O dX4_straightOffset_4 rfl ?_
  refine v_iconst (v := nI 1) O dX4_straightOffset_5 (by decide) ?_
  refine v_icmpN_ge (tgt := 11) O dX4_straightOffset_6 (by decide) (by omega) (by omega) (fun h => ?_) (fun h => ?_)
  · refine v_iconst (v := nI 2) O dX4_straightOffset_11 (by decide) ?_
    refine v_iload_n O dX4_straightOffset_12 rfl ?_
    refine v_imulN O dX4_straightOffset_13 ?_
    refine v_iload_n O dX4_straightOffset_14 rfl ?_
    refine v_imulN O dX4_straightOffset_15 ?_
    refine v_iload_n O dX4_straightOffset_16 rfl ?_
    refine v_iaddN O dX4_straightOffset_17 ?_
    refine v_iconst (v := nI 2) O dX4_straightOffset_18 (by decide) ?_
    refine v_iload_n O dX4_straightOffset_19 rfl ?_
    refine v_imulN O dX4_straightOffset_20 ?_
    refine v_idivN O dX4_straightOffset_21 (by omega) (by omega) (by omega) ?_
    exact v_ireturn O OR dX4_straightOffset_22 (⟨rfl, rfl⟩) (Nat.le_of_ble_eq_true rfl) (Nat.le_of_ble_eq_true rfl)
  · omega
theorem abs_max {a b g : Nat} (ha : a < 2 ^ 30) (hb : b < 2 ^ 30) (hg : g < 2 ^ 30) : (if nI g < (if 0 ≤ nI a - nI b then nI a - nI b else 0 - (nI a - nI b)) then (if 0 ≤ nI a - nI b then nI a - nI b else 0 - (nI a - nI b)) else nI g) = nI (max g (adf a b)) := by
  have e : (if 0 ≤ nI a - nI b then nI a - nI b else 0 - (nI a - nI b)) = nI (adf a b) := by
    unfold adf
    by_cases h : b ≤ a
    · rw [if_pos ((sub_ge ha hb).mpr h), if_pos h, pk_sub h]
    · rw [if_neg (fun z => h ((sub_ge ha hb).mp z)), if_neg h, zsub_sb ha hb (by omega)]
  have hx : adf a b < 2 ^ 30 := by unfold adf; split <;> omega
  rw [e]
  by_cases h : g < adf a b
  · rw [if_pos (nI_lt h (by omega)), Nat.max_eq_right (by omega)]
  · rw [if_neg (nI_nlt (by omega) (by omega)), Nat.max_eq_left (by omega)]
theorem lp_greatestBend {E : ET} {G : GT} (O : OKG E G cX4_greatestBend RX4 (rmL 2) []) (hN : nLG G = 6) {w : va_W} {K m d : Nat} (hst : E.1.stackTraces = false) (hK : 1 ≤ K) (hK4 : K ≤ 4) (hn : m = 2 ^ K) (hd : d < 16) (kk : V E G 0 0 44 [(2, .int (nI (bnd K m d m)))] [] w) : ∀ j q : Nat, q ≤ m → j = m - q → V E G 0 0 4 [(0, .int (nI m)), (1, .int (nI d)), (2, .int (nI (bnd K m d q))), (3, .int (nI q))] [] w := by
  obtain ⟨g1, g2⟩ := two_le hn hK hK4
  intro j
  induction j using Nat.strongRecOn with
  | _ j ih =>
    intro q hq hj
    have hb : bnd K m d q ≤ d := bmx_le q (fun c hc => adf_le (tof_le K d c) (sof_le g1 (by omega)))
    refine v_iload_n O dX4_greatestBend_4 rfl ?_
    refine v_iload_n O dX4_greatestBend_5 rfl ?_
    refine v_icmpN_ge (tgt := 44) O dX4_greatestBend_6 (by decide) (by omega) (by omega) (fun h => ?_) (fun h => ?_)
    · have e : q = m := by omega
      subst e
      refine v_ord [2] ?_
      exact kk
    · have ht := tof_le K d q
      have hsf := sof_le (d := d) g1 h
      refine v_iload_n O dX4_greatestBend_9 rfl ?_
      refine v_iload_n O dX4_greatestBend_10 rfl ?_
      refine v_iload_n O dX4_greatestBend_11 rfl ?_
      refine v_S1 O dX4_greatestBend_12 lkX4_143 (x_treeOffset hst hK4 m hn d q hd (by omega)) rfl rfl rfl (by first | exact hkc | exact Nat.zero_le _) (by first | exact hks | exact Nat.zero_le _) ?_
      refine v_istore O dX4_greatestBend_15 (by rw [hN]; decide) ?_
      refine v_iload_n O dX4_greatestBend_17 rfl ?_
      refine v_iload_n O dX4_greatestBend_18 rfl ?_
      refine v_iload_n O dX4_greatestBend_19 rfl ?_
      refine v_S1 O dX4_greatestBend_20 lkX4_103 (x_straightOffset hst m g1 g2 d q hd (by omega)) rfl rfl rfl (by first | exact hkc | exact Nat.zero_le _) (by first | exact hks | exact Nat.zero_le _) ?_
      refine v_istore O dX4_greatestBend_23 (by rw [hN]; decide) ?_
      refine v_iload_n O dX4_greatestBend_25 rfl ?_
      refine v_iload O dX4_greatestBend_26 rfl ?_
      refine v_iload O dX4_greatestBend_28 rfl ?_
      refine v_isub O dX4_greatestBend_30 ?_
      refine v_abs O dX4_greatestBend_31 lkX4_251 (by decide) (Nat.le_of_ble_eq_true rfl) (by decide) (by decide) ?_
      refine v_max O dX4_greatestBend_34 lkX4_254 (by decide) (by decide) (by decide) (by decide) ?_
      rw [abs_max (by omega) (by omega) (by omega)]
      refine v_istore_n O dX4_greatestBend_37 (by rw [hN]; decide) ?_
      refine v_iincN (b := 1) O dX4_greatestBend_38 rfl (by decide) (by rw [hN]; decide) ?_
      refine v_goto (tgt := 4) O dX4_greatestBend_41 (by decide) ?_
      refine v_ord [0, 1, 2, 3] ?_
      exact ih (j - 1) (by omega) (q + 1) (by omega) (by omega)
theorem x_greatestBend {E : ET} {w : va_W} {K : Nat} (hst : E.1.stackTraces = false) (hK : 1 ≤ K) (hK4 : K ≤ 4) (m : Nat) (hn : m = 2 ^ K) (d : Nat) (hd : d < 16) : Ctr E yX4_greatestBend cdX4_greatestBend (rmL 2) [.int (nI m), .int (nI d)] w (pR (some (.int (nI (bnd K m d m)))) w) noX 0 0 := by
  refine ctr_of hst (by decide) (Nat.le_of_ble_eq_true rfl) (fun G O OR hN => ?_)
  have O : OKG E G cX4_greatestBend RX4 (rmL 2) [] := O
  have hN : nLG G = 6 := hN
  refine v_iconst (v := nI 0) O dX4_greatestBend_0 (by decide) ?_
  refine v_istore_n O dX4_greatestBend_1 (by rw [hN]; decide) ?_
  refine v_iconst (v := nI 0) O dX4_greatestBend_2 (by decide) ?_
  refine v_istore_n O dX4_greatestBend_3 (by rw [hN]; decide) ?_
  refine v_ord [0, 1, 2, 3] ?_
  refine lp_greatestBend O hN hst hK hK4 hn hd ?_ m 0 (by omega) (by omega)
  refine v_iload_n O dX4_greatestBend_44 rfl ?_
  exact v_ireturn O OR dX4_greatestBend_45 (⟨rfl, rfl⟩) (Nat.le_of_ble_eq_true rfl) (Nat.le_of_ble_eq_true rfl)
theorem lp_straightSum {E : ET} {G : GT} (O : OKG E G cX4_straightSum RX4 (rmL 2) []) (hN : nLG G = 6) {ad : Nat → Nat} {n t dr : Nat} {pw pe : Nat → Nat} {mk : Nat → Bool} {len : Nat} {cod : Nat → Nat} {fr : Bool} {ls lc u v : Nat} {su sp : Nat → Nat} {tot spr : Nat → Int64} {mm : Nat} {fs fc fw : Nat → Nat} {sc : Nat → Int64} {fe : Nat → Nat} {K d q : Nat} (hst : E.1.stackTraces = false) (hn1 : 2 ≤ n) (hn : n ≤ 16) (hd : d < n) (ht : t ≤ 48) (hq : q + d < t) (kk : V E G 0 0 67 [(3, .int (nI (lin mk pw n (oby K n true d) q)))] [] (WX E ad n t dr pw pe mk len cod fr ls lc u v su sp tot spr mm fs fc fw sc fe)) : ∀ j c : Nat, c ≤ n → j = n - c → V E G 0 0 5 [(0, .ref (ad 0)), (1, .int (nI d)), (2, .int (nI q)), (3, .int (nI (lin mk pw c (oby K n true d) q))), (4, .int (nI c))] [] (WX E ad n t dr pw pe mk len cod fr ls lc u v su sp tot spr mm fs fc fw sc fe) := by
  intro j
  induction j using Nat.strongRecOn with
  | _ j ih =>
    intro c hc hj
    refine v_iload O dX4_straightSum_5 rfl ?_
    refine v_aload_n O dX4_straightSum_7 rfl ?_
    refine v_get O dX4_straightSum_8 flX4_10 0 rfl rfl ?_
    refine v_getN O dX4_straightSum_11 flX4_44 1 rfl rfl ?_
    refine v_icmpN_ge (tgt := 67) O dX4_straightSum_14 (by decide) (by omega) (by omega) (fun h => ?_) (fun h => ?_)
    · have e : c = n := by omega
      subst e
      refine v_ord [3] ?_
      exact kk
    · have ho := sof_le (d := d) hn1 h
      have key : ∀ x, x = lin mk pw (c + 1) (oby K n true d) q → V E G 0 0 61 [(0, .ref (ad 0)), (1, .int (nI d)), (2, .int (nI q)), (3, .int (nI x)), (4, .int (nI c))] [] (WX E ad n t dr pw pe mk len cod fr ls lc u v su sp tot spr mm fs fc fw sc fe) := by
        intro x hx
        subst hx
        refine v_iincN (b := 1) O dX4_straightSum_61 rfl (by decide) (by rw [hN]; decide) ?_
        refine v_goto (tgt := 5) O dX4_straightSum_64 (by decide) ?_
        refine v_ord [0, 1, 2, 3, 4] ?_
        exact ih (j - 1) (by omega) (c + 1) (by omega) (by omega)
      refine v_aload_n O dX4_straightSum_17 rfl ?_
      refine v_get O dX4_straightSum_18 flX4_10 0 rfl rfl ?_
      refine v_getN O dX4_straightSum_21 flX4_128 1 rfl rfl ?_
      refine v_iload O dX4_straightSum_24 rfl ?_
      refine v_zald O dX4_straightSum_26 7 rfl (by decide) (by omega) ?_
      refine v_ifB_ne (tgt := 61) O dX4_straightSum_27 (by decide) (fun h2 => ?_) (fun h2 => ?_)
      · refine v_ord [0, 1, 2, 3, 4] ?_
        refine key _ ?_
        show lin mk pw c (oby K n true d) q = lin mk pw c (oby K n true d) q + (if mk c = true then 0 else pw ((q + oby K n true d c) * 16 + c))
        rw [if_pos h2]; rfl
      · refine v_aload_n O dX4_straightSum_30 rfl ?_
        refine v_get O dX4_straightSum_31 flX4_10 0 rfl rfl ?_
        refine v_getN O dX4_straightSum_34 flX4_44 1 rfl rfl ?_
        refine v_iload_n O dX4_straightSum_37 rfl ?_
        refine v_iload O dX4_straightSum_38 rfl ?_
        refine v_S1 O dX4_straightSum_40 lkX4_103 (x_straightOffset hst n hn1 hn d c (by omega) (by omega)) rfl rfl rfl (by first | exact hkc | exact Nat.zero_le _) (by first | exact hks | exact Nat.zero_le _) ?_
        refine v_istore O dX4_straightSum_43 (by rw [hN]; decide) ?_
        refine v_iload_n O dX4_straightSum_45 rfl ?_
        refine v_aload_n O dX4_straightSum_46 rfl ?_
        refine v_get O dX4_straightSum_47 flX4_10 0 rfl rfl ?_
        refine v_iload O dX4_straightSum_50 rfl ?_
        refine v_iload_n O dX4_straightSum_52 rfl ?_
        refine v_iload O dX4_straightSum_53 rfl ?_
        refine v_iaddN O dX4_straightSum_55 ?_
        refine v_VN1 O dX4_straightSum_56 lkX4_113 (c_powerAt hst (c := c) (q := q + sof n d c) (by omega) (by omega)) 1 rfl rfl rfl rfl rfl (by first | exact hkc | exact Nat.zero_le _) (by first | exact hks | exact Nat.zero_le _) ?_
        refine v_iaddN O dX4_straightSum_59 ?_
        refine v_istore_n O dX4_straightSum_60 (by rw [hN]; decide) ?_
        refine v_ord [0, 1, 2, 3, 4] ?_
        refine key _ ?_
        show lin mk pw c (oby K n true d) q + pw ((q + sof n d c) * 16 + c) = lin mk pw c (oby K n true d) q + (if mk c = true then 0 else pw ((q + oby K n true d c) * 16 + c))
        rw [if_neg (by rw [h2]; decide)]; rfl
theorem x_straightSum {E : ET} {ad : Nat → Nat} {n t dr : Nat} {pw pe : Nat → Nat} {mk : Nat → Bool} {len : Nat} {cod : Nat → Nat} {fr : Bool} {ls lc u v : Nat} {su sp : Nat → Nat} {tot spr : Nat → Int64} {mm : Nat} {fs fc fw : Nat → Nat} {sc : Nat → Int64} {fe : Nat → Nat} {K : Nat} (hst : E.1.stackTraces = false) (hn1 : 2 ≤ n) (hn : n ≤ 16) (ht : t ≤ 48) (d q : Nat) (hd : d < n) (hq : q + d < t) : Ctr E yX4_straightSum cdX4_straightSum (rmL 2) [.ref (ad 0), .int (nI d), .int (nI q)] (WX E ad n t dr pw pe mk len cod fr ls lc u v su sp tot spr mm fs fc fw sc fe) (pR (some (.int (nI (lin mk pw n (oby K n true d) q)))) (WX E ad n t dr pw pe mk len cod fr ls lc u v su sp tot spr mm fs fc fw sc fe)) noX 0 0 := by
  refine ctr_of hst (by decide) (Nat.le_of_ble_eq_true rfl) (fun G O OR hN => ?_)
  have O : OKG E G cX4_straightSum RX4 (rmL 2) [] := O
  have hN : nLG G = 6 := hN
  refine v_iconst (v := nI 0) O dX4_straightSum_0 (by decide) ?_
  refine v_istore_n O dX4_straightSum_1 (by rw [hN]; decide) ?_
  refine v_iconst (v := nI 0) O dX4_straightSum_2 (by decide) ?_
  refine v_istore O dX4_straightSum_3 (by rw [hN]; decide) ?_
  refine v_ord [0, 1, 2, 3, 4] ?_
  refine lp_straightSum (K := K) O hN hst hn1 hn hd ht hq ?_ n 0 (by omega) (by omega)
  refine v_iload_n O dX4_straightSum_67 rfl ?_
  exact v_ireturn O OR dX4_straightSum_68 (⟨rfl, rfl⟩) (Nat.le_of_ble_eq_true rfl) (Nat.le_of_ble_eq_true rfl)
