-- the class: text and data
theorem x_powerOf {E : ET} {w : va_W} (hst : E.1.stackTraces = false) (c : Nat) (hc : c < 128) : Ctr E yX3_powerOf cdX3_powerOf (rmL 1) [.int (nI c)] w (pR (some (.int (pvI c))) w) noX 0 0 := by
  refine ctr_of hst (by decide) (Nat.le_of_ble_eq_true rfl) (fun G O OR hN => ?_)
  have O : OKG E G cX3_powerOf RX3 (rmL 1) [] := O
  have hN : nLG G = 1 := hN
  have key : ¬ (48 ≤ c ∧ c ≤ 57) → V E G 0 0 17 [(0, .int (nI c))] [] w := by
    intro hn
    refine v_iload_n O dX3_powerOf_17 rfl ?_
    refine v_bipush (v := nI 65) O dX3_powerOf_18 (by decide) ?_
    refine v_icmpN_lt (tgt := 37) O dX3_powerOf_20 (by decide) (by omega) (by omega) (fun h => ?_) (fun h => ?_)
    · refine v_iconst (v := -1) O dX3_powerOf_37 (by decide) ?_
      exact v_ireturn O OR dX3_powerOf_38 (⟨by unfold pvI isP; rw [decide_eq_false hn, decide_eq_false (by omega)]; rfl, rfl⟩) (Nat.le_of_ble_eq_true rfl) (Nat.le_of_ble_eq_true rfl)
    · refine v_iload_n O dX3_powerOf_23 rfl ?_
      refine v_bipush (v := nI 90) O dX3_powerOf_24 (by decide) ?_
      refine v_icmpN_gt (tgt := 37) O dX3_powerOf_26 (by decide) (by omega) (by omega) (fun h2 => ?_) (fun h2 => ?_)
      · refine v_iconst (v := -1) O dX3_powerOf_37 (by decide) ?_
        exact v_ireturn O OR dX3_powerOf_38 (⟨by unfold pvI isP; rw [decide_eq_false hn, decide_eq_false (by omega)]; rfl, rfl⟩) (Nat.le_of_ble_eq_true rfl) (Nat.le_of_ble_eq_true rfl)
      · refine v_iload_n O dX3_powerOf_29 rfl ?_
        refine v_bipush (v := nI 65) O dX3_powerOf_30 (by decide) ?_
        refine v_isubN O dX3_powerOf_32 (by omega) ?_
        refine v_bipush (v := nI 10) O dX3_powerOf_33 (by decide) ?_
        refine v_iaddN O dX3_powerOf_35 ?_
        exact v_ireturn O OR dX3_powerOf_36 (⟨by unfold pvI isP; rw [decide_eq_false hn, decide_eq_true (by omega)]; simp only [Bool.or_true, if_true]; unfold pv; rw [if_neg (by omega), show c - 65 + 10 = c - 55 by omega], rfl⟩) (Nat.le_of_ble_eq_true rfl) (Nat.le_of_ble_eq_true rfl)
  refine v_iload_n O dX3_powerOf_0 rfl ?_
  refine v_bipush (v := nI 48) O dX3_powerOf_1 (by decide) ?_
  refine v_icmpN_lt (tgt := 17) O dX3_powerOf_3 (by decide) (by omega) (by omega) (fun h => ?_) (fun h => ?_)
  · exact key (by omega)
  · refine v_iload_n O dX3_powerOf_6 rfl ?_
    refine v_bipush (v := nI 57) O dX3_powerOf_7 (by decide) ?_
    refine v_icmpN_gt (tgt := 17) O dX3_powerOf_9 (by decide) (by omega) (by omega) (fun h2 => ?_) (fun h2 => ?_)
    · exact key (by omega)
    · refine v_iload_n O dX3_powerOf_12 rfl ?_
      refine v_bipush (v := nI 48) O dX3_powerOf_13 (by decide) ?_
      refine v_isubN O dX3_powerOf_15 (by omega) ?_
      exact v_ireturn O OR dX3_powerOf_16 (⟨by unfold pvI isP; rw [decide_eq_true (by omega)]; simp only [Bool.true_or, if_true]; unfold pv; rw [if_pos (by omega)], rfl⟩) (Nat.le_of_ble_eq_true rfl) (Nat.le_of_ble_eq_true rfl)
theorem lp_indexOf {E : ET} {G : GT} (O : OKG E G cX3_indexOfFirstError RX3 (rmL 2) []) (hN : nLG G = 2) {ad : Nat → Nat} {n t dr : Nat} {pw pe : Nat → Nat} {mk : Nat → Bool} {len : Nat} {cod : Nat → Nat} {fr : Bool} {ls lc u v : Nat} {su sp : Nat → Nat} {tot spr : Nat → Int64} {mm : Nat} {fs fc fw : Nat → Nat} {sc : Nat → Int64} {fe : Nat → Nat} (hst : E.1.stackTraces = false) (hl : len ≤ 64) (hcod : ∀ j, j < len → cod j < 128) (OR : OKR E G (pR (some (.int (nI (errAt cod len)))) (WX E ad n t dr pw pe mk len cod fr ls lc u v su sp tot spr mm fs fc fw sc fe)) noX 0 0 (some .int)) : ∀ j q : Nat, q ≤ len → (∀ i, i < q → isP (cod i) = true) → j = len - q → V E G 0 0 2 [(0, .ref (ad 2)), (1, .int (nI q))] [] (WX E ad n t dr pw pe mk len cod fr ls lc u v su sp tot spr mm fs fc fw sc fe) := by
  intro j
  induction j using Nat.strongRecOn with
  | _ j ih =>
    intro q hq hp hj
    refine v_iload_n O dX3_indexOfFirstError_2 rfl ?_
    refine v_aload_n O dX3_indexOfFirstError_3 rfl ?_
    refine v_get O dX3_indexOfFirstError_4 flX3_9 2 rfl rfl ?_
    refine v_icmpN_ge (tgt := 31) O dX3_indexOfFirstError_7 (by decide) (by omega) (by omega) (fun h => ?_) (fun h => ?_)
    · have e : errAt cod len = len := errAt_of (Nat.le_refl _) (fun i hi => hp i (by omega)) (Or.inl rfl)
      refine v_aload_n O dX3_indexOfFirstError_31 rfl ?_
      refine v_get O dX3_indexOfFirstError_32 flX3_9 2 rfl rfl ?_
      exact v_ireturn O OR dX3_indexOfFirstError_35 (⟨by rw [e], rfl⟩) (Nat.le_of_ble_eq_true rfl) (Nat.le_of_ble_eq_true rfl)
    · refine v_aload_n O dX3_indexOfFirstError_10 rfl ?_
      refine v_get O dX3_indexOfFirstError_11 flX3_15 2 rfl rfl ?_
      refine v_iload_n O dX3_indexOfFirstError_14 rfl ?_
      refine v_iald O dX3_indexOfFirstError_15 8 rfl (by decide) (by omega) ?_
      refine v_S1 O dX3_indexOfFirstError_16 lkX3_19 (x_powerOf hst (cod q) (hcod q (by omega))) rfl rfl rfl (by first | exact hkc | exact Nat.zero_le _) (by first | exact hks | exact Nat.zero_le _) ?_
      refine v_iconst (v := -1) O dX3_indexOfFirstError_19 (by decide) ?_
      refine v_icmp_ne (tgt := 25) O dX3_indexOfFirstError_20 (by decide) (fun h2 => ?_) (fun h2 => ?_)
      · have h3 : isP (cod q) = true := by
          cases h4 : isP (cod q)
          · exact absurd ((pvI_m1 (hcod q (by omega))).mpr h4) h2
          · rfl
        refine v_iincN (b := 1) O dX3_indexOfFirstError_25 rfl (by decide) (by rw [hN]; decide) ?_
        refine v_goto (tgt := 2) O dX3_indexOfFirstError_28 (by decide) ?_
        refine v_ord [0, 1] ?_
        exact ih (j - 1) (by omega) (q + 1) (by omega) (fun i hi => by
          rcases Nat.lt_or_ge i q with g | g
          · exact hp i g
          · rw [show i = q by omega]; exact h3) (by omega)
      · have e : errAt cod len = q := errAt_of hq hp (Or.inr ((pvI_m1 (hcod q (by omega))).mp h2))
        refine v_iload_n O dX3_indexOfFirstError_23 rfl ?_
        exact v_ireturn O OR dX3_indexOfFirstError_24 (⟨by rw [e], rfl⟩) (Nat.le_of_ble_eq_true rfl) (Nat.le_of_ble_eq_true rfl)
theorem x_indexOf {E : ET} {ad : Nat → Nat} {n t dr : Nat} {pw pe : Nat → Nat} {mk : Nat → Bool} {len : Nat} {cod : Nat → Nat} {fr : Bool} {ls lc u v : Nat} {su sp : Nat → Nat} {tot spr : Nat → Int64} {mm : Nat} {fs fc fw : Nat → Nat} {sc : Nat → Int64} {fe : Nat → Nat} (hst : E.1.stackTraces = false) (hl : len ≤ 64) (hcod : ∀ j, j < len → cod j < 128) : Ctr E yX3_indexOfFirstError cdX3_indexOfFirstError (rmL 2) [.ref (ad 2)] (WX E ad n t dr pw pe mk len cod fr ls lc u v su sp tot spr mm fs fc fw sc fe) (pR (some (.int (nI (errAt cod len)))) (WX E ad n t dr pw pe mk len cod fr ls lc u v su sp tot spr mm fs fc fw sc fe)) noX 0 0 := by
  refine ctr_of hst (by decide) (Nat.le_of_ble_eq_true rfl) (fun G O OR hN => ?_)
  have O : OKG E G cX3_indexOfFirstError RX3 (rmL 2) [] := O
  have hN : nLG G = 2 := hN
  refine v_iconst (v := nI 0) O dX3_indexOfFirstError_0 (by decide) ?_
  refine v_istore_n O dX3_indexOfFirstError_1 (by rw [hN]; decide) ?_
  refine v_ord [0, 1] ?_
  exact lp_indexOf O hN hst hl hcod OR len 0 (by omega) (fun i hi => by omega) (by omega)
def cntC (cod : Nat → Nat) (len n : Nat) : Nat := if len % n = 0 ∧ errAt cod len = len then len / n else 0
theorem x_countColumns {E : ET} {ad : Nat → Nat} {n t dr : Nat} {pw pe : Nat → Nat} {mk : Nat → Bool} {len : Nat} {cod : Nat → Nat} {fr : Bool} {ls lc u v : Nat} {su sp : Nat → Nat} {tot spr : Nat → Int64} {mm : Nat} {fs fc fw : Nat → Nat} {sc : Nat → Int64} {fe : Nat → Nat} (hst : E.1.stackTraces = false) (hl : len ≤ 64) (hcod : ∀ j, j < len → cod j < 128) (m : Nat) (hm1 : 2 ≤ m) (hm : m ≤ 16) : Ctr E yX3_countColumns cdX3_countColumns (rmL 3) [.ref (ad 2), .int (nI m)] (WX E ad n t dr pw pe mk len cod fr ls lc u v su sp tot spr mm fs fc fw sc fe) (pR (some (.int (nI (cntC cod len m)))) (WX E ad n t dr pw pe mk len cod fr ls lc u v su sp tot spr mm fs fc fw sc fe)) noX 0 0 := by
  have hea : errAt cod len ≤ len := fa_first_le (fun i => !isP (cod i)) len
  have hmod := Nat.mod_lt len (show 0 < m by omega)
  refine ctr_of hst (by decide) (Nat.le_of_ble_eq_true rfl) (fun G O OR hN => ?_)
  have O : OKG E G cX3_countColumns RX3 (rmL 3) [] := O
  have hN : nLG G = 2 := hN
  have key : ¬ (len % m = 0 ∧ errAt cod len = len) → V E G 0 0 25 [(0, .ref (ad 2)), (1, .int (nI m))] [] (WX E ad n t dr pw pe mk len cod fr ls lc u v su sp tot spr mm fs fc fw sc fe) := by
    intro hx
    refine v_iconst (v := nI 0) O dX3_countColumns_25 (by decide) ?_
    exact v_ireturn O OR dX3_countColumns_26 (⟨by unfold cntC; rw [if_neg hx], rfl⟩) (Nat.le_of_ble_eq_true rfl) (Nat.le_of_ble_eq_true rfl)
  refine v_iload_n O dX3_countColumns_0 rfl ?_
  refine v_iconst (v := nI 1) O dX3_countColumns_1 (by decide) ?_
  refine v_icmpN_lt (tgt := 25) O dX3_countColumns_2 (by decide) (by omega) (by omega) (fun h => ?_) (fun h => ?_)
  · omega
  · refine v_aload_n O dX3_countColumns_5 rfl ?_
    refine v_get O dX3_countColumns_6 flX3_9 2 rfl rfl ?_
    refine v_iload_n O dX3_countColumns_9 rfl ?_
    refine v_iremN O dX3_countColumns_10 (by omega) (by omega) (by omega) ?_
    refine v_ifN_ne (tgt := 25) O dX3_countColumns_11 (by decide) (by omega) (fun h3 => ?_) (fun h3 => ?_)
    · exact key (by omega)
    · refine v_aload_n O dX3_countColumns_14 rfl ?_
      refine v_V1 O dX3_countColumns_15 lkX3_23 (x_indexOf hst hl hcod) 2 rfl rfl rfl rfl rfl (by first | exact hkc | exact Nat.zero_le _) (by first | exact hks | exact Nat.zero_le _) ?_
      refine v_aload_n O dX3_countColumns_18 rfl ?_
      refine v_get O dX3_countColumns_19 flX3_9 2 rfl rfl ?_
      refine v_icmpN_ge (tgt := 27) O dX3_countColumns_22 (by decide) (by omega) (by omega) (fun h4 => ?_) (fun h4 => ?_)
      · refine v_aload_n O dX3_countColumns_27 rfl ?_
        refine v_get O dX3_countColumns_28 flX3_9 2 rfl rfl ?_
        refine v_iload_n O dX3_countColumns_31 rfl ?_
        refine v_idivN O dX3_countColumns_32 (by omega) (by omega) (by omega) ?_
        exact v_ireturn O OR dX3_countColumns_33 (⟨by unfold cntC; rw [if_pos ⟨h3, by omega⟩], rfl⟩) (Nat.le_of_ble_eq_true rfl) (Nat.le_of_ble_eq_true rfl)
      · exact key (by omega)
theorem lp_beginAnew {E : ET} {G : GT} {R0 : Room} {tb : List ExceptionTableEntry} (O : OKG E G cX1_beginAnew RX1 R0 tb) (hN : nLG G = 3) {ad : Nat → Nat} {n t dr : Nat} {pw pe : Nat → Nat} {mk : Nat → Bool} {len : Nat} {cod : Nat → Nat} {fr : Bool} {ls lc u v : Nat} {su sp : Nat → Nat} {tot spr : Nat → Int64} {mm : Nat} {fs fc fw : Nat → Nat} {sc : Nat → Int64} {fe : Nat → Nat} (kk : V E G 0 0 43 [] [] (WX E ad n t dr pw (fil pe 0 16) (fil mk false 16) len cod fr ls lc u v su sp tot spr mm fs fc fw sc fe)) : ∀ j q : Nat, q ≤ 16 → j = 16 - q → V E G 0 0 17 [(0, .ref (ad 1)), (2, .int (nI q))] [] (WX E ad n t dr pw (fil pe 0 q) (fil mk false q) len cod fr ls lc u v su sp tot spr mm fs fc fw sc fe) := by
  intro j
  induction j using Nat.strongRecOn with
  | _ j ih =>
    intro q hq hj
    refine v_iload_n O dX1_beginAnew_17 rfl ?_
    refine v_bipush (v := nI 16) O dX1_beginAnew_18 (by decide) ?_
    refine v_icmpN_ge (tgt := 43) O dX1_beginAnew_20 (by decide) (by omega) (by omega) (fun h => ?_) (fun h => ?_)
    · have e : q = 16 := by omega
      subst e
      refine v_ord [] ?_
      exact kk
    · refine v_aload_n O dX1_beginAnew_23 rfl ?_
      refine v_get O dX1_beginAnew_24 flX1_25 1 rfl rfl ?_
      refine v_iload_n O dX1_beginAnew_27 rfl ?_
      refine v_iconst (v := nI 0) O dX1_beginAnew_28 (by decide) ?_
      refine v_iastN O dX1_beginAnew_29 6 rfl (by decide) (by omega) ?_
      refine v_aload_n O dX1_beginAnew_30 rfl ?_
      refine v_get O dX1_beginAnew_31 flX1_28 1 rfl rfl ?_
      refine v_iload_n O dX1_beginAnew_34 rfl ?_
      refine v_iconst (v := bI false) O dX1_beginAnew_35 (by decide) ?_
      refine v_zastB O dX1_beginAnew_36 7 rfl (by decide) (by omega) ?_
      refine v_iincN (b := 1) O dX1_beginAnew_37 rfl (by decide) (by rw [hN]; decide) ?_
      refine v_goto (tgt := 17) O dX1_beginAnew_40 (by decide) ?_
      refine v_ord [0, 2] ?_
      refine v_w (w' := (WX E ad n t dr pw (fil pe 0 (q + 1)) (fil mk false (q + 1)) len cod fr ls lc u v su sp tot spr mm fs fc fw sc fe)) (by rw [← fil_s, ← fil_s]; rfl) ?_
      exact ih (j - 1) (by omega) (q + 1) (by omega) (by omega)
theorem x_beginAnew {E : ET} {ad : Nat → Nat} {n t dr : Nat} {pw pe : Nat → Nat} {mk : Nat → Bool} {len : Nat} {cod : Nat → Nat} {fr : Bool} {ls lc u v : Nat} {su sp : Nat → Nat} {tot spr : Nat → Int64} {mm : Nat} {fs fc fw : Nat → Nat} {sc : Nat → Int64} {fe : Nat → Nat} (hst : E.1.stackTraces = false) (m : Nat) : Ctr E yX1_beginAnew cdX1_beginAnew (rmL 1) [.ref (ad 1), .int (nI m)] (WX E ad n t dr pw pe mk len cod fr ls lc u v su sp tot spr mm fs fc fw sc fe) (pR none (WX E ad (m) (0) (0) pw (fil pe 0 16) (fil mk false 16) len cod fr ls lc u v su sp tot spr mm fs fc fw sc fe)) noX 0 0 := by
  refine ctr_of hst (by decide) (Nat.le_of_ble_eq_true rfl) (fun G O OR hN => ?_)
  have O : OKG E G cX1_beginAnew RX1 (rmL 1) [] := O
  have hN : nLG G = 3 := hN
  refine v_aload_n O dX1_beginAnew_0 rfl ?_
  refine v_iload_n O dX1_beginAnew_1 rfl ?_
  refine v_put (ty := .int) O dX1_beginAnew_2 flX1_9 ftX1 1 rfl rfl (by decide +kernel) rfl rfl (Nat.le_of_ble_eq_true rfl) ?_
  refine v_aload_n O dX1_beginAnew_5 rfl ?_
  refine v_iconst (v := nI 0) O dX1_beginAnew_6 (by decide) ?_
  refine v_put (ty := .int) O dX1_beginAnew_7 flX1_15 ftX1 1 rfl rfl (by decide +kernel) rfl rfl (Nat.le_of_ble_eq_true rfl) ?_
  refine v_aload_n O dX1_beginAnew_10 rfl ?_
  refine v_iconst (v := nI 0) O dX1_beginAnew_11 (by decide) ?_
  refine v_put (ty := .int) O dX1_beginAnew_12 flX1_18 ftX1 1 rfl rfl (by decide +kernel) rfl rfl (Nat.le_of_ble_eq_true rfl) ?_
  refine v_iconst (v := nI 0) O dX1_beginAnew_15 (by decide) ?_
  refine v_istore_n O dX1_beginAnew_16 (by rw [hN]; decide) ?_
  refine v_ord [0, 2] ?_
  refine v_w (w' := (WX E ad (m) (0) (0) pw (fil pe 0 0) (fil mk false 0) len cod fr ls lc u v su sp tot spr mm fs fc fw sc fe)) (by rw [fil_0, fil_0]; rfl) ?_
  refine lp_beginAnew O hN ?_ 16 0 (by omega) (by omega)
  exact v_return O OR dX1_beginAnew_43 (⟨rfl, rfl⟩) (Nat.le_of_ble_eq_true rfl) (Nat.le_of_ble_eq_true rfl)
theorem cpy_sh (pw : Nat → Nat) : va_cpy pw pw 16 0 752 = shK pw 752 := by
  funext q
  simp only [va_cpy, shK]
  by_cases h : q < 752
  · rw [if_pos (by omega), if_pos h, show 16 + (q - 0) = q + 16 by omega]
  · rw [if_neg (by omega), if_neg h]
theorem x_openColumn {E : ET} {ad : Nat → Nat} {n t dr : Nat} {pw pe : Nat → Nat} {mk : Nat → Bool} {len : Nat} {cod : Nat → Nat} {fr : Bool} {ls lc u v : Nat} {su sp : Nat → Nat} {tot spr : Nat → Int64} {mm : Nat} {fs fc fw : Nat → Nat} {sc : Nat → Int64} {fe : Nat → Nat} (hst : E.1.stackTraces = false) (ht : t ≤ 48) : Ctr E yX1_openColumn cdX1_openColumn (rmL 1) [.ref (ad 1)] (WX E ad n t dr pw pe mk len cod fr ls lc u v su sp tot spr mm fs fc fw sc fe) (pR (some (.int (nI ((bgT t - 1) * 16)))) (WX E ad n (bgT t) (bgD t dr) (bgP t pw) pe mk len cod fr ls lc u v su sp tot spr mm fs fc fw sc fe)) noX 0 0 := by
  refine ctr_of hst (by decide) (Nat.le_of_ble_eq_true rfl) (fun G O OR hN => ?_)
  have O : OKG E G cX1_openColumn RX1 (rmL 1) [] := O
  have hN : nLG G = 1 := hN
  refine v_aload_n O dX1_openColumn_0 rfl ?_
  refine v_get O dX1_openColumn_1 flX1_15 1 rfl rfl ?_
  refine v_bipush (v := nI 48) O dX1_openColumn_4 (by decide) ?_
  refine v_icmpN_lt (tgt := 39) O dX1_openColumn_6 (by decide) (by omega) (by omega) (fun h => ?_) (fun h => ?_)
  · refine v_aload_n O dX1_openColumn_39 rfl ?_
    refine v_dup O dX1_openColumn_40 rfl ?_
    refine v_get O dX1_openColumn_41 flX1_15 1 rfl rfl ?_
    refine v_iconst (v := nI 1) O dX1_openColumn_44 (by decide) ?_
    refine v_iaddN O dX1_openColumn_45 ?_
    refine v_put (ty := .int) O dX1_openColumn_46 flX1_15 ftX1 1 rfl rfl (by decide +kernel) rfl rfl (Nat.le_of_ble_eq_true rfl) ?_
    refine v_aload_n O dX1_openColumn_49 rfl ?_
    refine v_get O dX1_openColumn_50 flX1_15 1 rfl rfl ?_
    refine v_iconst (v := nI 1) O dX1_openColumn_53 (by decide) ?_
    refine v_isubN O dX1_openColumn_54 (by omega) ?_
    refine v_bipush (v := nI 16) O dX1_openColumn_55 (by decide) ?_
    refine v_imulN O dX1_openColumn_57 ?_
    exact v_ireturn O OR dX1_openColumn_58 (⟨by unfold bgT; rw [if_neg (by omega)], by simp only [bgT, bgD, bgP, if_neg (show ¬ t = 48 by omega)]; rfl⟩) (Nat.le_of_ble_eq_true rfl) (Nat.le_of_ble_eq_true rfl)
  · have e : t = 48 := by omega
    subst e
    refine v_aload_n O dX1_openColumn_9 rfl ?_
    refine v_get O dX1_openColumn_10 flX1_21 1 rfl rfl ?_
    refine v_bipush (v := nI 16) O dX1_openColumn_13 (by decide) ?_
    refine v_aload_n O dX1_openColumn_15 rfl ?_
    refine v_get O dX1_openColumn_16 flX1_21 1 rfl rfl ?_
    refine v_iconst (v := nI 0) O dX1_openColumn_19 (by decide) ?_
    refine v_sipush (v := nI 752) O dX1_openColumn_20 (by decide) ?_
    refine v_copy O dX1_openColumn_23 lkX1_32 5 rfl (by decide) (by omega) (by omega) (by decide) (by decide) ?_
    refine v_w (w' := (WX E ad n (48) dr (shK pw 752) pe mk len cod fr ls lc u v su sp tot spr mm fs fc fw sc fe)) (by rw [← cpy_sh]; rfl) ?_
    refine v_aload_n O dX1_openColumn_26 rfl ?_
    refine v_dup O dX1_openColumn_27 rfl ?_
    refine v_get O dX1_openColumn_28 flX1_18 1 rfl rfl ?_
    refine v_iconst (v := nI 1) O dX1_openColumn_31 (by decide) ?_
    refine v_iaddN O dX1_openColumn_32 ?_
    refine v_put (ty := .int) O dX1_openColumn_33 flX1_18 ftX1 1 rfl rfl (by decide +kernel) rfl rfl (Nat.le_of_ble_eq_true rfl) ?_
    refine v_goto (tgt := 49) O dX1_openColumn_36 (by decide) ?_
    refine v_aload_n O dX1_openColumn_49 rfl ?_
    refine v_get O dX1_openColumn_50 flX1_15 1 rfl rfl ?_
    refine v_iconst (v := nI 1) O dX1_openColumn_53 (by decide) ?_
    refine v_isubN O dX1_openColumn_54 (by omega) ?_
    refine v_bipush (v := nI 16) O dX1_openColumn_55 (by decide) ?_
    refine v_imulN O dX1_openColumn_57 ?_
    exact v_ireturn O OR dX1_openColumn_58 (⟨rfl, rfl⟩) (Nat.le_of_ble_eq_true rfl) (Nat.le_of_ble_eq_true rfl)
theorem lp_takePending {E : ET} {G : GT} (O : OKG E G cX1_takePending RX1 (rmL 2) []) (hN : nLG G = 3) {ad : Nat → Nat} {n t dr : Nat} {pw pe : Nat → Nat} {mk : Nat → Bool} {len : Nat} {cod : Nat → Nat} {fr : Bool} {ls lc u v : Nat} {su sp : Nat → Nat} {tot spr : Nat → Int64} {mm : Nat} {fs fc fw : Nat → Nat} {sc : Nat → Int64} {fe : Nat → Nat} {b : Nat} (hn : n ≤ 16) (hb : b + 16 ≤ 768) (kk : V E G 0 0 42 [] [] (WX E ad n t dr (lay pw pe b n) (fil pe 0 n) mk len cod fr ls lc u v su sp tot spr mm fs fc fw sc fe)) : ∀ j q : Nat, q ≤ n → j = n - q → V E G 0 0 7 [(0, .ref (ad 1)), (1, .int (nI b)), (2, .int (nI q))] [] (WX E ad n t dr (lay pw pe b q) (fil pe 0 q) mk len cod fr ls lc u v su sp tot spr mm fs fc fw sc fe) := by
  intro j
  induction j using Nat.strongRecOn with
  | _ j ih =>
    intro q hq hj
    refine v_iload_n O dX1_takePending_7 rfl ?_
    refine v_aload_n O dX1_takePending_8 rfl ?_
    refine v_get O dX1_takePending_9 flX1_9 1 rfl rfl ?_
    refine v_icmpN_ge (tgt := 42) O dX1_takePending_12 (by decide) (by omega) (by omega) (fun h => ?_) (fun h => ?_)
    · have e : q = n := by omega
      subst e
      refine v_ord [] ?_
      exact kk
    · refine v_aload_n O dX1_takePending_15 rfl ?_
      refine v_get O dX1_takePending_16 flX1_21 1 rfl rfl ?_
      refine v_iload_n O dX1_takePending_19 rfl ?_
      refine v_iload_n O dX1_takePending_20 rfl ?_
      refine v_iaddN O dX1_takePending_21 ?_
      refine v_aload_n O dX1_takePending_22 rfl ?_
      refine v_get O dX1_takePending_23 flX1_25 1 rfl rfl ?_
      refine v_iload_n O dX1_takePending_26 rfl ?_
      refine v_iald O dX1_takePending_27 6 rfl (by decide) (by omega) ?_
      rw [show fil pe 0 q q = pe q from if_neg (by omega)]
      refine v_iastN O dX1_takePending_28 5 rfl (by decide) (by omega) ?_
      refine v_aload_n O dX1_takePending_29 rfl ?_
      refine v_get O dX1_takePending_30 flX1_25 1 rfl rfl ?_
      refine v_iload_n O dX1_takePending_33 rfl ?_
      refine v_iconst (v := nI 0) O dX1_takePending_34 (by decide) ?_
      refine v_iastN O dX1_takePending_35 6 rfl (by decide) (by omega) ?_
      refine v_iincN (b := 1) O dX1_takePending_36 rfl (by decide) (by rw [hN]; decide) ?_
      refine v_goto (tgt := 7) O dX1_takePending_39 (by decide) ?_
      refine v_ord [0, 1, 2] ?_
      refine v_w (w' := (WX E ad n t dr (lay pw pe b (q + 1)) (fil pe 0 (q + 1)) mk len cod fr ls lc u v su sp tot spr mm fs fc fw sc fe)) (by rw [← fil_s, ← lay_s]; rfl) ?_
      exact ih (j - 1) (by omega) (q + 1) (by omega) (by omega)
theorem x_takePending {E : ET} {ad : Nat → Nat} {n t dr : Nat} {pw pe : Nat → Nat} {mk : Nat → Bool} {len : Nat} {cod : Nat → Nat} {fr : Bool} {ls lc u v : Nat} {su sp : Nat → Nat} {tot spr : Nat → Int64} {mm : Nat} {fs fc fw : Nat → Nat} {sc : Nat → Int64} {fe : Nat → Nat} (hst : E.1.stackTraces = false) (hn : n ≤ 16) (ht : t ≤ 48) : Ctr E yX1_takePending cdX1_takePending (rmL 2) [.ref (ad 1)] (WX E ad n t dr pw pe mk len cod fr ls lc u v su sp tot spr mm fs fc fw sc fe) (pR none (WX E ad n (bgT t) (bgD t dr) (lay (bgP t pw) pe ((bgT t - 1) * 16) n) (fil pe 0 n) mk len cod fr ls lc u v su sp tot spr mm fs fc fw sc fe)) noX 0 0 := by
  obtain ⟨b1, b2⟩ := bgT_le ht
  refine ctr_of hst (by decide) (Nat.le_of_ble_eq_true rfl) (fun G O OR hN => ?_)
  have O : OKG E G cX1_takePending RX1 (rmL 2) [] := O
  have hN : nLG G = 3 := hN
  refine v_aload_n O dX1_takePending_0 rfl ?_
  refine v_V1 O dX1_takePending_1 lkX1_38 (x_openColumn hst ht) 1 rfl rfl rfl rfl rfl (by first | exact hkc | exact Nat.zero_le _) (by first | exact hks | exact Nat.zero_le _) ?_
  refine v_istore_n O dX1_takePending_4 (by rw [hN]; decide) ?_
  refine v_iconst (v := nI 0) O dX1_takePending_5 (by decide) ?_
  refine v_istore_n O dX1_takePending_6 (by rw [hN]; decide) ?_
  refine v_ord [0, 1, 2] ?_
  refine v_w (w' := (WX E ad n (bgT t) (bgD t dr) (lay (bgP t pw) pe ((bgT t - 1) * 16) 0) (fil pe 0 0) mk len cod fr ls lc u v su sp tot spr mm fs fc fw sc fe)) (by rw [fil_0, lay_0]) ?_
  refine lp_takePending O hN hn (by omega) ?_ n 0 (by omega) (by omega)
  exact v_return O OR dX1_takePending_42 (⟨rfl, rfl⟩) (Nat.le_of_ble_eq_true rfl) (Nat.le_of_ble_eq_true rfl)
theorem lp_takeColumn {E : ET} {G : GT} (O : OKG E G cX1_takeColumn RX1 (rmL 2) []) (hN : nLG G = 5) {ad : Nat → Nat} {n t dr : Nat} {pw pe : Nat → Nat} {mk : Nat → Bool} {len : Nat} {cod : Nat → Nat} {fr : Bool} {ls lc u v : Nat} {su sp : Nat → Nat} {tot spr : Nat → Int64} {mm : Nat} {fs fc fw : Nat → Nat} {sc : Nat → Int64} {fe : Nat → Nat} {b s : Nat} (hst : E.1.stackTraces = false) (hn : n ≤ 16) (hb : b + 16 ≤ 768) (hl : len ≤ 64) (hs : s + n ≤ len) (hcod : ∀ j, j < len → cod j < 128 ∧ isP (cod j) = true) (kk : V E G 0 0 44 [] [] (WX E ad n t dr (lay pw (fun c => pv (cod (s + c))) b n) pe mk len cod fr ls lc u v su sp tot spr mm fs fc fw sc fe)) : ∀ j q : Nat, q ≤ n → j = n - q → V E G 0 0 8 [(0, .ref (ad 1)), (1, .ref (ad 2)), (2, .int (nI s)), (3, .int (nI b)), (4, .int (nI q))] [] (WX E ad n t dr (lay pw (fun c => pv (cod (s + c))) b q) pe mk len cod fr ls lc u v su sp tot spr mm fs fc fw sc fe) := by
  intro j
  induction j using Nat.strongRecOn with
  | _ j ih =>
    intro q hq hj
    refine v_iload O dX1_takeColumn_8 rfl ?_
    refine v_aload_n O dX1_takeColumn_10 rfl ?_
    refine v_get O dX1_takeColumn_11 flX1_9 1 rfl rfl ?_
    refine v_icmpN_ge (tgt := 44) O dX1_takeColumn_14 (by decide) (by omega) (by omega) (fun h => ?_) (fun h => ?_)
    · have e : q = n := by omega
      subst e
      refine v_ord [] ?_
      exact kk
    · obtain ⟨hc1, hc2⟩ := hcod (s + q) (by omega)
      refine v_aload_n O dX1_takeColumn_17 rfl ?_
      refine v_get O dX1_takeColumn_18 flX1_21 1 rfl rfl ?_
      refine v_iload_n O dX1_takeColumn_21 rfl ?_
      refine v_iload O dX1_takeColumn_22 rfl ?_
      refine v_iaddN O dX1_takeColumn_24 ?_
      refine v_aload_n O dX1_takeColumn_25 rfl ?_
      refine v_getN O dX1_takeColumn_26 flX1_42 2 rfl rfl ?_
      refine v_iload_n O dX1_takeColumn_29 rfl ?_
      refine v_iload O dX1_takeColumn_30 rfl ?_
      refine v_iaddN O dX1_takeColumn_32 ?_
      refine v_iald O dX1_takeColumn_33 8 rfl (by decide) (by omega) ?_
      refine v_SN1 O dX1_takeColumn_34 lkX1_47 (x_powerOf hst (cod (s + q)) hc1) rfl rfl rfl (by first | exact hkc | exact Nat.zero_le _) (by first | exact hks | exact Nat.zero_le _) ?_
      rw [show pvI (cod (s + q)) = nI (pv (cod (s + q))) from if_pos hc2]
      refine v_iastN O dX1_takeColumn_37 5 rfl (by decide) (by omega) ?_
      refine v_iincN (b := 1) O dX1_takeColumn_38 rfl (by decide) (by rw [hN]; decide) ?_
      refine v_goto (tgt := 8) O dX1_takeColumn_41 (by decide) ?_
      refine v_ord [0, 1, 2, 3, 4] ?_
      refine v_w (w' := (WX E ad n t dr (lay pw (fun c => pv (cod (s + c))) b (q + 1)) pe mk len cod fr ls lc u v su sp tot spr mm fs fc fw sc fe)) (by rw [← lay_s]; rfl) ?_
      exact ih (j - 1) (by omega) (q + 1) (by omega) (by omega)
theorem x_takeColumn {E : ET} {ad : Nat → Nat} {n t dr : Nat} {pw pe : Nat → Nat} {mk : Nat → Bool} {len : Nat} {cod : Nat → Nat} {fr : Bool} {ls lc u v : Nat} {su sp : Nat → Nat} {tot spr : Nat → Int64} {mm : Nat} {fs fc fw : Nat → Nat} {sc : Nat → Int64} {fe : Nat → Nat} (hst : E.1.stackTraces = false) (hn : n ≤ 16) (ht : t ≤ 48) (s : Nat) (hl : len ≤ 64) (hs : s + n ≤ len) (hcod : ∀ j, j < len → cod j < 128 ∧ isP (cod j) = true) : Ctr E yX1_takeColumn cdX1_takeColumn (rmL 2) [.ref (ad 1), .ref (ad 2), .int (nI s)] (WX E ad n t dr pw pe mk len cod fr ls lc u v su sp tot spr mm fs fc fw sc fe) (pR none (WX E ad n (bgT t) (bgD t dr) (lay (bgP t pw) (fun c => pv (cod (s + c))) ((bgT t - 1) * 16) n) pe mk len cod fr ls lc u v su sp tot spr mm fs fc fw sc fe)) noX 0 0 := by
  obtain ⟨b1, b2⟩ := bgT_le ht
  refine ctr_of hst (by decide) (Nat.le_of_ble_eq_true rfl) (fun G O OR hN => ?_)
  have O : OKG E G cX1_takeColumn RX1 (rmL 2) [] := O
  have hN : nLG G = 5 := hN
  refine v_aload_n O dX1_takeColumn_0 rfl ?_
  refine v_V1 O dX1_takeColumn_1 lkX1_38 (x_openColumn hst ht) 1 rfl rfl rfl rfl rfl (by first | exact hkc | exact Nat.zero_le _) (by first | exact hks | exact Nat.zero_le _) ?_
  refine v_istore_n O dX1_takeColumn_4 (by rw [hN]; decide) ?_
  refine v_iconst (v := nI 0) O dX1_takeColumn_5 (by decide) ?_
  refine v_istore O dX1_takeColumn_6 (by rw [hN]; decide) ?_
  refine v_ord [0, 1, 2, 3, 4] ?_
  refine v_w (w' := (WX E ad n (bgT t) (bgD t dr) (lay (bgP t pw) (fun c => pv (cod (s + c))) ((bgT t - 1) * 16) 0) pe mk len cod fr ls lc u v su sp tot spr mm fs fc fw sc fe)) (by rw [lay_0]) ?_
  refine lp_takeColumn O hN hst hn (by omega) hl hs hcod ?_ n 0 (by omega) (by omega)
  exact v_return O OR dX1_takeColumn_44 (⟨rfl, rfl⟩) (Nat.le_of_ble_eq_true rfl) (Nat.le_of_ble_eq_true rfl)
theorem min9_min {p am : Nat} (hp : p ≤ 9999) (ha : am ≤ 9999) : (if nI (9999 - p) < nI am then nI (9999 - p) else nI am) = nI (min9 (p + am) - p) := by
  unfold min9
  by_cases h : 9999 - p < am
  · rw [if_pos (nI_lt h (by omega)), if_neg (by omega)]
  · rw [if_neg (nI_nlt (by omega) (by omega)), if_pos (by omega), show p + am - p = am by omega]
theorem x_raise {E : ET} {ad : Nat → Nat} {n t dr : Nat} {pw pe : Nat → Nat} {mk : Nat → Bool} {len : Nat} {cod : Nat → Nat} {fr : Bool} {ls lc u v : Nat} {su sp : Nat → Nat} {tot spr : Nat → Int64} {mm : Nat} {fs fc fw : Nat → Nat} {sc : Nat → Int64} {fe : Nat → Nat} (hst : E.1.stackTraces = false) (c q am : Nat) (hc : c < 16) (hq : q < 48) (ha : am ≤ 9999) (hp : pw (q * 16 + c) ≤ 9999) : Ctr E yX1_raise cdX1_raise (rmL 1) [.ref (ad 1), .int (nI c), .int (nI q), .int (nI am)] (WX E ad n t dr pw pe mk len cod fr ls lc u v su sp tot spr mm fs fc fw sc fe) (pR (some (.int (nI (min9 (pw (q * 16 + c) + am) - pw (q * 16 + c))))) (WX E ad n t dr (va_up pw (q * 16 + c) (min9 (pw (q * 16 + c) + am))) pe mk len cod fr ls lc u v su sp tot spr mm fs fc fw sc fe)) noX 0 0 := by
  have h8 : pw (q * 16 + c) ≤ min9 (pw (q * 16 + c) + am) := by unfold min9; split <;> omega
  refine ctr_of hst (by decide) (Nat.le_of_ble_eq_true rfl) (fun G O OR hN => ?_)
  have O : OKG E G cX1_raise RX1 (rmL 1) [] := O
  have hN : nLG G = 6 := hN
  refine v_iload_n O dX1_raise_0 rfl ?_
  refine v_bipush (v := nI 16) O dX1_raise_1 (by decide) ?_
  refine v_imulN O dX1_raise_3 ?_
  refine v_iload_n O dX1_raise_4 rfl ?_
  refine v_iaddN O dX1_raise_5 ?_
  refine v_istore O dX1_raise_6 (by rw [hN]; decide) ?_
  refine v_iload_n O dX1_raise_8 rfl ?_
  refine v_sipush (v := nI 9999) O dX1_raise_9 (by decide) ?_
  refine v_aload_n O dX1_raise_12 rfl ?_
  refine v_get O dX1_raise_13 flX1_21 1 rfl rfl ?_
  refine v_iload O dX1_raise_16 rfl ?_
  refine v_iald O dX1_raise_18 5 rfl (by decide) (by omega) ?_
  refine v_isubN O dX1_raise_19 (by omega) ?_
  refine v_min O dX1_raise_20 lkX1_51 (by decide) (by decide) (by decide) (by decide) ?_
  rw [min9_min hp ha]
  refine v_istore O dX1_raise_23 (by rw [hN]; decide) ?_
  refine v_aload_n O dX1_raise_25 rfl ?_
  refine v_get O dX1_raise_26 flX1_21 1 rfl rfl ?_
  refine v_iload O dX1_raise_29 rfl ?_
  refine v_dup2 O dX1_raise_31 rfl rfl ?_
  refine v_iald O dX1_raise_32 5 rfl (by decide) (by omega) ?_
  refine v_iload O dX1_raise_33 rfl ?_
  refine v_iaddN O dX1_raise_35 ?_
  refine v_iastN O dX1_raise_36 5 rfl (by decide) (by omega) ?_
  refine v_iload O dX1_raise_37 rfl ?_
  exact v_ireturn O OR dX1_raise_39 (⟨rfl, by rw [Nat.add_sub_of_le h8]; rfl⟩) (Nat.le_of_ble_eq_true rfl) (Nat.le_of_ble_eq_true rfl)
def cntM (mk : Nat → Bool) (n : Nat) : Nat := sm (fun c => if mk c = true then 1 else 0) n
theorem cntM_le {mk : Nat → Bool} : ∀ n, cntM mk n ≤ n
  | 0 => Nat.le_refl 0
  | n + 1 => by
    have := cntM_le (mk := mk) n
    show cntM mk n + (if mk n = true then 1 else 0) ≤ n + 1
    split <;> omega
theorem lp_countMasked {E : ET} {G : GT} {R0 : Room} {tb : List ExceptionTableEntry} (O : OKG E G cX1_countMasked RX1 R0 tb) (hN : nLG G = 3) {ad : Nat → Nat} {n t dr : Nat} {pw pe : Nat → Nat} {mk : Nat → Bool} {len : Nat} {cod : Nat → Nat} {fr : Bool} {ls lc u v : Nat} {su sp : Nat → Nat} {tot spr : Nat → Int64} {mm : Nat} {fs fc fw : Nat → Nat} {sc : Nat → Int64} {fe : Nat → Nat} (hn : n ≤ 16) (kk : V E G 0 0 30 [(1, .int (nI (cntM mk n)))] [] (WX E ad n t dr pw pe mk len cod fr ls lc u v su sp tot spr mm fs fc fw sc fe)) : ∀ j q : Nat, q ≤ n → j = n - q → V E G 0 0 4 [(0, .ref (ad 1)), (1, .int (nI (cntM mk q))), (2, .int (nI q))] [] (WX E ad n t dr pw pe mk len cod fr ls lc u v su sp tot spr mm fs fc fw sc fe) := by
  intro j
  induction j using Nat.strongRecOn with
  | _ j ih =>
    intro q hq hj
    refine v_iload_n O dX1_countMasked_4 rfl ?_
    refine v_aload_n O dX1_countMasked_5 rfl ?_
    refine v_get O dX1_countMasked_6 flX1_9 1 rfl rfl ?_
    refine v_icmpN_ge (tgt := 30) O dX1_countMasked_9 (by decide) (by omega) (by omega) (fun h => ?_) (fun h => ?_)
    · have e : q = n := by omega
      subst e
      refine v_ord [1] ?_
      exact kk
    · have key : ∀ x, x = cntM mk (q + 1) → V E G 0 0 24 [(0, .ref (ad 1)), (1, .int (nI x)), (2, .int (nI q))] [] (WX E ad n t dr pw pe mk len cod fr ls lc u v su sp tot spr mm fs fc fw sc fe) := by
        intro x hx
        subst hx
        refine v_iincN (b := 1) O dX1_countMasked_24 rfl (by decide) (by rw [hN]; decide) ?_
        refine v_goto (tgt := 4) O dX1_countMasked_27 (by decide) ?_
        refine v_ord [0, 1, 2] ?_
        exact ih (j - 1) (by omega) (q + 1) (by omega) (by omega)
      refine v_aload_n O dX1_countMasked_12 rfl ?_
      refine v_get O dX1_countMasked_13 flX1_28 1 rfl rfl ?_
      refine v_iload_n O dX1_countMasked_16 rfl ?_
      refine v_zald O dX1_countMasked_17 7 rfl (by decide) (by omega) ?_
      refine v_ifB_eq (tgt := 24) O dX1_countMasked_18 (by decide) (fun h2 => ?_) (fun h2 => ?_)
      · refine v_ord [0, 1, 2] ?_
        exact key _ (by show cntM mk q = cntM mk q + (if mk q = true then 1 else 0); rw [h2]; rfl)
      · refine v_iincN (b := 1) O dX1_countMasked_21 rfl (by decide) (by rw [hN]; decide) ?_
        refine v_ord [0, 1, 2] ?_
        exact key _ (by show cntM mk q + 1 = cntM mk q + (if mk q = true then 1 else 0); rw [h2]; rfl)
theorem x_countMasked {E : ET} {ad : Nat → Nat} {n t dr : Nat} {pw pe : Nat → Nat} {mk : Nat → Bool} {len : Nat} {cod : Nat → Nat} {fr : Bool} {ls lc u v : Nat} {su sp : Nat → Nat} {tot spr : Nat → Int64} {mm : Nat} {fs fc fw : Nat → Nat} {sc : Nat → Int64} {fe : Nat → Nat} (hst : E.1.stackTraces = false) (hn : n ≤ 16) : Ctr E yX1_countMasked cdX1_countMasked (rmL 1) [.ref (ad 1)] (WX E ad n t dr pw pe mk len cod fr ls lc u v su sp tot spr mm fs fc fw sc fe) (pR (some (.int (nI (cntM mk n)))) (WX E ad n t dr pw pe mk len cod fr ls lc u v su sp tot spr mm fs fc fw sc fe)) noX 0 0 := by
  refine ctr_of hst (by decide) (Nat.le_of_ble_eq_true rfl) (fun G O OR hN => ?_)
  have O : OKG E G cX1_countMasked RX1 (rmL 1) [] := O
  have hN : nLG G = 3 := hN
  refine v_iconst (v := nI 0) O dX1_countMasked_0 (by decide) ?_
  refine v_istore_n O dX1_countMasked_1 (by rw [hN]; decide) ?_
  refine v_iconst (v := nI 0) O dX1_countMasked_2 (by decide) ?_
  refine v_istore_n O dX1_countMasked_3 (by rw [hN]; decide) ?_
  refine v_ord [0, 1, 2] ?_
  refine lp_countMasked O hN hn ?_ n 0 (by omega) (by omega)
  refine v_iload_n O dX1_countMasked_30 rfl ?_
  exact v_ireturn O OR dX1_countMasked_31 (⟨rfl, rfl⟩) (Nat.le_of_ble_eq_true rfl) (Nat.le_of_ble_eq_true rfl)
def gsI (f : Nat → Nat) (o : Option Nat) : Int32 := match o with
  | none => -1
  | some b => nI (f b)
theorem m1_lt {a : Nat} (ha : a < 2 ^ 31) : ¬ nI a ≤ -1 := by
  rw [fa_le, nI_toInt ha, show (-1 : Int32).toInt = -1 from by decide]
  omega
theorem lp_loudest {E : ET} {G : GT} (O : OKG E G cX1_loudestUnmasked RX1 (rmL 3) []) (hN : nLG G = 5) {ad : Nat → Nat} {n t dr : Nat} {pw pe : Nat → Nat} {mk : Nat → Bool} {len : Nat} {cod : Nat → Nat} {fr : Bool} {ls lc u v : Nat} {su sp : Nat → Nat} {tot spr : Nat → Int64} {mm : Nat} {fs fc fw : Nat → Nat} {sc : Nat → Int64} {fe : Nat → Nat} (hst : E.1.stackTraces = false) (hn : n ≤ 16) (ht : t ≤ 48) (hch : ∀ c, chs pw c t < 2 ^ 30) (kk : V E G 0 0 47 [(1, .int (bsI (bst mk (fun c => chs pw c t) n)))] [] (WX E ad n t dr pw pe mk len cod fr ls lc u v su sp tot spr mm fs fc fw sc fe)) : ∀ j c : Nat, c ≤ n → j = n - c → V E G 0 0 6 [(0, .ref (ad 1)), (1, .int (bsI (bst mk (fun c => chs pw c t) c))), (2, .int (gsI (fun c => chs pw c t) (bst mk (fun c => chs pw c t) c))), (3, .int (nI c))] [] (WX E ad n t dr pw pe mk len cod fr ls lc u v su sp tot spr mm fs fc fw sc fe) := by
  intro j
  induction j using Nat.strongRecOn with
  | _ j ih =>
    intro c hc hj
    refine v_iload_n O dX1_loudestUnmasked_6 rfl ?_
    refine v_aload_n O dX1_loudestUnmasked_7 rfl ?_
    refine v_get O dX1_loudestUnmasked_8 flX1_9 1 rfl rfl ?_
    refine v_icmpN_ge (tgt := 47) O dX1_loudestUnmasked_11 (by decide) (by omega) (by omega) (fun h => ?_) (fun h => ?_)
    · have e : c = n := by omega
      subst e
      refine v_ord [1] ?_
      exact kk
    · have key : ∀ o, o = bst mk (fun c => chs pw c t) (c + 1) → V E G 0 0 41 [(0, .ref (ad 1)), (1, .int (bsI o)), (2, .int (gsI (fun c => chs pw c t) o)), (3, .int (nI c))] [] (WX E ad n t dr pw pe mk len cod fr ls lc u v su sp tot spr mm fs fc fw sc fe) := by
        intro o ho
        subst ho
        refine v_iincN (b := 1) O dX1_loudestUnmasked_41 rfl (by decide) (by rw [hN]; decide) ?_
        refine v_goto (tgt := 6) O dX1_loudestUnmasked_44 (by decide) ?_
        refine v_ord [0, 1, 2, 3] ?_
        exact ih (j - 1) (by omega) (c + 1) (by omega) (by omega)
      refine v_aload_n O dX1_loudestUnmasked_14 rfl ?_
      refine v_get O dX1_loudestUnmasked_15 flX1_28 1 rfl rfl ?_
      refine v_iload_n O dX1_loudestUnmasked_18 rfl ?_
      refine v_zald O dX1_loudestUnmasked_19 7 rfl (by decide) (by omega) ?_
      refine v_ifB_ne (tgt := 41) O dX1_loudestUnmasked_20 (by decide) (fun h2 => ?_) (fun h2 => ?_)
      · refine v_ord [0, 1, 2, 3] ?_
        exact key _ (by rw [bst, if_pos h2])
      · have h2n : ¬ mk c = true := by rw [h2]; decide
        have hca := hch c
        refine v_aload_n O dX1_loudestUnmasked_23 rfl ?_
        refine v_iload_n O dX1_loudestUnmasked_24 rfl ?_
        refine v_V1 O dX1_loudestUnmasked_25 lkX1_60 (c_sumOfChannel hst (by omega) ht) 1 rfl rfl rfl rfl rfl (by first | exact hkc | exact Nat.zero_le _) (by first | exact hks | exact Nat.zero_le _) ?_
        refine v_istore O dX1_loudestUnmasked_28 (by rw [hN]; decide) ?_
        refine v_iload O dX1_loudestUnmasked_30 rfl ?_
        refine v_iload_n O dX1_loudestUnmasked_32 rfl ?_
        cases hb : bst mk (fun c => chs pw c t) c with
        | none =>
          refine v_icmp_le (tgt := 41) O dX1_loudestUnmasked_33 (by decide) (fun h3 => ?_) (fun h3 => ?_)
          · exact absurd h3 (m1_lt (by omega))
          · refine v_iload O dX1_loudestUnmasked_36 rfl ?_
            refine v_istore_n O dX1_loudestUnmasked_38 (by rw [hN]; decide) ?_
            refine v_iload_n O dX1_loudestUnmasked_39 rfl ?_
            refine v_istore_n O dX1_loudestUnmasked_40 (by rw [hN]; decide) ?_
            refine v_ord [0, 1, 2, 3] ?_
            exact key (some c) (by rw [bst, if_neg h2n, hb])
        | some b =>
          have hcb := hch b
          refine v_st (st' := [.int (nI (chs pw b t)), .int (nI (chs pw c t))]) rfl ?_
          refine v_icmpN_le (tgt := 41) O dX1_loudestUnmasked_33 (by decide) (by omega) (by omega) (fun h3 => ?_) (fun h3 => ?_)
          · refine v_ord [0, 1, 2, 3] ?_
            refine key (some b) ?_
            rw [bst, if_neg h2n, hb]
            show some b = if chs pw b t < chs pw c t then some c else some b
            rw [if_neg (by omega)]
          · refine v_iload O dX1_loudestUnmasked_36 rfl ?_
            refine v_istore_n O dX1_loudestUnmasked_38 (by rw [hN]; decide) ?_
            refine v_iload_n O dX1_loudestUnmasked_39 rfl ?_
            refine v_istore_n O dX1_loudestUnmasked_40 (by rw [hN]; decide) ?_
            refine v_ord [0, 1, 2, 3] ?_
            refine key (some c) ?_
            rw [bst, if_neg h2n, hb]
            show some c = if chs pw b t < chs pw c t then some c else some b
            rw [if_pos (by omega)]
theorem x_loudest {E : ET} {ad : Nat → Nat} {n t dr : Nat} {pw pe : Nat → Nat} {mk : Nat → Bool} {len : Nat} {cod : Nat → Nat} {fr : Bool} {ls lc u v : Nat} {su sp : Nat → Nat} {tot spr : Nat → Int64} {mm : Nat} {fs fc fw : Nat → Nat} {sc : Nat → Int64} {fe : Nat → Nat} (hst : E.1.stackTraces = false) (hn : n ≤ 16) (ht : t ≤ 48) (hch : ∀ c, chs pw c t < 2 ^ 30) : Ctr E yX1_loudestUnmasked cdX1_loudestUnmasked (rmL 3) [.ref (ad 1)] (WX E ad n t dr pw pe mk len cod fr ls lc u v su sp tot spr mm fs fc fw sc fe) (pR (some (.int (bsI (bst mk (fun c => chs pw c t) n)))) (WX E ad n t dr pw pe mk len cod fr ls lc u v su sp tot spr mm fs fc fw sc fe)) noX 0 0 := by
  refine ctr_of hst (by decide) (Nat.le_of_ble_eq_true rfl) (fun G O OR hN => ?_)
  have O : OKG E G cX1_loudestUnmasked RX1 (rmL 3) [] := O
  have hN : nLG G = 5 := hN
  refine v_iconst (v := -1) O dX1_loudestUnmasked_0 (by decide) ?_
  refine v_istore_n O dX1_loudestUnmasked_1 (by rw [hN]; decide) ?_
  refine v_iconst (v := -1) O dX1_loudestUnmasked_2 (by decide) ?_
  refine v_istore_n O dX1_loudestUnmasked_3 (by rw [hN]; decide) ?_
  refine v_iconst (v := nI 0) O dX1_loudestUnmasked_4 (by decide) ?_
  refine v_istore_n O dX1_loudestUnmasked_5 (by rw [hN]; decide) ?_
  refine v_ord [0, 1, 2, 3] ?_
  refine lp_loudest O hN hst hn ht hch ?_ n 0 (by omega) (by omega)
  refine v_iload_n O dX1_loudestUnmasked_47 rfl ?_
  exact v_ireturn O OR dX1_loudestUnmasked_48 (⟨rfl, rfl⟩) (Nat.le_of_ble_eq_true rfl) (Nat.le_of_ble_eq_true rfl)
