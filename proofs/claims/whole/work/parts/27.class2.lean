-- the class: lines
theorem v_perm {E : ET} {G : GT} {k n pc : Nat} {lv : List (Nat × Value)} {st : List Value} {w w' : va_W} (is : List Nat) (hn : va_nd is = true) (h1 : is.filterMap (fun i => w[i]?) = w') (h2 : is.map (fun i => w[i]?) = w'.map some) (kk : V E G k n pc lv st w') : V E G k n pc lv st w := by
  obtain ⟨p, R, s, m, args, below, meth, c, Q, A, nL, e⟩ := G
  intro H locs ls hl hP hD hS
  exact kk H locs ls hl (hP.sub is h1) (hD.sub is hn h2) hS
theorem max_sub {a b : Nat} (ha : a < 2 ^ 30) (hb : b < 2 ^ 30) : (if nI 0 < nI a - nI b then nI a - nI b else nI 0) = nI (a - b) := by
  by_cases h : b < a
  · rw [if_pos (by rw [fa_lt, nI_toInt (by decide), pk_sub_toInt ha hb]; omega), pk_sub (by omega)]
  · rw [if_neg (by rw [fa_lt, nI_toInt (by decide), pk_sub_toInt ha hb]; omega), show a - b = 0 by omega]
theorem x_linesOf {E : ET} {ad : Nat → Nat} {n t dr : Nat} {pw pe : Nat → Nat} {mk : Nat → Bool} {len : Nat} {cod : Nat → Nat} {fr : Bool} {ls lc u v : Nat} {su sp : Nat → Nat} {tot spr : Nat → Int64} {mm : Nat} {fs fc fw : Nat → Nat} {sc : Nat → Int64} {fe : Nat → Nat} (hst : E.1.stackTraces = false) (hlc : lc ≤ 48) (d : Nat) (hd : d < 16) : Ctr E yX2_linesOf cdX2_linesOf (rmL 1) [.ref (ad 3), .int (nI d)] (WX E ad n t dr pw pe mk len cod fr ls lc u v su sp tot spr mm fs fc fw sc fe) (pR (some (.int (nI (lc - d)))) (WX E ad n t dr pw pe mk len cod fr ls lc u v su sp tot spr mm fs fc fw sc fe)) noX 0 0 := by
  refine ctr_of hst (by decide) (Nat.le_of_ble_eq_true rfl) (fun G O OR hN => ?_)
  have O : OKG E G cX2_linesOf RX2 (rmL 1) [] := O
  have hN : nLG G = 2 := hN
  refine v_iconst (v := nI 0) O dX2_linesOf_0 (by decide) ?_
  refine v_aload_n O dX2_linesOf_1 rfl ?_
  refine v_get O dX2_linesOf_2 flX2_19 3 rfl rfl ?_
  refine v_iload_n O dX2_linesOf_5 rfl ?_
  refine v_isub O dX2_linesOf_6 ?_
  refine v_max O dX2_linesOf_7 lkX2_36 (by decide) (by decide) (by decide) (by decide) ?_
  rw [max_sub (by omega) (by omega)]
  exact v_ireturn O OR dX2_linesOf_10 (⟨rfl, rfl⟩) (Nat.le_of_ble_eq_true rfl) (Nat.le_of_ble_eq_true rfl)
theorem x_sumAt {E : ET} {ad : Nat → Nat} {n t dr : Nat} {pw pe : Nat → Nat} {mk : Nat → Bool} {len : Nat} {cod : Nat → Nat} {fr : Bool} {ls lc u v : Nat} {su sp : Nat → Nat} {tot spr : Nat → Int64} {mm : Nat} {fs fc fw : Nat → Nat} {sc : Nat → Int64} {fe : Nat → Nat} (hst : E.1.stackTraces = false) (d q : Nat) (hd : d < 16) (hq : q < 48) : Ctr E yX2_sumAt cdX2_sumAt (rmL 1) [.ref (ad 3), .int (nI d), .int (nI q)] (WX E ad n t dr pw pe mk len cod fr ls lc u v su sp tot spr mm fs fc fw sc fe) (pR (some (.int (nI (su (d * 48 + q))))) (WX E ad n t dr pw pe mk len cod fr ls lc u v su sp tot spr mm fs fc fw sc fe)) noX 0 0 := by
  refine ctr_of hst (by decide) (Nat.le_of_ble_eq_true rfl) (fun G O OR hN => ?_)
  have O : OKG E G cX2_sumAt RX2 (rmL 1) [] := O
  have hN : nLG G = 3 := hN
  refine v_aload_n O dX2_sumAt_0 rfl ?_
  refine v_get O dX2_sumAt_1 flX2_22 3 rfl rfl ?_
  refine v_iload_n O dX2_sumAt_4 rfl ?_
  refine v_bipush (v := nI 48) O dX2_sumAt_5 (by decide) ?_
  refine v_imulN O dX2_sumAt_7 ?_
  refine v_iload_n O dX2_sumAt_8 rfl ?_
  refine v_iaddN O dX2_sumAt_9 ?_
  refine v_iald O dX2_sumAt_10 16 rfl (by decide) (by omega) ?_
  exact v_ireturn O OR dX2_sumAt_11 (⟨rfl, rfl⟩) (Nat.le_of_ble_eq_true rfl) (Nat.le_of_ble_eq_true rfl)
/-- a power that counts -/
def vvp (mk : Nat → Bool) (pw : Nat → Nat) (c q : Nat) : Nat := if mk c = true then 0 else pw (q * 16 + c)
/-- rows below r hold f, columns below t -/
def rowsP (su : Nat → Nat) (f : Nat → Nat → Nat) (m : Nat → Nat) (r : Nat) : Prop := ∀ c q : Nat, c < r → q < m c → su (c * 48 + q) = f c q
theorem va_up_at {f : Nat → Nat} {k x : Nat} : va_up f k x k = x := if_pos rfl
theorem va_up_off {f : Nat → Nat} {k x j : Nat} (h : j ≠ k) : va_up f k x j = f j := if_neg h
theorem lp_copyIn {E : ET} {G : GT} (O : OKG E G cX2_copyPowers RX2 (rmL 2) []) (hN : nLG G = 4) {ad : Nat → Nat} {n t dr : Nat} {pw pe : Nat → Nat} {mk : Nat → Bool} {len : Nat} {cod : Nat → Nat} {fr : Bool} {ls lc u v : Nat} {su sp : Nat → Nat} {tot spr : Nat → Int64} {mm : Nat} {fs fc fw : Nat → Nat} {sc : Nat → Int64} {fe : Nat → Nat} {c : Nat} (hst : E.1.stackTraces = false) (hc : c < ls) (hls : ls ≤ 16) (hlc : lc ≤ 48) (kk : ∀ su, rowsP su (vvp mk pw) (fun _ => lc) (c + 1) → V E G 0 0 56 [(0, .ref (ad 3)), (1, .ref (ad 1)), (2, .int (nI c))] [] (WX E ad n t dr pw pe mk len cod fr ls lc u v su sp tot spr mm fs fc fw sc fe)) : ∀ j q : Nat, ∀ su, q ≤ lc → rowsP su (vvp mk pw) (fun _ => lc) c → (∀ i, i < q → su (c * 48 + i) = vvp mk pw c i) → j = lc - q → V E G 0 0 12 [(0, .ref (ad 3)), (1, .ref (ad 1)), (2, .int (nI c)), (3, .int (nI q))] [] (WX E ad n t dr pw pe mk len cod fr ls lc u v su sp tot spr mm fs fc fw sc fe) := by
  intro j
  induction j using Nat.strongRecOn with
  | _ j ih =>
    intro q su hq hr hi hj
    refine v_iload_n O dX2_copyPowers_12 rfl ?_
    refine v_aload_n O dX2_copyPowers_13 rfl ?_
    refine v_get O dX2_copyPowers_14 flX2_19 3 rfl rfl ?_
    refine v_icmpN_ge (tgt := 56) O dX2_copyPowers_17 (by decide) (by omega) (by omega) (fun h => ?_) (fun h => ?_)
    · refine v_ord [0, 1, 2] ?_
      refine kk su (fun c' q' h1 h2 => ?_)
      rcases Nat.lt_or_ge c' c with g | g
      · exact hr c' q' g h2
      · rw [show c' = c by omega]
        exact hi q' (by have : q' < lc := h2; omega)
    · have key : V E G 0 0 49 [(0, .ref (ad 3)), (1, .ref (ad 1)), (2, .int (nI c)), (3, .int (nI q))] [.int (nI (vvp mk pw c q)), .int (nI (c * 48 + q)), .ref u] (WX E ad n t dr pw pe mk len cod fr ls lc u v su sp tot spr mm fs fc fw sc fe) := by
        refine v_iastN O dX2_copyPowers_49 16 rfl (by decide) (by omega) ?_
        refine v_iincN (b := 1) O dX2_copyPowers_50 rfl (by decide) (by rw [hN]; decide) ?_
        refine v_goto (tgt := 12) O dX2_copyPowers_53 (by decide) ?_
        refine v_ord [0, 1, 2, 3] ?_
        refine v_w (w' := (WX E ad n t dr pw pe mk len cod fr ls lc u v (va_up su (c * 48 + q) (vvp mk pw c q)) sp tot spr mm fs fc fw sc fe)) rfl ?_
        refine ih (j - 1) (by omega) (q + 1) _ (by omega) (fun c' q' h1 h2 => ?_) (fun i hi2 => ?_) (by omega)
        · have h3 : q' < lc := h2
          rw [va_up_off (by omega)]
          exact hr c' q' h1 h2
        · rcases Nat.lt_or_ge i q with g | g
          · rw [va_up_off (by omega)]
            exact hi i g
          · rw [show i = q by omega, va_up_at]
      refine v_aload_n O dX2_copyPowers_20 rfl ?_
      refine v_get O dX2_copyPowers_21 flX2_22 3 rfl rfl ?_
      refine v_iload_n O dX2_copyPowers_24 rfl ?_
      refine v_bipush (v := nI 48) O dX2_copyPowers_25 (by decide) ?_
      refine v_imulN O dX2_copyPowers_27 ?_
      refine v_iload_n O dX2_copyPowers_28 rfl ?_
      refine v_iaddN O dX2_copyPowers_29 ?_
      refine v_aload_n O dX2_copyPowers_30 rfl ?_
      refine v_getN O dX2_copyPowers_31 flX2_59 1 rfl rfl ?_
      refine v_iload_n O dX2_copyPowers_34 rfl ?_
      refine v_zald O dX2_copyPowers_35 7 rfl (by decide) (by omega) ?_
      refine v_ifB_eq (tgt := 43) O dX2_copyPowers_36 (by decide) (fun h2 => ?_) (fun h2 => ?_)
      · refine v_aload_n O dX2_copyPowers_43 rfl ?_
        refine v_iload_n O dX2_copyPowers_44 rfl ?_
        refine v_iload_n O dX2_copyPowers_45 rfl ?_
        refine v_VN1 O dX2_copyPowers_46 lkX2_63 (c_powerAt hst (c := c) (q := q) (by omega) (by omega)) 1 rfl rfl rfl rfl rfl (by first | exact hkc | exact Nat.zero_le _) (by first | exact hks | exact Nat.zero_le _) ?_
        refine v_st ?_ key
        unfold vvp
        rw [if_neg (by rw [h2]; decide)]
      · refine v_iconst (v := nI 0) O dX2_copyPowers_39 (by decide) ?_
        refine v_goto (tgt := 49) O dX2_copyPowers_40 (by decide) ?_
        refine v_st ?_ key
        unfold vvp
        rw [if_pos h2]
theorem lp_copyOut {E : ET} {G : GT} (O : OKG E G cX2_copyPowers RX2 (rmL 2) []) (hN : nLG G = 4) {ad : Nat → Nat} {n t dr : Nat} {pw pe : Nat → Nat} {mk : Nat → Bool} {len : Nat} {cod : Nat → Nat} {fr : Bool} {ls lc u v : Nat} {su sp : Nat → Nat} {tot spr : Nat → Int64} {mm : Nat} {fs fc fw : Nat → Nat} {sc : Nat → Int64} {fe : Nat → Nat} (hst : E.1.stackTraces = false) (hls : ls ≤ 16) (hlc : lc ≤ 48) (kk : ∀ su, rowsP su (vvp mk pw) (fun _ => lc) ls → V E G 0 0 62 [] [] (WX E ad n t dr pw pe mk len cod fr ls lc u v su sp tot spr mm fs fc fw sc fe)) : ∀ j c : Nat, ∀ su, c ≤ ls → rowsP su (vvp mk pw) (fun _ => lc) c → j = ls - c → V E G 0 0 2 [(0, .ref (ad 3)), (1, .ref (ad 1)), (2, .int (nI c))] [] (WX E ad n t dr pw pe mk len cod fr ls lc u v su sp tot spr mm fs fc fw sc fe) := by
  intro j
  induction j using Nat.strongRecOn with
  | _ j ih =>
    intro c su hc hr hj
    refine v_iload_n O dX2_copyPowers_2 rfl ?_
    refine v_aload_n O dX2_copyPowers_3 rfl ?_
    refine v_get O dX2_copyPowers_4 flX2_15 3 rfl rfl ?_
    refine v_icmpN_ge (tgt := 62) O dX2_copyPowers_7 (by decide) (by omega) (by omega) (fun h => ?_) (fun h => ?_)
    · have e : c = ls := by omega
      subst e
      refine v_ord [] ?_
      exact kk su hr
    · refine v_iconst (v := nI 0) O dX2_copyPowers_10 (by decide) ?_
      refine v_istore_n O dX2_copyPowers_11 (by rw [hN]; decide) ?_
      refine v_ord [0, 1, 2, 3] ?_
      refine lp_copyIn (su := su) O hN hst h hls hlc ?_ lc 0 su (by omega) hr (fun i hi => by omega) (by omega)
      intro su2 hr2
      refine v_iincN (b := 1) O dX2_copyPowers_56 rfl (by decide) (by rw [hN]; decide) ?_
      refine v_goto (tgt := 2) O dX2_copyPowers_59 (by decide) ?_
      refine v_ord [0, 1, 2] ?_
      exact ih (j - 1) (by omega) (c + 1) su2 (by omega) hr2 (by omega)
theorem x_copyPowers {E : ET} {ad : Nat → Nat} {n t dr : Nat} {pw pe : Nat → Nat} {mk : Nat → Bool} {len : Nat} {cod : Nat → Nat} {fr : Bool} {ls lc u v : Nat} {su sp : Nat → Nat} {tot spr : Nat → Int64} {mm : Nat} {fs fc fw : Nat → Nat} {sc : Nat → Int64} {fe : Nat → Nat} (hst : E.1.stackTraces = false) (hls : ls ≤ 16) (hlc : lc ≤ 48) : Ctr E yX2_copyPowers cdX2_copyPowers (rmL 2) [.ref (ad 3), .ref (ad 1)] (WX E ad n t dr pw pe mk len cod fr ls lc u v su sp tot spr mm fs fc fw sc fe) (fun r w' => r = none ∧ ∃ su, rowsP su (vvp mk pw) (fun _ => lc) ls ∧ w' = (WX E ad n t dr pw pe mk len cod fr ls lc u v su sp tot spr mm fs fc fw sc fe)) noX 0 0 := by
  refine ctr_of hst (by decide) (Nat.le_of_ble_eq_true rfl) (fun G O OR hN => ?_)
  have O : OKG E G cX2_copyPowers RX2 (rmL 2) [] := O
  have hN : nLG G = 4 := hN
  refine v_iconst (v := nI 0) O dX2_copyPowers_0 (by decide) ?_
  refine v_istore_n O dX2_copyPowers_1 (by rw [hN]; decide) ?_
  refine v_ord [0, 1, 2] ?_
  refine lp_copyOut (su := su) O hN hst hls hlc ?_ ls 0 su (by omega) (fun c q h1 h2 => by omega) (by omega)
  intro su hr
  exact v_return O OR dX2_copyPowers_62 (⟨rfl, su, hr, rfl⟩) (Nat.le_of_ble_eq_true rfl) (Nat.le_of_ble_eq_true rfl)
/-- two rows of the tree joined -/
def jrow (su : Nat → Nat) (b h s : Nat) (c : Nat) : Nat := su ((b + s / 2) * 48 + c) + su ((b + h + s / 2) * 48 + s - s / 2 + c)
theorem lp_joinRows {E : ET} {G : GT} (O : OKG E G cX2_joinRows RX2 (rmL 2) []) (hN : nLG G = 10) {ad : Nat → Nat} {n t dr : Nat} {pw pe : Nat → Nat} {mk : Nat → Bool} {len : Nat} {cod : Nat → Nat} {fr : Bool} {ls lc u v : Nat} {su sp : Nat → Nat} {tot spr : Nat → Int64} {mm : Nat} {fs fc fw : Nat → Nat} {sc : Nat → Int64} {fe : Nat → Nat} {b h s : Nat} (hlc : lc ≤ 48) (hs : s < 2 * h) (hb : b + 2 * h ≤ 16) (kk : V E G 0 0 92 [] [] (WX E ad n t dr pw pe mk len cod fr ls lc u v su (lay sp (jrow su b h s) ((b + s) * 48) (lc - s)) tot spr mm fs fc fw sc fe)) : ∀ j q : Nat, q ≤ lc - s → j = lc - s - q → V E G 0 0 48 [(0, .ref (ad 3)), (5, .int (nI ((b + s / 2) * 48))), (6, .int (nI ((b + h + s / 2) * 48 + s - s / 2))), (7, .int (nI ((b + s) * 48))), (8, .int (nI (lc - s))), (9, .int (nI q))] [] (WX E ad n t dr pw pe mk len cod fr ls lc u v su (lay sp (jrow su b h s) ((b + s) * 48) q) tot spr mm fs fc fw sc fe) := by
  intro j
  induction j using Nat.strongRecOn with
  | _ j ih =>
    intro q hq hj
    refine v_iload O dX2_joinRows_48 rfl ?_
    refine v_iload O dX2_joinRows_50 rfl ?_
    refine v_icmpN_ge (tgt := 92) O dX2_joinRows_52 (by decide) (by omega) (by omega) (fun h9 => ?_) (fun h9 => ?_)
    · have e : q = lc - s := by omega
      subst e
      refine v_ord [] ?_
      exact kk
    · refine v_aload_n O dX2_joinRows_55 rfl ?_
      refine v_get O dX2_joinRows_56 flX2_26 3 rfl rfl ?_
      refine v_iload O dX2_joinRows_59 rfl ?_
      refine v_iload O dX2_joinRows_61 rfl ?_
      refine v_iaddN O dX2_joinRows_63 ?_
      refine v_aload_n O dX2_joinRows_64 rfl ?_
      refine v_get O dX2_joinRows_65 flX2_22 3 rfl rfl ?_
      refine v_iload O dX2_joinRows_68 rfl ?_
      refine v_iload O dX2_joinRows_70 rfl ?_
      refine v_iaddN O dX2_joinRows_72 ?_
      refine v_iald O dX2_joinRows_73 16 rfl (by decide) (by omega) ?_
      refine v_aload_n O dX2_joinRows_74 rfl ?_
      refine v_get O dX2_joinRows_75 flX2_22 3 rfl rfl ?_
      refine v_iload O dX2_joinRows_78 rfl ?_
      refine v_iload O dX2_joinRows_80 rfl ?_
      refine v_iaddN O dX2_joinRows_82 ?_
      refine v_iald O dX2_joinRows_83 16 rfl (by decide) (by omega) ?_
      refine v_iaddN O dX2_joinRows_84 ?_
      refine v_iastN O dX2_joinRows_85 17 rfl (by decide) (by omega) ?_
      refine v_iincN (b := 1) O dX2_joinRows_86 rfl (by decide) (by rw [hN]; decide) ?_
      refine v_goto (tgt := 48) O dX2_joinRows_89 (by decide) ?_
      refine v_ord [0, 5, 6, 7, 8, 9] ?_
      refine v_w (w' := (WX E ad n t dr pw pe mk len cod fr ls lc u v su (lay sp (jrow su b h s) ((b + s) * 48) (q + 1)) tot spr mm fs fc fw sc fe)) (by rw [← lay_s]; rfl) ?_
      exact ih (j - 1) (by omega) (q + 1) (by omega) (by omega)
theorem x_joinRows {E : ET} {ad : Nat → Nat} {n t dr : Nat} {pw pe : Nat → Nat} {mk : Nat → Bool} {len : Nat} {cod : Nat → Nat} {fr : Bool} {ls lc u v : Nat} {su sp : Nat → Nat} {tot spr : Nat → Int64} {mm : Nat} {fs fc fw : Nat → Nat} {sc : Nat → Int64} {fe : Nat → Nat} (hst : E.1.stackTraces = false) (b h s : Nat) (hlc : lc ≤ 48) (hs : s < 2 * h) (hb : b + 2 * h ≤ 16) : Ctr E yX2_joinRows cdX2_joinRows (rmL 2) [.ref (ad 3), .int (nI b), .int (nI h), .int (nI s)] (WX E ad n t dr pw pe mk len cod fr ls lc u v su sp tot spr mm fs fc fw sc fe) (pR none (WX E ad n t dr pw pe mk len cod fr ls lc u v su (lay sp (jrow su b h s) ((b + s) * 48) (lc - s)) tot spr mm fs fc fw sc fe)) noX 0 0 := by
  refine ctr_of hst (by decide) (Nat.le_of_ble_eq_true rfl) (fun G O OR hN => ?_)
  have O : OKG E G cX2_joinRows RX2 (rmL 2) [] := O
  have hN : nLG G = 10 := hN
  refine v_iload_n O dX2_joinRows_0 rfl ?_
  refine v_iconst (v := nI 2) O dX2_joinRows_1 (by decide) ?_
  refine v_idivN O dX2_joinRows_2 (by omega) (by omega) (by omega) ?_
  refine v_istore O dX2_joinRows_3 (by rw [hN]; decide) ?_
  refine v_iload_n O dX2_joinRows_5 rfl ?_
  refine v_iload O dX2_joinRows_6 rfl ?_
  refine v_iaddN O dX2_joinRows_8 ?_
  refine v_bipush (v := nI 48) O dX2_joinRows_9 (by decide) ?_
  refine v_imulN O dX2_joinRows_11 ?_
  refine v_istore O dX2_joinRows_12 (by rw [hN]; decide) ?_
  refine v_iload_n O dX2_joinRows_14 rfl ?_
  refine v_iload_n O dX2_joinRows_15 rfl ?_
  refine v_iaddN O dX2_joinRows_16 ?_
  refine v_iload O dX2_joinRows_17 rfl ?_
  refine v_iaddN O dX2_joinRows_19 ?_
  refine v_bipush (v := nI 48) O dX2_joinRows_20 (by decide) ?_
  refine v_imulN O dX2_joinRows_22 ?_
  refine v_iload_n O dX2_joinRows_23 rfl ?_
  refine v_iaddN O dX2_joinRows_24 ?_
  refine v_iload O dX2_joinRows_25 rfl ?_
  refine v_isubN O dX2_joinRows_27 (by omega) ?_
  refine v_istore O dX2_joinRows_28 (by rw [hN]; decide) ?_
  refine v_iload_n O dX2_joinRows_30 rfl ?_
  refine v_iload_n O dX2_joinRows_31 rfl ?_
  refine v_iaddN O dX2_joinRows_32 ?_
  refine v_bipush (v := nI 48) O dX2_joinRows_33 (by decide) ?_
  refine v_imulN O dX2_joinRows_35 ?_
  refine v_istore O dX2_joinRows_36 (by rw [hN]; decide) ?_
  refine v_aload_n O dX2_joinRows_38 rfl ?_
  refine v_iload_n O dX2_joinRows_39 rfl ?_
  refine v_V1 O dX2_joinRows_40 lkX2_70 (x_linesOf hst hlc s (by omega)) 3 rfl rfl rfl rfl rfl (by first | exact hkc | exact Nat.zero_le _) (by first | exact hks | exact Nat.zero_le _) ?_
  refine v_istore O dX2_joinRows_43 (by rw [hN]; decide) ?_
  refine v_iconst (v := nI 0) O dX2_joinRows_45 (by decide) ?_
  refine v_istore O dX2_joinRows_46 (by rw [hN]; decide) ?_
  refine v_ord [0, 5, 6, 7, 8, 9] ?_
  refine v_w (w' := (WX E ad n t dr pw pe mk len cod fr ls lc u v su (lay sp (jrow su b h s) ((b + s) * 48) 0) tot spr mm fs fc fw sc fe)) (by rw [lay_0]) ?_
  refine lp_joinRows O hN hlc hs hb ?_ (lc - s) 0 (by omega) (by omega)
  exact v_return O OR dX2_joinRows_92 (⟨rfl, rfl⟩) (Nat.le_of_ble_eq_true rfl) (Nat.le_of_ble_eq_true rfl)
/-- the row r of the joined tree: its block begins at r - r % (2 h) -/
def jrw (su : Nat → Nat) (h r : Nat) : Nat → Nat := jrow su (r - r % (2 * h)) h (r % (2 * h))
theorem blk {b s H : Nat} (hb : b % H = 0) (hs : s < H) : (b + s) % H = s ∧ b + s - (b + s) % H = b := by
  have h1 : (b + s) % H = s := by rw [Nat.add_mod, hb, Nat.zero_add, Nat.mod_mod, Nat.mod_eq_of_lt hs]
  exact ⟨h1, by omega⟩
theorem lay_in {f g : Nat → Nat} {a i q : Nat} (h : q < i) : lay f g a i (a + q) = g q := by
  unfold lay
  rw [if_pos (by omega), show a + q - a = q by omega]
theorem lay_out {f g : Nat → Nat} {a i q : Nat} (h : q < a ∨ a + i ≤ q) : lay f g a i q = f q := if_neg (by omega)
/-- a row and the mask of a block of 2 h rows, h a power of 2 -/
theorem and_blk {r h k : Nat} (hh : h = 2 ^ k) : r &&& (2 * h - 1) = r % (2 * h) := by
  rw [show 2 * h = 2 ^ (k + 1) by rw [hh, Nat.pow_succ, Nat.mul_comm]]
  exact Nat.and_two_pow_sub_one_eq_mod r (k + 1)
theorem blk_le {r H N : Nat} (hH : 1 ≤ H) (hd : N % H = 0) (hr : r < N) : r - r % H + H ≤ N := by
  have a1 := Nat.div_add_mod r H
  have a2 := Nat.div_add_mod N H
  rw [hd] at a2
  have a3 : r / H < N / H := by
    apply Nat.lt_of_not_le
    intro z
    have := Nat.mul_le_mul_left H z
    omega
  have a4 := Nat.mul_le_mul_left H (Nat.succ_le_of_lt a3)
  rw [Nat.mul_succ] at a4
  omega
theorem lp_joinB {E : ET} {G : GT} (O : OKG E G cX2_joinBlocks RX2 (rmL 3) []) (hN : nLG G = 4) {ad : Nat → Nat} {n t dr : Nat} {pw pe : Nat → Nat} {mk : Nat → Bool} {len : Nat} {cod : Nat → Nat} {fr : Bool} {ls lc u v : Nat} {su sp : Nat → Nat} {tot spr : Nat → Int64} {mm : Nat} {fs fc fw : Nat → Nat} {sc : Nat → Int64} {fe : Nat → Nat} {h k : Nat} (hst : E.1.stackTraces = false) (hlc : lc ≤ 48) (hls : ls ≤ 16) (hh : h = 2 ^ k) (hd : ls % (2 * h) = 0) (kk : ∀ sp, rowsP sp (jrw su h) (fun r => lc - r % (2 * h)) ls → V E G 0 0 33 [(0, .ref (ad 3))] [] (WX E ad n t dr pw pe mk len cod fr ls lc u v su sp tot spr mm fs fc fw sc fe)) : ∀ j r : Nat, ∀ sp, r ≤ ls → rowsP sp (jrw su h) (fun r => lc - r % (2 * h)) r → j = ls - r → V E G 0 0 2 [(0, .ref (ad 3)), (1, .int (nI h)), (2, .int (nI r))] [] (WX E ad n t dr pw pe mk len cod fr ls lc u v su sp tot spr mm fs fc fw sc fe) := by
  have h1 : 1 ≤ h := by rw [hh]; exact Nat.one_le_two_pow
  intro j
  induction j using Nat.strongRecOn with
  | _ j ih =>
    intro r sp hb hr hj
    refine v_iload_n O dX2_joinBlocks_2 rfl ?_
    refine v_aload_n O dX2_joinBlocks_3 rfl ?_
    refine v_get O dX2_joinBlocks_4 flX2_15 3 rfl rfl ?_
    refine v_icmpN_ge (tgt := 33) O dX2_joinBlocks_7 (by decide) (by omega) (by omega) (fun h9 => ?_) (fun h9 => ?_)
    · have e : r = ls := by omega
      subst e
      refine v_ord [0] ?_
      exact kk sp hr
    · have hle := blk_le (H := 2 * h) (by omega) hd h9
      have hm : r % (2 * h) < 2 * h := Nat.mod_lt _ (by omega)
      have hsub : r - r % (2 * h) + r % (2 * h) = r := Nat.sub_add_cancel (Nat.mod_le _ _)
      refine v_iload_n O dX2_joinBlocks_10 rfl ?_
      refine v_iconst (v := nI 2) O dX2_joinBlocks_11 (by decide) ?_
      refine v_iload_n O dX2_joinBlocks_12 rfl ?_
      refine v_imulN O dX2_joinBlocks_13 ?_
      refine v_iconst (v := nI 1) O dX2_joinBlocks_14 (by decide) ?_
      refine v_isubN O dX2_joinBlocks_15 (by omega) ?_
      refine v_iandN O dX2_joinBlocks_16 ?_
      rw [and_blk hh]
      refine v_istore_n O dX2_joinBlocks_17 (by rw [hN]; decide) ?_
      refine v_aload_n O dX2_joinBlocks_18 rfl ?_
      refine v_iload_n O dX2_joinBlocks_19 rfl ?_
      refine v_iload_n O dX2_joinBlocks_20 rfl ?_
      refine v_isubN O dX2_joinBlocks_21 (Nat.mod_le _ _) ?_
      refine v_iload_n O dX2_joinBlocks_22 rfl ?_
      refine v_iload_n O dX2_joinBlocks_23 rfl ?_
      refine v_V0 O dX2_joinBlocks_24 lkX2_66 (x_joinRows hst (r - r % (2 * h)) h (r % (2 * h)) hlc hm (by omega)) 3 rfl rfl rfl rfl rfl (by first | exact hkc | exact Nat.zero_le _) (by first | exact hks | exact Nat.zero_le _) ?_
      refine v_iincN (b := 1) O dX2_joinBlocks_27 rfl (by decide) (by rw [hN]; decide) ?_
      refine v_goto (tgt := 2) O dX2_joinBlocks_30 (by decide) ?_
      refine v_ord [0, 1, 2] ?_
      rw [hsub]
      refine ih (j - 1) (by omega) (r + 1) _ (by omega) (fun c q g1 g2 => ?_) (by omega)
      have g2 : q < lc - c % (2 * h) := g2
      rcases Nat.lt_or_ge c r with g | g
      · rw [lay_out (Or.inl (by omega))]
        exact hr c q g g2
      · have er : c = r := by omega
        subst er
        rw [lay_in g2]
        rfl
theorem x_joinBlocks {E : ET} {ad : Nat → Nat} {n t dr : Nat} {pw pe : Nat → Nat} {mk : Nat → Bool} {len : Nat} {cod : Nat → Nat} {fr : Bool} {ls lc u v : Nat} {su sp : Nat → Nat} {tot spr : Nat → Int64} {mm : Nat} {fs fc fw : Nat → Nat} {sc : Nat → Int64} {fe : Nat → Nat} (hst : E.1.stackTraces = false) (h : Nat) (hlc : lc ≤ 48) (hls : ls ≤ 16) {k : Nat} (hh : h = 2 ^ k) (hd : ls % (2 * h) = 0) : Ctr E yX2_joinBlocks cdX2_joinBlocks (rmL 3) [.ref (ad 3), .int (nI h)] (WX E ad n t dr pw pe mk len cod fr ls lc u v su sp tot spr mm fs fc fw sc fe) (fun r w' => r = none ∧ ∃ sp', rowsP sp' (jrw su h) (fun r => lc - r % (2 * h)) ls ∧ w' = (WX E ad n t dr pw pe mk len cod fr ls lc (v) (u) (sp') (su) tot spr mm fs fc fw sc fe)) noX 0 0 := by
  refine ctr_of hst (by decide) (Nat.le_of_ble_eq_true rfl) (fun G O OR hN => ?_)
  have O : OKG E G cX2_joinBlocks RX2 (rmL 3) [] := O
  have hN : nLG G = 4 := hN
  refine v_iconst (v := nI 0) O dX2_joinBlocks_0 (by decide) ?_
  refine v_istore_n O dX2_joinBlocks_1 (by rw [hN]; decide) ?_
  refine v_ord [0, 1, 2] ?_
  refine lp_joinB (sp := sp) O hN hst hlc hls hh hd ?_ ls 0 sp (by omega) (fun c q h1 h2 => by omega) (by omega)
  intro sp' hr
  refine v_aload_n O dX2_joinBlocks_33 rfl ?_
  refine v_get O dX2_joinBlocks_34 flX2_26 3 rfl rfl ?_
  refine v_astore_n O dX2_joinBlocks_37 (by rw [hN]; decide) ?_
  refine v_aload_n O dX2_joinBlocks_38 rfl ?_
  refine v_aload_n O dX2_joinBlocks_39 rfl ?_
  refine v_get O dX2_joinBlocks_40 flX2_22 3 rfl rfl ?_
  refine v_put (ty := .array .int) O dX2_joinBlocks_43 flX2_26 ftX2 3 rfl rfl (by decide +kernel) rfl rfl (Nat.le_of_ble_eq_true rfl) ?_
  refine v_aload_n O dX2_joinBlocks_46 rfl ?_
  refine v_aload_n O dX2_joinBlocks_47 rfl ?_
  refine v_put (ty := .array .int) O dX2_joinBlocks_48 flX2_22 ftX2 3 rfl rfl (by decide +kernel) rfl rfl (Nat.le_of_ble_eq_true rfl) ?_
  refine v_perm (w' := (WX E ad n t dr pw pe mk len cod fr ls lc (v) (u) (sp') (su) tot spr mm fs fc fw sc fe)) [0, 1, 2, 3, 4, 5, 6, 7, 8, 9, 10, 11, 12, 13, 14, 15, 17, 16] (by decide) rfl rfl ?_
  exact v_return O OR dX2_joinBlocks_51 (⟨rfl, sp', hr, rfl⟩) (Nat.le_of_ble_eq_true rfl) (Nat.le_of_ble_eq_true rfl)
