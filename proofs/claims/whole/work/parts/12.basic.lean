/-- the locals by their numbers -/
theorem v_ord {E : ET} {G : GT} {k n pc : Nat} {lv : List (Nat × Value)} {st : List Value} {w : va_W} (is : List Nat) (h : V E G k n pc (is.filterMap (fun i => (ldv lv i).map (fun v => (i, v)))) st w) : V E G k n pc lv st w := by
  refine v_lv ?_ h
  intro q hq
  obtain ⟨i, -, hi⟩ := List.mem_filterMap.mp hq
  cases hl : ldv lv i with
  | none => rw [hl] at hi; cases hi
  | some v =>
    rw [hl] at hi
    obtain ⟨k, hk⟩ := ldv_mem hl
    have e : q = (i, v) := by simpa using hi.symm
    rw [e]
    exact List.mem_of_getElem? hk
def sm (f : Nat → Nat) : Nat → Nat
  | 0 => 0
  | k + 1 => sm f k + f k
/-- the sum of the channel c over t columns -/
def chs (pw : Nat → Nat) (c t : Nat) : Nat := sm (fun q => pw (q * 16 + c)) t
theorem c_powerAt {E : ET} {ad : Nat → Nat} {n t dr : Nat} {pw pe : Nat → Nat} {mk : Nat → Bool} {len : Nat} {cod : Nat → Nat} {fr : Bool} {ls lc u v : Nat} {su sp : Nat → Nat} {tot spr : Nat → Int64} {mm : Nat} {fs fc fw : Nat → Nat} {sc : Nat → Int64} {fe : Nat → Nat} {c q : Nat} (hst : E.1.stackTraces = false) (hc : c < 16) (hq : q < 48) : Ctr E yX1_powerAt cdX1_powerAt (rmL 1) [.ref (ad 1), .int (nI c), .int (nI q)] (WX E ad n t dr pw pe mk len cod fr ls lc u v su sp tot spr mm fs fc fw sc fe) (pR (some (.int (nI (pw (q * 16 + c))))) (WX E ad n t dr pw pe mk len cod fr ls lc u v su sp tot spr mm fs fc fw sc fe)) noX 0 0 := by
  refine ctr_of hst (by decide) (Nat.le_of_ble_eq_true rfl) (fun G O OR hN => ?_)
  have O : OKG E G cX1_powerAt RX1 (rmL 1) [] := O
  have hN : nLG G = 3 := hN
  refine v_aload_n O dX1_powerAt_0 rfl ?_
  refine v_get O dX1_powerAt_1 flX1_21 1 rfl rfl ?_
  refine v_iload_n O dX1_powerAt_4 rfl ?_
  refine v_bipush (v := nI 16) O dX1_powerAt_5 (by decide) ?_
  refine v_imulN O dX1_powerAt_7 ?_
  refine v_iload_n O dX1_powerAt_8 rfl ?_
  refine v_iaddN O dX1_powerAt_9 ?_
  refine v_iald O dX1_powerAt_10 5 rfl (by decide) (by omega) ?_
  exact v_ireturn O OR dX1_powerAt_11 (⟨rfl, rfl⟩) (Nat.le_of_ble_eq_true rfl) (Nat.le_of_ble_eq_true rfl)
theorem lp_sumOfChannel {E : ET} {G : GT} (O : OKG E G cX1_sumOfChannel RX1 (rmL 2) []) (hN : nLG G = 4) {ad : Nat → Nat} {n t dr : Nat} {pw pe : Nat → Nat} {mk : Nat → Bool} {len : Nat} {cod : Nat → Nat} {fr : Bool} {ls lc u v : Nat} {su sp : Nat → Nat} {tot spr : Nat → Int64} {mm : Nat} {fs fc fw : Nat → Nat} {sc : Nat → Int64} {fe : Nat → Nat} {c : Nat} (hst : E.1.stackTraces = false) (hc : c < 16) (ht : t ≤ 48) (kk : V E G 0 0 27 [(0, .ref (ad 1)), (1, .int (nI c)), (2, .int (nI (chs pw c t))), (3, .int (nI t))] [] (WX E ad n t dr pw pe mk len cod fr ls lc u v su sp tot spr mm fs fc fw sc fe)) : ∀ j q : Nat, q ≤ t → j = t - q → V E G 0 0 4 [(0, .ref (ad 1)), (1, .int (nI c)), (2, .int (nI (chs pw c q))), (3, .int (nI q))] [] (WX E ad n t dr pw pe mk len cod fr ls lc u v su sp tot spr mm fs fc fw sc fe) := by
  intro j
  induction j using Nat.strongRecOn with
  | _ j ih =>
    intro q hq hj
    refine v_iload_n O dX1_sumOfChannel_4 rfl ?_
    refine v_aload_n O dX1_sumOfChannel_5 rfl ?_
    refine v_get O dX1_sumOfChannel_6 flX1_15 1 rfl rfl ?_
    refine v_icmpN_ge (tgt := 27) O dX1_sumOfChannel_9 (by decide) (by omega) (by omega) (fun h => ?_) (fun h => ?_)
    · have e : q = t := by omega
      subst e
      exact kk
    · refine v_iload_n O dX1_sumOfChannel_12 rfl ?_
      refine v_aload_n O dX1_sumOfChannel_13 rfl ?_
      refine v_iload_n O dX1_sumOfChannel_14 rfl ?_
      refine v_iload_n O dX1_sumOfChannel_15 rfl ?_
      refine v_V1 O dX1_sumOfChannel_16 lkX1_57 (c_powerAt hst (c := c) (q := q) hc (by omega)) 1 rfl rfl rfl rfl rfl (by first | exact hkc | exact Nat.zero_le _) (by first | exact hks | exact Nat.zero_le _) ?_
      refine v_iaddN O dX1_sumOfChannel_19 ?_
      refine v_istore_n O dX1_sumOfChannel_20 (by rw [hN]; decide) ?_
      refine v_iincN (b := 1) O dX1_sumOfChannel_21 rfl (by decide) (by rw [hN]; decide) ?_
      refine v_goto (tgt := 4) O dX1_sumOfChannel_24 (by decide) ?_
      refine v_ord [0, 1, 2, 3] ?_
      exact ih (j - 1) (by omega) (q + 1) (by omega) (by omega)
theorem c_sumOfChannel {E : ET} {ad : Nat → Nat} {n t dr : Nat} {pw pe : Nat → Nat} {mk : Nat → Bool} {len : Nat} {cod : Nat → Nat} {fr : Bool} {ls lc u v : Nat} {su sp : Nat → Nat} {tot spr : Nat → Int64} {mm : Nat} {fs fc fw : Nat → Nat} {sc : Nat → Int64} {fe : Nat → Nat} {c : Nat} (hst : E.1.stackTraces = false) (hc : c < 16) (ht : t ≤ 48) : Ctr E yX1_sumOfChannel cdX1_sumOfChannel (rmL 2) [.ref (ad 1), .int (nI c)] (WX E ad n t dr pw pe mk len cod fr ls lc u v su sp tot spr mm fs fc fw sc fe) (pR (some (.int (nI (chs pw c t)))) (WX E ad n t dr pw pe mk len cod fr ls lc u v su sp tot spr mm fs fc fw sc fe)) noX 0 0 := by
  refine ctr_of hst (by decide) (Nat.le_of_ble_eq_true rfl) (fun G O OR hN => ?_)
  have O : OKG E G cX1_sumOfChannel RX1 (rmL 2) [] := O
  have hN : nLG G = 4 := hN
  refine v_iconst (v := nI 0) O dX1_sumOfChannel_0 (by decide) ?_
  refine v_istore_n O dX1_sumOfChannel_1 (by rw [hN]; decide) ?_
  refine v_iconst (v := nI 0) O dX1_sumOfChannel_2 (by decide) ?_
  refine v_istore_n O dX1_sumOfChannel_3 (by rw [hN]; decide) ?_
  refine v_ord [0, 1, 2, 3] ?_
  refine lp_sumOfChannel O hN hst hc ht ?_ t 0 (by omega) (by omega)
  refine v_iload_n O dX1_sumOfChannel_27 rfl ?_
  exact v_ireturn O OR dX1_sumOfChannel_28 (⟨rfl, rfl⟩) (Nat.le_of_ble_eq_true rfl) (Nat.le_of_ble_eq_true rfl)
