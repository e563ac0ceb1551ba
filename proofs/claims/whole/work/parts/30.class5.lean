def clQ (S : Nat → Nat → Nat → Int64) (W0 : Nat) (fe : Nat → Nat) (d : Nat) (a : Acc) : Nat → Acc
  | 0 => a
  | q + 1 => clW (S d q) d q (clQ S W0 fe d a q) (min W0 (fe q - d - q))
def clD (S : Nat → Nat → Nat → Int64) (W0 : Nat) (fe : Nat → Nat) (lc : Nat) (a : Acc) : Nat → Acc
  | 0 => a
  | d + 1 => clQ S W0 fe d (clD S W0 fe lc a d) (lc - d)
theorem fF_le {p : Nat → Bool} : ∀ i j : Nat, fF p i j ≤ i + j
  | i, 0 => Nat.le_refl _
  | i, j + 1 => by
    rw [fF]
    split
    · omega
    · have := fF_le (p := p) (i + 1) j
      omega
theorem lp_clQ {E : ET} {G : GT} (O : OKG E G cX0_addBest RX0 (rmL 4) []) (hN : nLG G = 8) {ad : Nat → Nat} {n t dr : Nat} {pw pe : Nat → Nat} {mk : Nat → Bool} {len : Nat} {cod : Nat → Nat} {fr : Bool} {ls lc u v : Nat} {su sp : Nat → Nat} {tot spr : Nat → Int64} {mm : Nat} {fs fc fw : Nat → Nat} {sc : Nat → Int64} {fe : Nat → Nat} {d W0 : Nat} {le : Int64} {a : Acc} (hst : E.1.stackTraces = false) (hlc : lc ≤ 48) (hd : d < 16) (hW : W0 ≤ 8) (hf : ∀ c, c < lc → fe c ≤ 48) (hmm : mm < 8)
    (kk : V E G 0 0 78 [(0, .ref (ad 4)), (1, .ref (ad 3)), (2, .long le), (4, .int (nI W0)), (5, .int (nI d))] [] (WXa E ad n t dr pw pe mk len cod fr ls lc u v su sp tot spr mm fs fc fw sc fe (clQ (SX su tot spr lc) W0 fe d a (lc - d)))) :
    ∀ j q : Nat, q ≤ lc - d → j = lc - d - q → V E G 0 0 54 [(0, .ref (ad 4)), (1, .ref (ad 3)), (2, .long le), (4, .int (nI W0)), (5, .int (nI d)), (6, .int (nI (lc - d))), (7, .int (nI q))] [] (WXa E ad n t dr pw pe mk len cod fr ls lc u v su sp tot spr mm fs fc fw sc fe (clQ (SX su tot spr lc) W0 fe d a q)) := by
  intro j
  induction j using Nat.strongRecOn with
  | _ j ih =>
    intro q hq hj
    refine v_iload O dX0_addBest_54 rfl ?_
    refine v_iload O dX0_addBest_56 rfl ?_
    refine v_icmpN_ge (tgt := 78) O dX0_addBest_58 (by decide) (by omega) (by omega) (fun h => ?_) (fun h => ?_)
    · have e : q = lc - d := by omega
      subst e
      refine v_ord [0, 1, 2, 4, 5] ?_
      exact kk
    · refine v_aload_n O dX0_addBest_61 rfl ?_
      refine v_aload_n O dX0_addBest_62 rfl ?_
      refine v_iload O dX0_addBest_63 rfl ?_
      refine v_iload O dX0_addBest_65 rfl ?_
      refine v_iload O dX0_addBest_67 rfl ?_
      refine v_V0 O dX0_addBest_69 lkX0_46 (x_tryBoxes hst hlc d q hd (by omega) hW (hf q (by omega)) hmm) 4 rfl rfl rfl rfl rfl (by first | exact hkc | exact Nat.zero_le _) (by first | exact hks | exact Nat.zero_le _) ?_
      refine v_iincN (b := 1) O dX0_addBest_72 rfl (by decide) (by rw [hN]; decide) ?_
      refine v_goto (tgt := 54) O dX0_addBest_75 (by decide) ?_
      refine v_ord [0, 1, 2, 4, 5, 6, 7] ?_
      exact ih (j - 1) (by omega) (q + 1) (by omega) (by omega)
theorem lp_clD {E : ET} {G : GT} (O : OKG E G cX0_addBest RX0 (rmL 4) []) (hN : nLG G = 8) {ad : Nat → Nat} {n t dr : Nat} {pw pe : Nat → Nat} {mk : Nat → Bool} {len : Nat} {cod : Nat → Nat} {fr : Bool} {ls lc u v : Nat} {su sp : Nat → Nat} {tot spr : Nat → Int64} {mm : Nat} {fs fc fw : Nat → Nat} {sc : Nat → Int64} {fe : Nat → Nat} {W0 : Nat} {le : Int64} {a : Acc} (hst : E.1.stackTraces = false) (hls : ls ≤ 16) (hlc : lc ≤ 48) (hW : W0 ≤ 8) (hf : ∀ c, c < lc → fe c ≤ 48) (hmm : mm < 8)
    (kk : V E G 0 0 84 [(0, .ref (ad 4)), (2, .long le)] [] (WXa E ad n t dr pw pe mk len cod fr ls lc u v su sp tot spr mm fs fc fw sc fe (clD (SX su tot spr lc) W0 fe lc a ls))) :
    ∀ j d : Nat, d ≤ ls → j = ls - d → V E G 0 0 34 [(0, .ref (ad 4)), (1, .ref (ad 3)), (2, .long le), (4, .int (nI W0)), (5, .int (nI d))] [] (WXa E ad n t dr pw pe mk len cod fr ls lc u v su sp tot spr mm fs fc fw sc fe (clD (SX su tot spr lc) W0 fe lc a d)) := by
  intro j
  induction j using Nat.strongRecOn with
  | _ j ih =>
    intro d hd hj
    refine v_iload O dX0_addBest_34 rfl ?_
    refine v_aload_n O dX0_addBest_36 rfl ?_
    refine v_getN O dX0_addBest_37 flX0_40 3 rfl rfl ?_
    refine v_icmpN_ge (tgt := 84) O dX0_addBest_40 (by decide) (by omega) (by omega) (fun h => ?_) (fun h => ?_)
    · have e : d = ls := by omega
      subst e
      refine v_ord [0, 2] ?_
      exact kk
    · refine v_aload_n O dX0_addBest_43 rfl ?_
      refine v_iload O dX0_addBest_44 rfl ?_
      refine v_VN1 O dX0_addBest_46 lkX0_42 (x_linesOf hst hlc d (by omega)) 3 rfl rfl rfl rfl rfl (by first | exact hkc | exact Nat.zero_le _) (by first | exact hks | exact Nat.zero_le _) ?_
      refine v_istore O dX0_addBest_49 (by rw [hN]; decide) ?_
      refine v_iconst (v := nI 0) O dX0_addBest_51 (by decide) ?_
      refine v_istore O dX0_addBest_52 (by rw [hN]; decide) ?_
      refine v_ord [0, 1, 2, 4, 5, 6, 7] ?_
      refine lp_clQ O hN hst hlc (by omega) hW hf hmm ?_ (lc - d) 0 (by omega) (by omega)
      refine v_iincN (b := 1) O dX0_addBest_78 rfl (by decide) (by rw [hN]; decide) ?_
      refine v_goto (tgt := 34) O dX0_addBest_81 (by decide) ?_
      refine v_ord [0, 1, 2, 4, 5] ?_
      exact ih (j - 1) (by omega) (d + 1) (by omega) (by omega)
/-- the ends of what is free, as a function -/
def feT (fs fc fw : Nat → Nat) (mm T : Nat) : Nat → Nat := fun c => fF (cov fs fc fw mm) c (T - c)
theorem clQ_cong {S : Nat → Nat → Nat → Int64} {W0 : Nat} {fe fe' : Nat → Nat} {d : Nat} {a : Acc} : ∀ {N : Nat}, (∀ q, q < N → fe q = fe' q) → clQ S W0 fe d a N = clQ S W0 fe' d a N
  | 0, _ => rfl
  | q + 1, h => by
    rw [clQ, clQ, clQ_cong (fun i hi => h i (by omega)), h q (by omega)]
theorem clD_cong {S : Nat → Nat → Nat → Int64} {W0 : Nat} {fe fe' : Nat → Nat} {lc : Nat} {a : Acc} (h : ∀ q, q < lc → fe q = fe' q) : ∀ {N : Nat}, clD S W0 fe lc a N = clD S W0 fe' lc a N
  | 0 => rfl
  | d + 1 => by
    rw [clD, clD, clD_cong h, clQ_cong (fun i hi => h i (by omega))]
/-- the class's next candidate -/
def fnX (S : Nat → Nat → Nat → Int64) (W0 : Nat) (le : Int64) (fs fc fw : Nat → Nat) (mm n t : Nat) : Acc := clD S W0 (feT fs fc fw mm t) t (fs mm, fc mm, fw mm, le - 1) n
theorem x_addBest {E : ET} {ad : Nat → Nat} {n t dr : Nat} {pw pe : Nat → Nat} {mk : Nat → Bool} {len : Nat} {cod : Nat → Nat} {fr : Bool} {ls lc u v : Nat} {su sp : Nat → Nat} {tot spr : Nat → Int64} {mm : Nat} {fs fc fw : Nat → Nat} {sc : Nat → Int64} {fe : Nat → Nat} {W0 : Nat} {le : Int64} (hst : E.1.stackTraces = false) (hls : ls ≤ 16) (hlc : lc ≤ 48) (hW : W0 ≤ 8) (hmm : mm < 8) (hcd : ∀ k, k < mm → fs k < 16 ∧ fc k < 48 ∧ 1 ≤ fw k ∧ fw k ≤ 8) : Ctr E yX0_addBest cdX0_addBest (rmL 4) [.ref (ad 4), .ref (ad 3), .long le, .int (nI W0)] (WX E ad n t dr pw pe mk len cod fr ls lc u v su sp tot spr mm fs fc fw sc fe) (fun r w' => r = some (.int (bI (decide (le ≤ (fnX (SX su tot spr lc) W0 le fs fc fw mm ls lc).2.2.2)))) ∧ ∃ fe, w' = (WX E ad n t dr pw pe mk len cod fr ls lc u v su sp tot spr (if le ≤ (fnX (SX su tot spr lc) W0 le fs fc fw mm ls lc).2.2.2 then mm + 1 else mm) (va_up fs mm (fnX (SX su tot spr lc) W0 le fs fc fw mm ls lc).1) (va_up fc mm (fnX (SX su tot spr lc) W0 le fs fc fw mm ls lc).2.1) (va_up fw mm (fnX (SX su tot spr lc) W0 le fs fc fw mm ls lc).2.2.1) (vp_updL sc mm (fnX (SX su tot spr lc) W0 le fs fc fw mm ls lc).2.2.2) fe)) noX 0 0 := by
  refine ctr_of hst (by decide) (Nat.le_of_ble_eq_true rfl) (fun G O OR hN => ?_)
  have O : OKG E G cX0_addBest RX0 (rmL 4) [] := O
  have hN : nLG G = 8 := hN
  refine v_aload_n O dX0_addBest_0 rfl ?_
  refine v_get O dX0_addBest_1 flX0_9 4 rfl rfl ?_
  refine v_bipush (v := nI 8) O dX0_addBest_4 (by decide) ?_
  refine v_icmpN_lt (tgt := 11) O dX0_addBest_6 (by decide) (by omega) (by omega) (fun h => ?_) (fun h => ?_)
  · refine v_aload_n O dX0_addBest_11 rfl ?_
    refine v_aload_n O dX0_addBest_12 rfl ?_
    refine v_getN O dX0_addBest_13 flX0_32 3 rfl rfl ?_
    refine v_callV (mc := 0) (ms := 0) O dX0_addBest_16 lkX0_36 (x_markFree hst lc hlc (by omega) hcd) 4 rfl rfl rfl rfl rfl (fun r9 u9 h9 => ?_) kx_no
    obtain ⟨rfl, fe, hf, rfl⟩ := h9
    refine v_aload_n O dX0_addBest_19 rfl ?_
    refine v_get O dX0_addBest_20 flX0_25 4 rfl rfl ?_
    refine v_aload_n O dX0_addBest_23 rfl ?_
    refine v_get O dX0_addBest_24 flX0_9 4 rfl rfl ?_
    refine v_lload_n O dX0_addBest_27 rfl ?_
    refine v_lconst (v := 1) O dX0_addBest_28 (by decide) ?_
    refine v_lsub O dX0_addBest_29 ?_
    refine v_last O dX0_addBest_30 14 rfl (by decide) (by omega) ?_
    refine v_iconst (v := nI 0) O dX0_addBest_31 (by decide) ?_
    refine v_istore O dX0_addBest_32 (by rw [hN]; decide) ?_
    refine v_ord [0, 1, 2, 4, 5] ?_
    refine v_w (w' := (WXa E ad n t dr pw pe mk len cod fr ls lc u v su sp tot spr mm fs fc fw sc fe ((fs mm, fc mm, fw mm, le - 1)))) (by unfold WXa; rw [va_up_self', va_up_self', va_up_self']; rfl) ?_
    refine lp_clD (a := (fs mm, fc mm, fw mm, le - 1)) O hN hst hls hlc hW (fun c hc => by rw [hf c hc]; have := fF_le (p := cov fs fc fw mm) c (lc - c); omega) hmm ?_ ls 0 (by omega) (by omega)
    have e : clD (SX su tot spr lc) W0 fe lc (fs mm, fc mm, fw mm, le - 1) ls = fnX (SX su tot spr lc) W0 le fs fc fw mm ls lc := clD_cong hf
    rw [e]
    generalize fnX (SX su tot spr lc) W0 le fs fc fw mm ls lc = A at OR ⊢
    refine v_aload_n O dX0_addBest_84 rfl ?_
    refine v_get O dX0_addBest_85 flX0_25 4 rfl rfl ?_
    refine v_aload_n O dX0_addBest_88 rfl ?_
    refine v_get O dX0_addBest_89 flX0_9 4 rfl rfl ?_
    refine v_lald O dX0_addBest_92 14 rfl (by decide) (by omega) ?_
    refine v_lload_n O dX0_addBest_93 rfl ?_
    refine v_lcmp O dX0_addBest_94 ?_
    refine v_ifC_ge (tgt := 100) O dX0_addBest_95 (by decide) (fun h2 => ?_) (fun h2 => ?_)
    · have h2 : le ≤ A.2.2.2 := by rw [pk_uLs] at h2; exact h2
      refine v_aload_n O dX0_addBest_100 rfl ?_
      refine v_dup O dX0_addBest_101 rfl ?_
      refine v_get O dX0_addBest_102 flX0_9 4 rfl rfl ?_
      refine v_iconst (v := nI 1) O dX0_addBest_105 (by decide) ?_
      refine v_iaddN O dX0_addBest_106 ?_
      refine v_put (ty := .int) O dX0_addBest_107 flX0_9 ftX0 4 rfl rfl (by decide +kernel) rfl rfl (Nat.le_of_ble_eq_true rfl) ?_
      refine v_iconst (v := bI true) O dX0_addBest_110 (by decide) ?_
      exact v_zreturn O OR dX0_addBest_111 (by decide) (⟨by rw [decide_eq_true h2], fe, by rw [if_pos h2]; rfl⟩) (Nat.le_of_ble_eq_true rfl) (Nat.le_of_ble_eq_true rfl)
    · have h2 : ¬ le ≤ A.2.2.2 := by rw [pk_uLs] at h2; exact h2
      refine v_iconst (v := bI false) O dX0_addBest_98 (by decide) ?_
      exact v_zreturn O OR dX0_addBest_99 (by decide) (⟨by rw [decide_eq_false h2], fe, by rw [if_neg h2]; rfl⟩) (Nat.le_of_ble_eq_true rfl) (Nat.le_of_ble_eq_true rfl)
  · omega
