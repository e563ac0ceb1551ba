theorem c_within {E : ET} {w : va_W} (hst : E.1.stackTraces = false) (x lo hi : Int32) : Ctr E yX5_within cdX5_within (rmL 1) [.int x, .int lo, .int hi] w (pR (some (.int (bI (decide (lo ≤ x ∧ x ≤ hi))))) w) noX 0 0 := by
  refine ctr_of hst (by decide) (Nat.le_of_ble_eq_true rfl) (fun G O OR hN => ?_)
  have O : OKG E G cX5_within RX5 (rmL 1) [] := O
  have hN : nLG G = 3 := hN
  refine v_iload_n O dX5_within_0 rfl ?_
  refine v_iload_n O dX5_within_1 rfl ?_
  refine v_icmp_lt (tgt := 14) O dX5_within_2 (by decide) (fun h => ?_) (fun h => ?_)
  · refine v_iconst (v := nI 0) O dX5_within_14 (by decide) ?_
    exact v_zreturn O OR dX5_within_15 (by decide) (⟨by rw [decide_eq_false (fun q => by rw [fa_le] at q; rw [fa_lt] at h; omega)]; rfl, rfl⟩) (Nat.le_of_ble_eq_true rfl) (Nat.le_of_ble_eq_true rfl)
  · refine v_iload_n O dX5_within_5 rfl ?_
    refine v_iload_n O dX5_within_6 rfl ?_
    refine v_icmp_gt (tgt := 14) O dX5_within_7 (by decide) (fun h2 => ?_) (fun h2 => ?_)
    · refine v_iconst (v := nI 0) O dX5_within_14 (by decide) ?_
      exact v_zreturn O OR dX5_within_15 (by decide) (⟨by rw [decide_eq_false (fun q => by rw [fa_le, fa_le] at q; rw [fa_lt] at h2; omega)]; rfl, rfl⟩) (Nat.le_of_ble_eq_true rfl) (Nat.le_of_ble_eq_true rfl)
    · refine v_iconst (v := nI 1) O dX5_within_10 (by decide) ?_
      refine v_goto (tgt := 15) O dX5_within_11 (by decide) ?_
      exact v_zreturn O OR dX5_within_15 (by decide) (⟨by rw [decide_eq_true (by rw [fa_le, fa_le]; rw [fa_lt] at h h2; omega)]; rfl, rfl⟩) (Nat.le_of_ble_eq_true rfl) (Nat.le_of_ble_eq_true rfl)
theorem c_withinN {E : ET} {w : va_W} (hst : E.1.stackTraces = false) (a lo hi : Nat) (ha : a < 2 ^ 31) (h1 : lo < 2 ^ 31) (h2 : hi < 2 ^ 31) : Ctr E yX5_within cdX5_within (rmL 1) [.int (nI a), .int (nI lo), .int (nI hi)] w (pR (some (.int (bI (decide (lo ≤ a ∧ a ≤ hi))))) w) noX 0 0 := by
  have h := c_within (w := w) hst (nI a) (nI lo) (nI hi)
  have e : decide (nI lo ≤ nI a ∧ nI a ≤ nI hi) = decide (lo ≤ a ∧ a ≤ hi) := decide_eq_decide.mpr (by rw [nI_leI h1 ha, nI_leI ha h2])
  rw [e] at h
  exact h
/-- 0 ≤ x < n -/
def inB (x : Int32) (n : Nat) : Bool := decide (0 ≤ x.toInt) && decide (x.toInt < n)
theorem inB_iff {x : Int32} {n : Nat} : inB x n = true ↔ inR x n := by
  unfold inB inR
  simp
theorem inB_dec {x : Int32} {n : Nat} (hn : n < 2 ^ 30) : decide (nI 0 ≤ x ∧ x ≤ nI n - nI 1) = inB x n := by
  have := inR_iff (x := x) hn
  cases h : inB x n
  · exact decide_eq_false (fun q => by rw [inB_iff.mpr (this.mp q)] at h; cases h)
  · exact decide_eq_true (this.mpr (inB_iff.mp h))
theorem inB_nI {j n : Nat} (hj : j < n) (hn : n < 2 ^ 31) : inB (nI j) n = true := inB_iff.mpr (inR_nI hj hn)
theorem inB_of {x : Int32} {n : Nat} (h : inB x n = true) : ∃ j : Nat, j < n ∧ x = nI j := inR_of (inB_iff.mp h)
theorem c_isChannel {E : ET} {ad : Nat → Nat} {th n t dr ms : Nat} {pe pw : Nat → Nat} {len : Nat} {cod : Nat → Nat} {mm : Nat} {fs fc fw : Nat → Nat} {sc : Nat → Int64} {li : Nat → Nat} {lm ls lq hs : Int64} (hst : E.1.stackTraces = false) (hn : n ≤ 16) (x : Int32) : Ctr E yX5_isChannel cdX5_isChannel (rmL 2) [.ref (ad 0), .int x] (WM E ad th n t dr ms pe pw len cod mm fs fc fw sc li lm ls lq hs) (pR (some (.int (bI (inB x n)))) (WM E ad th n t dr ms pe pw len cod mm fs fc fw sc li lm ls lq hs)) noX 0 0 := by
  refine ctr_of hst (by decide) (Nat.le_of_ble_eq_true rfl) (fun G O OR hN => ?_)
  have O : OKG E G cX5_isChannel RX5 (rmL 2) [] := O
  have hN : nLG G = 2 := hN
  refine v_iload_n O dX5_isChannel_0 rfl ?_
  refine v_iconst (v := nI 0) O dX5_isChannel_1 (by decide) ?_
  refine v_aload_n O dX5_isChannel_2 rfl ?_
  refine v_get O dX5_isChannel_3 flX5_7 0 rfl rfl ?_
  refine v_iconst (v := nI 1) O dX5_isChannel_6 (by decide) ?_
  refine v_isub O dX5_isChannel_7 ?_
  refine v_S1 O dX5_isChannel_8 lkX5_42 (c_within hst x (nI 0) (nI n - nI 1)) rfl rfl rfl (by first | exact hkc | exact Nat.zero_le _) (by first | exact hks | exact Nat.zero_le _) ?_
  exact v_zreturn O OR dX5_isChannel_11 (bI_nar _) (⟨by rw [inB_dec (by omega)], rfl⟩) (Nat.le_of_ble_eq_true rfl) (Nat.le_of_ble_eq_true rfl)
theorem c_isSlope {E : ET} {ad : Nat → Nat} {th n t dr ms : Nat} {pe pw : Nat → Nat} {len : Nat} {cod : Nat → Nat} {mm : Nat} {fs fc fw : Nat → Nat} {sc : Nat → Int64} {li : Nat → Nat} {lm ls lq hs : Int64} (hst : E.1.stackTraces = false) (hn : n ≤ 16) (x : Int32) : Ctr E yX5_isSlope cdX5_isSlope (rmL 2) [.ref (ad 0), .int x] (WM E ad th n t dr ms pe pw len cod mm fs fc fw sc li lm ls lq hs) (pR (some (.int (bI (inB x n)))) (WM E ad th n t dr ms pe pw len cod mm fs fc fw sc li lm ls lq hs)) noX 0 0 := by
  refine ctr_of hst (by decide) (Nat.le_of_ble_eq_true rfl) (fun G O OR hN => ?_)
  have O : OKG E G cX5_isSlope RX5 (rmL 2) [] := O
  have hN : nLG G = 2 := hN
  refine v_iload_n O dX5_isSlope_0 rfl ?_
  refine v_iconst (v := nI 0) O dX5_isSlope_1 (by decide) ?_
  refine v_aload_n O dX5_isSlope_2 rfl ?_
  refine v_get O dX5_isSlope_3 flX5_7 0 rfl rfl ?_
  refine v_iconst (v := nI 1) O dX5_isSlope_6 (by decide) ?_
  refine v_isub O dX5_isSlope_7 ?_
  refine v_S1 O dX5_isSlope_8 lkX5_42 (c_within hst x (nI 0) (nI n - nI 1)) rfl rfl rfl (by first | exact hkc | exact Nat.zero_le _) (by first | exact hks | exact Nat.zero_le _) ?_
  exact v_zreturn O OR dX5_isSlope_11 (bI_nar _) (⟨by rw [inB_dec (by omega)], rfl⟩) (Nat.le_of_ble_eq_true rfl) (Nat.le_of_ble_eq_true rfl)
theorem c_isColumn {E : ET} {ad : Nat → Nat} {th n t dr ms : Nat} {pe pw : Nat → Nat} {len : Nat} {cod : Nat → Nat} {mm : Nat} {fs fc fw : Nat → Nat} {sc : Nat → Int64} {li : Nat → Nat} {lm ls lq hs : Int64} (hst : E.1.stackTraces = false) (ht : t ≤ 48) (x : Int32) : Ctr E yX5_isColumn cdX5_isColumn (rmL 2) [.ref (ad 0), .int x] (WM E ad th n t dr ms pe pw len cod mm fs fc fw sc li lm ls lq hs) (pR (some (.int (bI (inB x t)))) (WM E ad th n t dr ms pe pw len cod mm fs fc fw sc li lm ls lq hs)) noX 0 0 := by
  refine ctr_of hst (by decide) (Nat.le_of_ble_eq_true rfl) (fun G O OR hN => ?_)
  have O : OKG E G cX5_isColumn RX5 (rmL 2) [] := O
  have hN : nLG G = 2 := hN
  refine v_iload_n O dX5_isColumn_0 rfl ?_
  refine v_iconst (v := nI 0) O dX5_isColumn_1 (by decide) ?_
  refine v_aload_n O dX5_isColumn_2 rfl ?_
  refine v_get O dX5_isColumn_3 flX5_46 0 rfl rfl ?_
  refine v_iconst (v := nI 1) O dX5_isColumn_6 (by decide) ?_
  refine v_isub O dX5_isColumn_7 ?_
  refine v_S1 O dX5_isColumn_8 lkX5_42 (c_within hst x (nI 0) (nI t - nI 1)) rfl rfl rfl (by first | exact hkc | exact Nat.zero_le _) (by first | exact hks | exact Nat.zero_le _) ?_
  exact v_zreturn O OR dX5_isColumn_11 (bI_nar _) (⟨by rw [inB_dec (by omega)], rfl⟩) (Nat.le_of_ble_eq_true rfl) (Nat.le_of_ble_eq_true rfl)
theorem c_thrown {E : ET} {ad : Nat → Nat} {th n t dr ms : Nat} {pe pw : Nat → Nat} {len : Nat} {cod : Nat → Nat} {mm : Nat} {fs fc fw : Nat → Nat} {sc : Nat → Int64} {li : Nat → Nat} {lm ls lq hs : Int64} (hst : E.1.stackTraces = false) : Ctr E yX5_thrown cdX5_thrown (rmL 1) [.ref (ad 0)] (WM E ad th n t dr ms pe pw len cod mm fs fc fw sc li lm ls lq hs) (pR (some (.int (nI th))) (WM E ad th n t dr ms pe pw len cod mm fs fc fw sc li lm ls lq hs)) noX 0 0 := by
  refine ctr_of hst (by decide) (Nat.le_of_ble_eq_true rfl) (fun G O OR hN => ?_)
  have O : OKG E G cX5_thrown RX5 (rmL 1) [] := O
  have hN : nLG G = 1 := hN
  refine v_aload_n O dX5_thrown_0 rfl ?_
  refine v_get O dX5_thrown_1 flX5_39 0 rfl rfl ?_
  exact v_ireturn O OR dX5_thrown_4 (⟨rfl, rfl⟩) (Nat.le_of_ble_eq_true rfl) (Nat.le_of_ble_eq_true rfl)
/-- f, but z for k < i -/
def fil {α : Type} (f : Nat → α) (z : α) (i : Nat) : Nat → α := fun q => if q < i then z else f q
theorem fil_0 {α : Type} (f : Nat → α) (z : α) : fil f z 0 = f := by funext q; simp [fil]
theorem fil_s {α : Type} (f : Nat → α) (z : α) (i : Nat) : va_up (fil f z i) i z = fil f z (i + 1) := by
  funext q
  simp only [va_up, fil]
  by_cases h : q = i
  · subst h; simp
  · rw [if_neg h]
    by_cases h2 : q < i
    · rw [if_pos h2, if_pos (by omega)]
    · rw [if_neg h2, if_neg (by omega)]
theorem lp_clearPending {E : ET} {G : GT} {R0 : Room} {tb : List ExceptionTableEntry} (O : OKG E G cX5_clearPending RX5 R0 tb) (hN : nLG G = 2) {ad : Nat → Nat} {th n t dr ms : Nat} {pe pw : Nat → Nat} {len : Nat} {cod : Nat → Nat} {mm : Nat} {fs fc fw : Nat → Nat} {sc : Nat → Int64} {li : Nat → Nat} {lm ls lq hs : Int64} (kk : V E G 0 0 21 [(0, .ref (ad 0)), (1, .int (nI 16))] [] (WM E ad th n t dr ms (fil pe 0 16) pw len cod mm fs fc fw sc li lm ls lq hs)) : ∀ j q : Nat, q ≤ 16 → j = 16 - q → V E G 0 0 2 [(0, .ref (ad 0)), (1, .int (nI q))] [] (WM E ad th n t dr ms (fil pe 0 q) pw len cod mm fs fc fw sc li lm ls lq hs) := by
  intro j
  induction j using Nat.strongRecOn with
  | _ j ih =>
    intro q hq hj
    refine v_iload_n O dX5_clearPending_2 rfl ?_
    refine v_bipush (v := nI 16) O dX5_clearPending_3 (by decide) ?_
    refine v_icmpN_ge (tgt := 21) O dX5_clearPending_5 (by decide) (by omega) (by omega) (fun h => ?_) (fun h => ?_)
    · have e : q = 16 := by omega
      subst e
      exact kk
    · refine v_aload_n O dX5_clearPending_8 rfl ?_
      refine v_get O dX5_clearPending_9 flX5_13 0 rfl rfl ?_
      refine v_iload_n O dX5_clearPending_12 rfl ?_
      refine v_iconst (v := nI 0) O dX5_clearPending_13 (by decide) ?_
      refine v_iastN O dX5_clearPending_14 1 rfl (by decide) (by omega) ?_
      refine v_iincN (b := 1) O dX5_clearPending_15 rfl (by decide) (by rw [hN]; decide) ?_
      refine v_goto (tgt := 2) O dX5_clearPending_18 (by decide) ?_
      refine v_ord [0, 1] ?_
      refine v_w (w' := (WM E ad th n t dr ms (fil pe 0 (q + 1)) pw len cod mm fs fc fw sc li lm ls lq hs)) (by rw [fil_s]; rfl) ?_
      exact ih (j - 1) (by omega) (q + 1) (by omega) (by omega)
theorem c_clearPending {E : ET} {ad : Nat → Nat} {th n t dr ms : Nat} {pe pw : Nat → Nat} {len : Nat} {cod : Nat → Nat} {mm : Nat} {fs fc fw : Nat → Nat} {sc : Nat → Int64} {li : Nat → Nat} {lm ls lq hs : Int64} (hst : E.1.stackTraces = false) : Ctr E yX5_clearPending cdX5_clearPending (rmL 1) [.ref (ad 0)] (WM E ad th n t dr ms pe pw len cod mm fs fc fw sc li lm ls lq hs) (pR none (WM E ad th n t dr ms (fil pe 0 16) pw len cod mm fs fc fw sc li lm ls lq hs)) noX 0 0 := by
  refine ctr_of hst (by decide) (Nat.le_of_ble_eq_true rfl) (fun G O OR hN => ?_)
  have O : OKG E G cX5_clearPending RX5 (rmL 1) [] := O
  have hN : nLG G = 2 := hN
  refine v_iconst (v := nI 0) O dX5_clearPending_0 (by decide) ?_
  refine v_istore_n O dX5_clearPending_1 (by rw [hN]; decide) ?_
  refine v_ord [0, 1] ?_
  refine v_w (w' := (WM E ad th n t dr ms (fil pe 0 0) pw len cod mm fs fc fw sc li lm ls lq hs)) (by rw [fil_0]) ?_
  refine lp_clearPending O hN ?_ 16 0 (by omega) (by omega)
  exact v_return O OR dX5_clearPending_21 (⟨rfl, rfl⟩) (Nat.le_of_ble_eq_true rfl) (Nat.le_of_ble_eq_true rfl)
