-- a column more
def bgT (t : Nat) : Nat := if t = 48 then 48 else t + 1
def bgD (t dr : Nat) : Nat := if t = 48 then dr + 1 else dr
def shK (pw : Nat → Nat) (i : Nat) : Nat → Nat := fun q => if q < i then pw (q + 16) else pw q
def bgP (t : Nat) (pw : Nat → Nat) : Nat → Nat := if t = 48 then shK pw 752 else pw
theorem shK_0 (pw : Nat → Nat) : shK pw 0 = pw := by funext q; simp [shK]
theorem shK_s (pw : Nat → Nat) (i : Nat) : va_up (shK pw i) i (shK pw i (i + 16)) = shK pw (i + 1) := by
  funext q
  simp only [va_up, shK]
  by_cases h : q = i
  · subst h
    rw [if_pos rfl, if_neg (by omega), if_pos (by omega)]
  · rw [if_neg h]
    by_cases h2 : q < i
    · rw [if_pos h2, if_pos (by omega)]
    · rw [if_neg h2, if_neg (by omega)]
theorem lp_begin {E : ET} {G : GT} {R0 : Room} {tb : List ExceptionTableEntry} (O : OKG E G cX5_begin RX5 R0 tb) (hN : nLG G = 2) {ad : Nat → Nat} {th n t dr ms : Nat} {pe pw : Nat → Nat} {len : Nat} {cod : Nat → Nat} {mm : Nat} {fs fc fw : Nat → Nat} {sc : Nat → Int64} {li : Nat → Nat} {lm ls lq hs : Int64} (kk : V E G 0 0 39 [(0, .ref (ad 0)), (1, .int (nI 752))] [] (WM E ad th n t dr ms pe (shK pw 752) len cod mm fs fc fw sc li lm ls lq hs)) : ∀ j q : Nat, q ≤ 752 → j = 752 - q → V E G 0 0 11 [(0, .ref (ad 0)), (1, .int (nI q))] [] (WM E ad th n t dr ms pe (shK pw q) len cod mm fs fc fw sc li lm ls lq hs) := by
  intro j
  induction j using Nat.strongRecOn with
  | _ j ih =>
    intro q hq hj
    refine v_iload_n O dX5_begin_11 rfl ?_
    refine v_sipush (v := nI 752) O dX5_begin_12 (by decide) ?_
    refine v_icmpN_ge (tgt := 39) O dX5_begin_15 (by decide) (by omega) (by omega) (fun h => ?_) (fun h => ?_)
    · have e : q = 752 := by omega
      subst e
      exact kk
    · refine v_aload_n O dX5_begin_18 rfl ?_
      refine v_get O dX5_begin_19 flX5_17 0 rfl rfl ?_
      refine v_iload_n O dX5_begin_22 rfl ?_
      refine v_aload_n O dX5_begin_23 rfl ?_
      refine v_get O dX5_begin_24 flX5_17 0 rfl rfl ?_
      refine v_iload_n O dX5_begin_27 rfl ?_
      refine v_bipush (v := nI 16) O dX5_begin_28 (by decide) ?_
      refine v_iaddN O dX5_begin_30 ?_
      refine v_iald O dX5_begin_31 2 rfl (by decide) (by omega) ?_
      refine v_iastN O dX5_begin_32 2 rfl (by decide) (by omega) ?_
      refine v_iincN (b := 1) O dX5_begin_33 rfl (by decide) (by rw [hN]; decide) ?_
      refine v_goto (tgt := 11) O dX5_begin_36 (by decide) ?_
      refine v_ord [0, 1] ?_
      refine v_w (w' := (WM E ad th n t dr ms pe (shK pw (q + 1)) len cod mm fs fc fw sc li lm ls lq hs)) (by rw [shK_s]; rfl) ?_
      exact ih (j - 1) (by omega) (q + 1) (by omega) (by omega)
theorem c_begin {E : ET} {ad : Nat → Nat} {th n t dr ms : Nat} {pe pw : Nat → Nat} {len : Nat} {cod : Nat → Nat} {mm : Nat} {fs fc fw : Nat → Nat} {sc : Nat → Int64} {li : Nat → Nat} {lm ls lq hs : Int64} (hst : E.1.stackTraces = false) (ht : t ≤ 48) : Ctr E yX5_begin cdX5_begin (rmL 1) [.ref (ad 0)] (WM E ad th n t dr ms pe pw len cod mm fs fc fw sc li lm ls lq hs) (pR none (WM E ad th n (bgT t) (bgD t dr) ms pe (bgP t pw) len cod (0) fs fc fw sc li lm ls lq hs)) noX 0 0 := by
  refine ctr_of hst (by decide) (Nat.le_of_ble_eq_true rfl) (fun G O OR hN => ?_)
  have O : OKG E G cX5_begin RX5 (rmL 1) [] := O
  have hN : nLG G = 2 := hN
  refine v_aload_n O dX5_begin_0 rfl ?_
  refine v_get O dX5_begin_1 flX5_46 0 rfl rfl ?_
  refine v_bipush (v := nI 48) O dX5_begin_4 (by decide) ?_
  refine v_icmpN_ne (tgt := 59) O dX5_begin_6 (by decide) (by omega) (by omega) (fun h => ?_) (fun h => ?_)
  · refine v_aload_n O dX5_begin_59 rfl ?_
    refine v_dup O dX5_begin_60 rfl ?_
    refine v_get O dX5_begin_61 flX5_46 0 rfl rfl ?_
    refine v_iconst (v := nI 1) O dX5_begin_64 (by decide) ?_
    refine v_iaddN O dX5_begin_65 ?_
    refine v_put (ty := .int) O dX5_begin_66 flX5_46 ftX5 0 rfl rfl (by decide +kernel) rfl rfl (Nat.le_of_ble_eq_true rfl) ?_
    refine v_aload_n O dX5_begin_69 rfl ?_
    refine v_iconst (v := nI 0) O dX5_begin_70 (by decide) ?_
    refine v_put (ty := .int) O dX5_begin_71 flX5_55 ftX5 0 rfl rfl (by decide +kernel) rfl rfl (Nat.le_of_ble_eq_true rfl) ?_
    exact v_return O OR dX5_begin_74 (⟨rfl, by simp only [bgT, bgD, bgP, if_neg h]; rfl⟩) (Nat.le_of_ble_eq_true rfl) (Nat.le_of_ble_eq_true rfl)
  · subst h
    refine v_iconst (v := nI 0) O dX5_begin_9 (by decide) ?_
    refine v_istore_n O dX5_begin_10 (by rw [hN]; decide) ?_
    refine v_ord [0, 1] ?_
    refine v_w (w' := (WM E ad th n (48) dr ms pe (shK pw 0) len cod mm fs fc fw sc li lm ls lq hs)) (by rw [shK_0]) ?_
    refine lp_begin O hN ?_ 752 0 (by omega) (by omega)
    refine v_aload_n O dX5_begin_39 rfl ?_
    refine v_dup O dX5_begin_40 rfl ?_
    refine v_get O dX5_begin_41 flX5_49 0 rfl rfl ?_
    refine v_iconst (v := nI 1) O dX5_begin_44 (by decide) ?_
    refine v_iaddN O dX5_begin_45 ?_
    refine v_put (ty := .int) O dX5_begin_46 flX5_49 ftX5 0 rfl rfl (by decide +kernel) rfl rfl (Nat.le_of_ble_eq_true rfl) ?_
    refine v_aload_n O dX5_begin_49 rfl ?_
    refine v_dup O dX5_begin_50 rfl ?_
    refine v_get O dX5_begin_51 flX5_46 0 rfl rfl ?_
    refine v_iconst (v := nI 1) O dX5_begin_54 (by decide) ?_
    refine v_isubN O dX5_begin_55 (by omega) ?_
    refine v_put (ty := .int) O dX5_begin_56 flX5_46 ftX5 0 rfl rfl (by decide +kernel) rfl rfl (Nat.le_of_ble_eq_true rfl) ?_
    refine v_aload_n O dX5_begin_59 rfl ?_
    refine v_dup O dX5_begin_60 rfl ?_
    refine v_get O dX5_begin_61 flX5_46 0 rfl rfl ?_
    refine v_iconst (v := nI 1) O dX5_begin_64 (by decide) ?_
    refine v_iaddN O dX5_begin_65 ?_
    refine v_put (ty := .int) O dX5_begin_66 flX5_46 ftX5 0 rfl rfl (by decide +kernel) rfl rfl (Nat.le_of_ble_eq_true rfl) ?_
    refine v_aload_n O dX5_begin_69 rfl ?_
    refine v_iconst (v := nI 0) O dX5_begin_70 (by decide) ?_
    refine v_put (ty := .int) O dX5_begin_71 flX5_55 ftX5 0 rfl rfl (by decide +kernel) rfl rfl (Nat.le_of_ble_eq_true rfl) ?_
    exact v_return O OR dX5_begin_74 (⟨rfl, rfl⟩) (Nat.le_of_ble_eq_true rfl) (Nat.le_of_ble_eq_true rfl)
-- characters
def isP (c : Nat) : Bool := decide (48 ≤ c ∧ c ≤ 57) || decide (65 ≤ c ∧ c ≤ 90)
def pv (c : Nat) : Nat := if c ≤ 57 then c - 48 else c - 55
def pvI (c : Nat) : Int32 := if isP c = true then nI (pv c) else -1
theorem pvI_m1 {c : Nat} (hc : c < 128) : pvI c = -1 ↔ isP c = false := by
  unfold pvI
  cases h : isP c
  · simp
  · rw [if_pos rfl]
    constructor
    · intro h2
      have h3 : (nI (pv c)).toInt = (-1 : Int32).toInt := by rw [h2]
      have h4 : pv c < 2 ^ 31 := by unfold pv; split <;> omega
      rw [nI_toInt h4] at h3
      have h5 : (-1 : Int32).toInt = -1 := by decide
      omega
    · intro h2; cases h2
theorem c_powerOfM {E : ET} {w : va_W} (hst : E.1.stackTraces = false) (c : Nat) (hc : c < 128) : Ctr E yX5_powerOf cdX5_powerOf (rmL 2) [.int (nI c)] w (pR (some (.int (pvI c))) w) noX 0 0 := by
  refine ctr_of hst (by decide) (Nat.le_of_ble_eq_true rfl) (fun G O OR hN => ?_)
  have O : OKG E G cX5_powerOf RX5 (rmL 2) [] := O
  have hN : nLG G = 1 := hN
  refine v_iload_n O dX5_powerOf_0 rfl ?_
  refine v_bipush (v := nI 48) O dX5_powerOf_1 (by decide) ?_
  refine v_bipush (v := nI 57) O dX5_powerOf_3 (by decide) ?_
  refine v_S1 O dX5_powerOf_5 lkX5_42 (c_withinN hst c 48 57 (by omega) (by decide) (by decide)) rfl rfl rfl (by first | exact hkc | exact Nat.zero_le _) (by first | exact hks | exact Nat.zero_le _) ?_
  refine v_ifB_eq (tgt := 18) O dX5_powerOf_8 (by decide) (fun h => ?_) (fun h => ?_)
  · refine v_iload_n O dX5_powerOf_18 rfl ?_
    refine v_bipush (v := nI 65) O dX5_powerOf_19 (by decide) ?_
    refine v_bipush (v := nI 90) O dX5_powerOf_21 (by decide) ?_
    refine v_S1 O dX5_powerOf_23 lkX5_42 (c_withinN hst c 65 90 (by omega) (by decide) (by decide)) rfl rfl rfl (by first | exact hkc | exact Nat.zero_le _) (by first | exact hks | exact Nat.zero_le _) ?_
    refine v_ifB_eq (tgt := 39) O dX5_powerOf_26 (by decide) (fun h2 => ?_) (fun h2 => ?_)
    · refine v_iconst (v := -1) O dX5_powerOf_39 (by decide) ?_
      exact v_ireturn O OR dX5_powerOf_40 (⟨by unfold pvI isP; rw [h, h2]; rfl, rfl⟩) (Nat.le_of_ble_eq_true rfl) (Nat.le_of_ble_eq_true rfl)
    · have h3 := of_decide_eq_true h2
      refine v_bipush (v := nI 10) O dX5_powerOf_29 (by decide) ?_
      refine v_iload_n O dX5_powerOf_31 rfl ?_
      refine v_iaddN O dX5_powerOf_32 ?_
      refine v_bipush (v := nI 65) O dX5_powerOf_33 (by decide) ?_
      refine v_isubN O dX5_powerOf_35 (by omega) ?_
      refine v_goto (tgt := 40) O dX5_powerOf_36 (by decide) ?_
      exact v_ireturn O OR dX5_powerOf_40 (⟨by unfold pvI isP; rw [h, h2]; simp only [Bool.or_true, if_true]; unfold pv; rw [if_neg (by omega), show 10 + c - 65 = c - 55 by omega], rfl⟩) (Nat.le_of_ble_eq_true rfl) (Nat.le_of_ble_eq_true rfl)
  · have h3 := of_decide_eq_true h
    refine v_iload_n O dX5_powerOf_11 rfl ?_
    refine v_bipush (v := nI 48) O dX5_powerOf_12 (by decide) ?_
    refine v_isubN O dX5_powerOf_14 (by omega) ?_
    refine v_goto (tgt := 40) O dX5_powerOf_15 (by decide) ?_
    exact v_ireturn O OR dX5_powerOf_40 (⟨by unfold pvI isP; rw [h]; simp only [Bool.true_or, if_true]; unfold pv; rw [if_pos (by omega)], rfl⟩) (Nat.le_of_ble_eq_true rfl) (Nat.le_of_ble_eq_true rfl)
/-- the first of len characters that is no power -/
def errAt (cod : Nat → Nat) (len : Nat) : Nat := fa_first (fun i => !isP (cod i)) len
theorem errAt_of {cod : Nat → Nat} {len i : Nat} (hi : i ≤ len) (h : ∀ j, j < i → isP (cod j) = true) (h2 : i = len ∨ isP (cod i) = false) : errAt cod len = i := by
  unfold errAt
  have a1 := fa_first_le (fun i => !isP (cod i)) len
  have a2 := fa_first_no (fun i => !isP (cod i)) len
  have a3 := fa_first_yes (fun i => !isP (cod i)) len
  rcases Nat.lt_trichotomy (fa_first (fun i => !isP (cod i)) len) i with q | q | q
  · have b1 := a3 (by omega)
    have b2 := h _ q
    simp only [b2] at b1
    cases b1
  · exact q
  · have b1 := a2 i q
    rcases h2 with e | e
    · omega
    · simp only [e] at b1
      cases b1
theorem lp_rightLength {E : ET} {G : GT} (O : OKG E G cX5_rightLength RX5 (rmL 3) []) (hN : nLG G = 2) {ad : Nat → Nat} {th n t dr ms : Nat} {pe pw : Nat → Nat} {len : Nat} {cod : Nat → Nat} {mm : Nat} {fs fc fw : Nat → Nat} {sc : Nat → Int64} {li : Nat → Nat} {lm ls lq hs : Int64} (hst : E.1.stackTraces = false) (hl : len ≤ 64) (hcod : ∀ j, j < len → cod j < 128) (kk : V E G 0 0 29 [(0, .ref (ad 0)), (1, .int (nI (errAt cod len)))] [] (WM E ad th n t dr ms pe pw len cod mm fs fc fw sc li lm ls lq hs)) : ∀ j q : Nat, q ≤ len → (∀ i, i < q → isP (cod i) = true) → j = len - q → V E G 0 0 2 [(0, .ref (ad 0)), (1, .int (nI q))] [] (WM E ad th n t dr ms pe pw len cod mm fs fc fw sc li lm ls lq hs) := by
  intro j
  induction j using Nat.strongRecOn with
  | _ j ih =>
    intro q hq hp hj
    refine v_iload_n O dX5_rightLength_2 rfl ?_
    refine v_aload_n O dX5_rightLength_3 rfl ?_
    refine v_get O dX5_rightLength_4 flX5_68 0 rfl rfl ?_
    refine v_icmpN_ge (tgt := 29) O dX5_rightLength_7 (by decide) (by omega) (by omega) (fun h => ?_) (fun h => ?_)
    · have e : errAt cod len = q := errAt_of hq hp (Or.inl (by omega))
      rw [e] at kk
      exact kk
    · refine v_aload_n O dX5_rightLength_10 rfl ?_
      refine v_get O dX5_rightLength_11 flX5_20 0 rfl rfl ?_
      refine v_iload_n O dX5_rightLength_14 rfl ?_
      refine v_iald O dX5_rightLength_15 3 rfl (by decide) (by omega) ?_
      refine v_S1 O dX5_rightLength_16 lkX5_71 (c_powerOfM hst (cod q) (hcod q (by omega))) rfl rfl rfl (by first | exact hkc | exact Nat.zero_le _) (by first | exact hks | exact Nat.zero_le _) ?_
      refine v_iconst (v := -1) O dX5_rightLength_19 (by decide) ?_
      refine v_icmp_eq (tgt := 29) O dX5_rightLength_20 (by decide) (fun h2 => ?_) (fun h2 => ?_)
      · have e : errAt cod len = q := errAt_of hq hp (Or.inr ((pvI_m1 (hcod q (by omega))).mp h2))
        rw [e] at kk
        exact kk
      · have h3 : isP (cod q) = true := by
          cases h4 : isP (cod q)
          · exact absurd ((pvI_m1 (hcod q (by omega))).mpr h4) h2
          · rfl
        refine v_iincN (b := 1) O dX5_rightLength_23 rfl (by decide) (by rw [hN]; decide) ?_
        refine v_goto (tgt := 2) O dX5_rightLength_26 (by decide) ?_
        refine v_ord [0, 1] ?_
        exact ih (j - 1) (by omega) (q + 1) (by omega) (fun i hi => by
          rcases Nat.lt_or_ge i q with g | g
          · exact hp i g
          · rw [show i = q by omega]; exact h3) (by omega)
theorem c_rightLength {E : ET} {ad : Nat → Nat} {th n t dr ms : Nat} {pe pw : Nat → Nat} {len : Nat} {cod : Nat → Nat} {mm : Nat} {fs fc fw : Nat → Nat} {sc : Nat → Int64} {li : Nat → Nat} {lm ls lq hs : Int64} (hst : E.1.stackTraces = false) (hl : len ≤ 64) (hcod : ∀ j, j < len → cod j < 128) : Ctr E yX5_rightLength cdX5_rightLength (rmL 3) [.ref (ad 0)] (WM E ad th n t dr ms pe pw len cod mm fs fc fw sc li lm ls lq hs) (pR (some (.int (nI (errAt cod len)))) (WM E ad th n t dr ms pe pw len cod mm fs fc fw sc li lm ls lq hs)) noX 0 0 := by
  refine ctr_of hst (by decide) (Nat.le_of_ble_eq_true rfl) (fun G O OR hN => ?_)
  have O : OKG E G cX5_rightLength RX5 (rmL 3) [] := O
  have hN : nLG G = 2 := hN
  refine v_iconst (v := nI 0) O dX5_rightLength_0 (by decide) ?_
  refine v_istore_n O dX5_rightLength_1 (by rw [hN]; decide) ?_
  refine v_ord [0, 1] ?_
  refine lp_rightLength O hN hst hl hcod ?_ len 0 (by omega) (fun i hi => by omega) (by omega)
  refine v_iload_n O dX5_rightLength_29 rfl ?_
  exact v_ireturn O OR dX5_rightLength_30 (⟨rfl, rfl⟩) (Nat.le_of_ble_eq_true rfl) (Nat.le_of_ble_eq_true rfl)
-- offsets
def tof : Nat → Nat → Nat → Nat
  | 0, _, _ => 0
  | k + 1, d, c => if 2 ^ k ≤ c then (d - d / 2) + tof k (d / 2) (c - 2 ^ k) else tof k (d / 2) c
theorem tof_le : ∀ k d c : Nat, tof k d c ≤ d
  | 0, d, c => Nat.zero_le d
  | k + 1, d, c => by
    unfold tof
    split
    · have := tof_le k (d / 2) (c - 2 ^ k)
      omega
    · have := tof_le k (d / 2) c
      omega
def sof (n d c : Nat) : Nat := (2 * d * c + (n - 1)) / (2 * (n - 1))
theorem sof_le {n d c : Nat} (hn : 2 ≤ n) (hc : c < n) : sof n d c ≤ d := by
  unfold sof
  apply Nat.le_of_lt_succ
  rw [Nat.div_lt_iff_lt_mul (by omega)]
  have h1 : d * c ≤ d * (n - 1) := Nat.mul_le_mul_left d (by omega)
  have h2 : d.succ * (2 * (n - 1)) = 2 * (d * (n - 1)) + 2 * (n - 1) := by rw [Nat.succ_mul, Nat.mul_left_comm]
  have h3 : 2 * d * c = 2 * (d * c) := Nat.mul_assoc 2 d c
  omega
theorem lp_treeOffsetM {E : ET} {G : GT} {R0 : Room} {tb : List ExceptionTableEntry} (O : OKG E G cX5_treeOffset RX5 R0 tb) (hN : nLG G = 8) {w : va_W} : ∀ k b d c acc : Nat, k ≤ 4 → b = 2 ^ k → d < 2 ^ 20 → c < 2 ^ 20 → acc + d < 2 ^ 20 → V E G 0 0 65 [(3, .int (nI (acc + tof k d c)))] [] w → V E G 0 0 14 [(3, .int (nI acc)), (4, .int (nI d)), (5, .int (nI c)), (6, .int (nI b))] [] w := by
  intro k
  induction k with
  | zero =>
    intro b d c acc hk hb hd hc ha kk
    have hb : b = 1 := hb
    subst hb
    refine v_iload O dX5_treeOffset_14 rfl ?_
    refine v_iconst (v := nI 1) O dX5_treeOffset_16 (by decide) ?_
    refine v_icmpN_le (tgt := 65) O dX5_treeOffset_17 (by decide) (by omega) (by omega) (fun h => ?_) (fun h => ?_)
    · refine v_ord [3] ?_
      exact kk
    · omega
  | succ k ih =>
    intro b d c acc hk hb hd hc ha kk
    have h2 : b = 2 * 2 ^ k := by rw [hb, Nat.pow_succ']
    have h16 : 2 ^ k ≤ 16 := Nat.pow_le_pow_right (n := 2) (i := k) (j := 4) (by decide) (by omega)
    have h1 : 1 ≤ 2 ^ k := Nat.one_le_two_pow
    have h3 : b / 2 = 2 ^ k := by omega
    refine v_iload O dX5_treeOffset_14 rfl ?_
    refine v_iconst (v := nI 1) O dX5_treeOffset_16 (by decide) ?_
    refine v_icmpN_le (tgt := 65) O dX5_treeOffset_17 (by decide) (by omega) (by omega) (fun h => ?_) (fun h => ?_)
    · omega
    · refine v_iload O dX5_treeOffset_20 rfl ?_
      refine v_iconst (v := nI 2) O dX5_treeOffset_22 (by decide) ?_
      refine v_idivN O dX5_treeOffset_23 (by omega) (by omega) (by omega) ?_
      refine v_istore O dX5_treeOffset_24 (by rw [hN]; decide) ?_
      refine v_iload O dX5_treeOffset_26 rfl ?_
      refine v_iload O dX5_treeOffset_28 rfl ?_
      refine v_iconst (v := nI 2) O dX5_treeOffset_30 (by decide) ?_
      refine v_idivN O dX5_treeOffset_31 (by omega) (by omega) (by omega) ?_
      refine v_icmpN_lt (tgt := 52) O dX5_treeOffset_32 (by decide) (by omega) (by omega) (fun h4 => ?_) (fun h4 => ?_)
      · refine v_iload O dX5_treeOffset_52 rfl ?_
        refine v_istore O dX5_treeOffset_54 (by rw [hN]; decide) ?_
        refine v_iload O dX5_treeOffset_56 rfl ?_
        refine v_iconst (v := nI 2) O dX5_treeOffset_58 (by decide) ?_
        refine v_idivN O dX5_treeOffset_59 (by omega) (by omega) (by omega) ?_
        refine v_istore O dX5_treeOffset_60 (by rw [hN]; decide) ?_
        refine v_goto (tgt := 14) O dX5_treeOffset_62 (by decide) ?_
        refine v_ord [3, 4, 5, 6] ?_
        refine ih (b / 2) (d / 2) c acc (by omega) h3 (by omega) hc (by omega) ?_
        unfold tof at kk
        rw [if_neg (by omega)] at kk
        exact kk
      · refine v_iload_n O dX5_treeOffset_35 rfl ?_
        refine v_iload O dX5_treeOffset_36 rfl ?_
        refine v_iload O dX5_treeOffset_38 rfl ?_
        refine v_isubN O dX5_treeOffset_40 (by omega) ?_
        refine v_iaddN O dX5_treeOffset_41 ?_
        refine v_istore_n O dX5_treeOffset_42 (by rw [hN]; decide) ?_
        refine v_iload O dX5_treeOffset_43 rfl ?_
        refine v_iload O dX5_treeOffset_45 rfl ?_
        refine v_iconst (v := nI 2) O dX5_treeOffset_47 (by decide) ?_
        refine v_idivN O dX5_treeOffset_48 (by omega) (by omega) (by omega) ?_
        refine v_isubN O dX5_treeOffset_49 (by omega) ?_
        refine v_istore O dX5_treeOffset_50 (by rw [hN]; decide) ?_
        refine v_iload O dX5_treeOffset_52 rfl ?_
        refine v_istore O dX5_treeOffset_54 (by rw [hN]; decide) ?_
        refine v_iload O dX5_treeOffset_56 rfl ?_
        refine v_iconst (v := nI 2) O dX5_treeOffset_58 (by decide) ?_
        refine v_idivN O dX5_treeOffset_59 (by omega) (by omega) (by omega) ?_
        refine v_istore O dX5_treeOffset_60 (by rw [hN]; decide) ?_
        refine v_goto (tgt := 14) O dX5_treeOffset_62 (by decide) ?_
        refine v_ord [3, 4, 5, 6] ?_
        refine ih (b / 2) (d / 2) (c - b / 2) (acc + (d - d / 2)) (by omega) h3 (by omega) (by omega) (by omega) ?_
        unfold tof at kk
        rw [if_pos (by omega), ← h3, ← Nat.add_assoc] at kk
        exact kk
theorem c_treeOffsetM {E : ET} {ad : Nat → Nat} {th n t dr ms : Nat} {pe pw : Nat → Nat} {len : Nat} {cod : Nat → Nat} {mm : Nat} {fs fc fw : Nat → Nat} {sc : Nat → Int64} {li : Nat → Nat} {lm ls lq hs : Int64} {K : Nat} (hst : E.1.stackTraces = false) (hK : K ≤ 4) (hn : n = 2 ^ K) (d c : Nat) (hd : d < 16) (hc : c < 16) : Ctr E yX5_treeOffset cdX5_treeOffset (rmL 1) [.ref (ad 0), .int (nI d), .int (nI c)] (WM E ad th n t dr ms pe pw len cod mm fs fc fw sc li lm ls lq hs) (pR (some (.int (nI (tof K d c)))) (WM E ad th n t dr ms pe pw len cod mm fs fc fw sc li lm ls lq hs)) noX 0 0 := by
  refine ctr_of hst (by decide) (Nat.le_of_ble_eq_true rfl) (fun G O OR hN => ?_)
  have O : OKG E G cX5_treeOffset RX5 (rmL 1) [] := O
  have hN : nLG G = 8 := hN
  refine v_iconst (v := nI 0) O dX5_treeOffset_0 (by decide) ?_
  refine v_istore_n O dX5_treeOffset_1 (by rw [hN]; decide) ?_
  refine v_iload_n O dX5_treeOffset_2 rfl ?_
  refine v_istore O dX5_treeOffset_3 (by rw [hN]; decide) ?_
  refine v_iload_n O dX5_treeOffset_5 rfl ?_
  refine v_istore O dX5_treeOffset_6 (by rw [hN]; decide) ?_
  refine v_aload_n O dX5_treeOffset_8 rfl ?_
  refine v_get O dX5_treeOffset_9 flX5_7 0 rfl rfl ?_
  refine v_istore O dX5_treeOffset_12 (by rw [hN]; decide) ?_
  refine v_ord [3, 4, 5, 6] ?_
  refine lp_treeOffsetM O hN K n d c 0 hK hn (by omega) (by omega) (by omega) ?_
  rw [Nat.zero_add]
  refine v_iload_n O dX5_treeOffset_65 rfl ?_
  exact v_ireturn O OR dX5_treeOffset_66 (⟨rfl, rfl⟩) (Nat.le_of_ble_eq_true rfl) (Nat.le_of_ble_eq_true rfl)
theorem c_straightOffsetM {E : ET} {ad : Nat → Nat} {th n t dr ms : Nat} {pe pw : Nat → Nat} {len : Nat} {cod : Nat → Nat} {mm : Nat} {fs fc fw : Nat → Nat} {sc : Nat → Int64} {li : Nat → Nat} {lm ls lq hs : Int64} (hst : E.1.stackTraces = false) (hn : 2 ≤ n) (hn2 : n ≤ 16) (d c : Nat) (hd : d < 16) (hc : c < 16) : Ctr E yX5_straightOffset cdX5_straightOffset (rmL 1) [.ref (ad 0), .int (nI d), .int (nI c)] (WM E ad th n t dr ms pe pw len cod mm fs fc fw sc li lm ls lq hs) (pR (some (.int (nI (sof n d c)))) (WM E ad th n t dr ms pe pw len cod mm fs fc fw sc li lm ls lq hs)) noX 0 0 := by
  have h9 : 2 * d * c ≤ 2 * d * 16 := Nat.mul_le_mul_left _ (by omega)
  refine ctr_of hst (by decide) (Nat.le_of_ble_eq_true rfl) (fun G O OR hN => ?_)
  have O : OKG E G cX5_straightOffset RX5 (rmL 1) [] := O
  have hN : nLG G = 4 := hN
  refine v_aload_n O dX5_straightOffset_0 rfl ?_
  refine v_get O dX5_straightOffset_1 flX5_7 0 rfl rfl ?_
  refine v_iconst (v := nI 1) O dX5_straightOffset_4 (by decide) ?_
  refine v_isubN O dX5_straightOffset_5 (by omega) ?_
  refine v_istore_n O dX5_straightOffset_6 (by rw [hN]; decide) ?_
  refine v_iconst (v := nI 2) O dX5_straightOffset_7 (by decide) ?_
  refine v_iload_n O dX5_straightOffset_8 rfl ?_
  refine v_imulN O dX5_straightOffset_9 ?_
  refine v_iload_n O dX5_straightOffset_10 rfl ?_
  refine v_imulN O dX5_straightOffset_11 ?_
  refine v_iload_n O dX5_straightOffset_12 rfl ?_
  refine v_iaddN O dX5_straightOffset_13 ?_
  refine v_iconst (v := nI 2) O dX5_straightOffset_14 (by decide) ?_
  refine v_iload_n O dX5_straightOffset_15 rfl ?_
  refine v_imulN O dX5_straightOffset_16 ?_
  refine v_idivN O dX5_straightOffset_17 (by omega) (by omega) (by omega) ?_
  exact v_ireturn O OR dX5_straightOffset_18 (⟨rfl, rfl⟩) (Nat.le_of_ble_eq_true rfl) (Nat.le_of_ble_eq_true rfl)
