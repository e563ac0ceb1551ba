def oby (K n : Nat) (s : Bool) (d c : Nat) : Nat := if s = true then sof n d c else tof K d c
theorem oby_le {K n d c : Nat} {s : Bool} (hn : 2 ≤ n) (hc : c < n) : oby K n s d c ≤ d := by
  unfold oby
  split
  · exact sof_le hn hc
  · exact tof_le K d c
theorem two_le {K n : Nat} (h : n = 2 ^ K) (h1 : 1 ≤ K) (h2 : K ≤ 4) : 2 ≤ n ∧ n ≤ 16 := by
  subst h
  exact ⟨Nat.pow_le_pow_right (n := 2) (i := 1) (j := K) (by decide) h1, Nat.pow_le_pow_right (n := 2) (i := K) (j := 4) (by decide) h2⟩
theorem c_offsetBy {E : ET} {ad : Nat → Nat} {th n t dr ms : Nat} {pe pw : Nat → Nat} {len : Nat} {cod : Nat → Nat} {mm : Nat} {fs fc fw : Nat → Nat} {sc : Nat → Int64} {li : Nat → Nat} {lm ls lq hs : Int64} {K : Nat} (hst : E.1.stackTraces = false) (hK : 1 ≤ K) (hK4 : K ≤ 4) (hn : n = 2 ^ K) (d c : Nat) (s : Bool) (hd : d < 16) (hc : c < 16) : Ctr E yX5_offsetBy cdX5_offsetBy (rmL 2) [.ref (ad 0), .int (nI d), .int (nI c), .int (bI s)] (WM E ad th n t dr ms pe pw len cod mm fs fc fw sc li lm ls lq hs) (pR (some (.int (nI (oby K n s d c)))) (WM E ad th n t dr ms pe pw len cod mm fs fc fw sc li lm ls lq hs)) noX 0 0 := by
  obtain ⟨g1, g2⟩ := two_le hn hK hK4
  refine ctr_of hst (by decide) (Nat.le_of_ble_eq_true rfl) (fun G O OR hN => ?_)
  have O : OKG E G cX5_offsetBy RX5 (rmL 2) [] := O
  have hN : nLG G = 4 := hN
  refine v_iload_n O dX5_offsetBy_0 rfl ?_
  refine v_ifB_eq (tgt := 13) O dX5_offsetBy_1 (by decide) (fun h => ?_) (fun h => ?_)
  · refine v_aload_n O dX5_offsetBy_13 rfl ?_
    refine v_iload_n O dX5_offsetBy_14 rfl ?_
    refine v_iload_n O dX5_offsetBy_15 rfl ?_
    refine v_V1 O dX5_offsetBy_16 lkX5_83 (c_treeOffsetM hst hK4 hn d c hd hc) 0 rfl rfl rfl rfl rfl (by first | exact hkc | exact Nat.zero_le _) (by first | exact hks | exact Nat.zero_le _) ?_
    exact v_ireturn O OR dX5_offsetBy_19 (⟨by unfold oby; rw [h]; rfl, rfl⟩) (Nat.le_of_ble_eq_true rfl) (Nat.le_of_ble_eq_true rfl)
  · refine v_aload_n O dX5_offsetBy_4 rfl ?_
    refine v_iload_n O dX5_offsetBy_5 rfl ?_
    refine v_iload_n O dX5_offsetBy_6 rfl ?_
    refine v_V1 O dX5_offsetBy_7 lkX5_79 (c_straightOffsetM hst g1 g2 d c hd hc) 0 rfl rfl rfl rfl rfl (by first | exact hkc | exact Nat.zero_le _) (by first | exact hks | exact Nat.zero_le _) ?_
    refine v_goto (tgt := 19) O dX5_offsetBy_10 (by decide) ?_
    exact v_ireturn O OR dX5_offsetBy_19 (⟨by unfold oby; rw [h]; rfl, rfl⟩) (Nat.le_of_ble_eq_true rfl) (Nat.le_of_ble_eq_true rfl)
def adf (a b : Nat) : Nat := if b ≤ a then a - b else b - a
def bmx (f : Nat → Nat) : Nat → Nat
  | 0 => 0
  | k + 1 => max (bmx f k) (f k)
def bnd (K n d : Nat) (k : Nat) : Nat := bmx (fun c => adf (tof K d c) (sof n d c)) k
theorem sub_ge {a b : Nat} (ha : a < 2 ^ 30) (hb : b < 2 ^ 30) : 0 ≤ nI a - nI b ↔ b ≤ a := by
  rw [fa_le, pk_sub_toInt ha hb, show (0 : Int32).toInt = 0 from rfl]
  omega
theorem neg_sb {a b : Nat} (ha : a < 2 ^ 30) (hb : b < 2 ^ 30) (h : a ≤ b) : -(nI a - nI b) = nI (b - a) := by
  have e := pk_sub_toInt ha hb
  rw [fa_eq, fb_negI (by omega), e, nI_toInt (by omega)]
  omega
theorem zsub_sb {a b : Nat} (ha : a < 2 ^ 30) (hb : b < 2 ^ 30) (h : a ≤ b) : 0 - (nI a - nI b) = nI (b - a) := by
  have e := pk_sub_toInt ha hb
  rw [fa_eq, fb_subI (by rw [e, show (0 : Int32).toInt = 0 from rfl]; omega) (by rw [e, show (0 : Int32).toInt = 0 from rfl]; omega), e, nI_toInt (by omega), show (0 : Int32).toInt = 0 from rfl]
  omega
theorem bmx_le {f : Nat → Nat} {B : Nat} : ∀ k : Nat, (∀ c, c < k → f c ≤ B) → bmx f k ≤ B
  | 0, _ => Nat.zero_le B
  | k + 1, h => by
    have h1 := bmx_le (f := f) (B := B) k (fun c hc => h c (by omega))
    have h2 := h k (by omega)
    show max _ _ ≤ B
    omega
theorem adf_le {a b d : Nat} (ha : a ≤ d) (hb : b ≤ d) : adf a b ≤ d := by unfold adf; split <;> omega
theorem lp_bendOf {E : ET} {G : GT} (O : OKG E G cX5_bendOf RX5 (rmL 2) []) (hN : nLG G = 5) {ad : Nat → Nat} {th n t dr ms : Nat} {pe pw : Nat → Nat} {len : Nat} {cod : Nat → Nat} {mm : Nat} {fs fc fw : Nat → Nat} {sc : Nat → Int64} {li : Nat → Nat} {lm ls lq hs : Int64} {K d : Nat} (hst : E.1.stackTraces = false) (hK : 1 ≤ K) (hK4 : K ≤ 4) (hn : n = 2 ^ K) (hd : d < 16) (kk : V E G 0 0 61 [(2, .int (nI (bnd K n d n)))] [] (WM E ad th n t dr ms pe pw len cod mm fs fc fw sc li lm ls lq hs)) : ∀ j q : Nat, q ≤ n → j = n - q → V E G 0 0 4 [(0, .ref (ad 0)), (1, .int (nI d)), (2, .int (nI (bnd K n d q))), (3, .int (nI q))] [] (WM E ad th n t dr ms pe pw len cod mm fs fc fw sc li lm ls lq hs) := by
  obtain ⟨g1, g2⟩ := two_le hn hK hK4
  intro j
  induction j using Nat.strongRecOn with
  | _ j ih =>
    intro q hq hj
    have hb : bnd K n d q ≤ d := bmx_le q (fun c hc => adf_le (tof_le K d c) (sof_le g1 (by omega)))
    refine v_iload_n O dX5_bendOf_4 rfl ?_
    refine v_aload_n O dX5_bendOf_5 rfl ?_
    refine v_get O dX5_bendOf_6 flX5_7 0 rfl rfl ?_
    refine v_icmpN_ge (tgt := 61) O dX5_bendOf_9 (by decide) (by omega) (by omega) (fun h => ?_) (fun h => ?_)
    · have e : q = n := by omega
      subst e
      refine v_ord [2] ?_
      exact kk
    · have ht := tof_le K d q
      have hsf := sof_le (d := d) g1 h
      have hx : adf (tof K d q) (sof n d q) ≤ d := adf_le ht hsf
      have key : V E G 0 0 40 [(0, .ref (ad 0)), (1, .int (nI d)), (2, .int (nI (bnd K n d q))), (3, .int (nI q))] [.int (nI (adf (tof K d q) (sof n d q)))] (WM E ad th n t dr ms pe pw len cod mm fs fc fw sc li lm ls lq hs) := by
        have key2 : V E G 0 0 54 [(0, .ref (ad 0)), (1, .int (nI d)), (2, .int (nI (bnd K n d q))), (3, .int (nI q))] [.int (nI (bnd K n d (q + 1)))] (WM E ad th n t dr ms pe pw len cod mm fs fc fw sc li lm ls lq hs) := by
          refine v_istore_n O dX5_bendOf_54 (by rw [hN]; decide) ?_
          refine v_iincN (b := 1) O dX5_bendOf_55 rfl (by decide) (by rw [hN]; decide) ?_
          refine v_goto (tgt := 4) O dX5_bendOf_58 (by decide) ?_
          refine v_ord [0, 1, 2, 3] ?_
          exact ih (j - 1) (by omega) (q + 1) (by omega) (by omega)
        refine v_istore O dX5_bendOf_40 (by rw [hN]; decide) ?_
        refine v_iload O dX5_bendOf_42 rfl ?_
        refine v_iload_n O dX5_bendOf_44 rfl ?_
        refine v_icmpN_le (tgt := 53) O dX5_bendOf_45 (by decide) (by omega) (by omega) (fun h2 => ?_) (fun h2 => ?_)
        · refine v_iload_n O dX5_bendOf_53 rfl ?_
          refine v_ord [0, 1, 2, 3] ?_
          refine v_st ?_ key2
          rw [show bnd K n d (q + 1) = max (bnd K n d q) (adf (tof K d q) (sof n d q)) from rfl, Nat.max_eq_left h2]
        · refine v_iload O dX5_bendOf_48 rfl ?_
          refine v_goto (tgt := 54) O dX5_bendOf_50 (by decide) ?_
          refine v_ord [0, 1, 2, 3] ?_
          refine v_st ?_ key2
          rw [show bnd K n d (q + 1) = max (bnd K n d q) (adf (tof K d q) (sof n d q)) from rfl, Nat.max_eq_right (by omega)]
      refine v_aload_n O dX5_bendOf_12 rfl ?_
      refine v_iload_n O dX5_bendOf_13 rfl ?_
      refine v_iload_n O dX5_bendOf_14 rfl ?_
      refine v_V1 O dX5_bendOf_15 lkX5_83 (c_treeOffsetM hst hK4 hn d q hd (by omega)) 0 rfl rfl rfl rfl rfl (by first | exact hkc | exact Nat.zero_le _) (by first | exact hks | exact Nat.zero_le _) ?_
      refine v_aload_n O dX5_bendOf_18 rfl ?_
      refine v_iload_n O dX5_bendOf_19 rfl ?_
      refine v_iload_n O dX5_bendOf_20 rfl ?_
      refine v_V1 O dX5_bendOf_21 lkX5_79 (c_straightOffsetM hst g1 g2 d q hd (by omega)) 0 rfl rfl rfl rfl rfl (by first | exact hkc | exact Nat.zero_le _) (by first | exact hks | exact Nat.zero_le _) ?_
      refine v_isub O dX5_bendOf_24 ?_
      refine v_istore O dX5_bendOf_25 (by rw [hN]; decide) ?_
      refine v_iload O dX5_bendOf_27 rfl ?_
      refine v_if_ge (tgt := 38) O dX5_bendOf_29 (by decide) (fun h3 => ?_) (fun h3 => ?_)
      · refine v_iload O dX5_bendOf_38 rfl ?_
        refine v_ord [0, 1, 2, 3] ?_
        refine v_st ?_ key
        have h4 := (sub_ge (by omega) (by omega)).mp h3
        unfold adf
        rw [if_pos h4, pk_sub h4]
      · refine v_iload O dX5_bendOf_32 rfl ?_
        refine v_ineg O dX5_bendOf_34 ?_
        refine v_goto (tgt := 40) O dX5_bendOf_35 (by decide) ?_
        refine v_ord [0, 1, 2, 3] ?_
        refine v_st ?_ key
        have h4 : ¬ sof n d q ≤ tof K d q := fun z => h3 ((sub_ge (by omega) (by omega)).mpr z)
        unfold adf
        rw [if_neg h4, neg_sb (by omega) (by omega) (by omega)]
theorem c_bendOf {E : ET} {ad : Nat → Nat} {th n t dr ms : Nat} {pe pw : Nat → Nat} {len : Nat} {cod : Nat → Nat} {mm : Nat} {fs fc fw : Nat → Nat} {sc : Nat → Int64} {li : Nat → Nat} {lm ls lq hs : Int64} {K d : Nat} (hst : E.1.stackTraces = false) (hK : 1 ≤ K) (hK4 : K ≤ 4) (hn : n = 2 ^ K) (hd : d < 16) : Ctr E yX5_bendOf cdX5_bendOf (rmL 2) [.ref (ad 0), .int (nI d)] (WM E ad th n t dr ms pe pw len cod mm fs fc fw sc li lm ls lq hs) (pR (some (.int (nI (bnd K n d n)))) (WM E ad th n t dr ms pe pw len cod mm fs fc fw sc li lm ls lq hs)) noX 0 0 := by
  refine ctr_of hst (by decide) (Nat.le_of_ble_eq_true rfl) (fun G O OR hN => ?_)
  have O : OKG E G cX5_bendOf RX5 (rmL 2) [] := O
  have hN : nLG G = 5 := hN
  refine v_iconst (v := nI 0) O dX5_bendOf_0 (by decide) ?_
  refine v_istore_n O dX5_bendOf_1 (by rw [hN]; decide) ?_
  refine v_iconst (v := nI 0) O dX5_bendOf_2 (by decide) ?_
  refine v_istore_n O dX5_bendOf_3 (by rw [hN]; decide) ?_
  refine v_ord [0, 1, 2, 3] ?_
  refine lp_bendOf O hN hst hK hK4 hn hd ?_ n 0 (by omega) (by omega)
  refine v_iload_n O dX5_bendOf_61 rfl ?_
  exact v_ireturn O OR dX5_bendOf_62 (⟨rfl, rfl⟩) (Nat.le_of_ble_eq_true rfl) (Nat.le_of_ble_eq_true rfl)
-- masks
def mb (ms c : Nat) : Bool := decide (ms / 2 ^ c % 2 = 1)
theorem c_isMasked {E : ET} {ad : Nat → Nat} {th n t dr ms : Nat} {pe pw : Nat → Nat} {len : Nat} {cod : Nat → Nat} {mm : Nat} {fs fc fw : Nat → Nat} {sc : Nat → Int64} {li : Nat → Nat} {lm ls lq hs : Int64} (hst : E.1.stackTraces = false) (hm : ms < 65536) (c : Nat) (hc : c < 16) : Ctr E yX5_isMasked cdX5_isMasked (rmL 1) [.ref (ad 0), .int (nI c)] (WM E ad th n t dr ms pe pw len cod mm fs fc fw sc li lm ls lq hs) (pR (some (.int (bI (mb ms c)))) (WM E ad th n t dr ms pe pw len cod mm fs fc fw sc li lm ls lq hs)) noX 0 0 := by
  refine ctr_of hst (by decide) (Nat.le_of_ble_eq_true rfl) (fun G O OR hN => ?_)
  have O : OKG E G cX5_isMasked RX5 (rmL 1) [] := O
  have hN : nLG G = 2 := hN
  refine v_aload_n O dX5_isMasked_0 rfl ?_
  refine v_get O dX5_isMasked_1 flX5_52 0 rfl rfl ?_
  refine v_iload_n O dX5_isMasked_4 rfl ?_
  refine v_ishrN O dX5_isMasked_5 (by omega) (by omega) ?_
  refine v_iconst (v := nI 1) O dX5_isMasked_6 (by decide) ?_
  refine v_iandN O dX5_isMasked_7 ?_
  refine v_iconst (v := nI 1) O dX5_isMasked_8 (by decide) ?_
  rw [Nat.and_one_is_mod]
  refine v_icmpN_ne (tgt := 16) O dX5_isMasked_9 (by decide) (by omega) (by omega) (fun h => ?_) (fun h => ?_)
  · refine v_iconst (v := nI 0) O dX5_isMasked_16 (by decide) ?_
    exact v_zreturn O OR dX5_isMasked_17 (by decide) (⟨by unfold mb; rw [decide_eq_false h]; rfl, rfl⟩) (Nat.le_of_ble_eq_true rfl) (Nat.le_of_ble_eq_true rfl)
  · refine v_iconst (v := nI 1) O dX5_isMasked_12 (by decide) ?_
    refine v_goto (tgt := 17) O dX5_isMasked_13 (by decide) ?_
    exact v_zreturn O OR dX5_isMasked_17 (by decide) (⟨by unfold mb; rw [decide_eq_true h]; rfl, rfl⟩) (Nat.le_of_ble_eq_true rfl) (Nat.le_of_ble_eq_true rfl)
def ons (ms k : Nat) : Nat := sm (fun c => ms / 2 ^ c % 2) k
theorem lp_ones {E : ET} {G : GT} {R0 : Room} {tb : List ExceptionTableEntry} (O : OKG E G cX5_ones RX5 R0 tb) (hN : nLG G = 3) {w : va_W} {ms : Nat} (hm : ms < 65536) (kk : V E G 0 0 24 [(1, .int (nI (ons ms 16)))] [] w) : ∀ j q : Nat, q ≤ 16 → j = 16 - q → V E G 0 0 4 [(0, .int (nI ms)), (1, .int (nI (ons ms q))), (2, .int (nI q))] [] w := by
  intro j
  induction j using Nat.strongRecOn with
  | _ j ih =>
    intro q hq hj
    refine v_iload_n O dX5_ones_4 rfl ?_
    refine v_bipush (v := nI 16) O dX5_ones_5 (by decide) ?_
    refine v_icmpN_ge (tgt := 24) O dX5_ones_7 (by decide) (by omega) (by omega) (fun h => ?_) (fun h => ?_)
    · have e : q = 16 := by omega
      subst e
      refine v_ord [1] ?_
      exact kk
    · refine v_iload_n O dX5_ones_10 rfl ?_
      refine v_iload_n O dX5_ones_11 rfl ?_
      refine v_iload_n O dX5_ones_12 rfl ?_
      refine v_ishrN O dX5_ones_13 (by omega) (by omega) ?_
      refine v_iconst (v := nI 1) O dX5_ones_14 (by decide) ?_
      refine v_iandN O dX5_ones_15 ?_
      rw [Nat.and_one_is_mod]
      refine v_iaddN O dX5_ones_16 ?_
      refine v_istore_n O dX5_ones_17 (by rw [hN]; decide) ?_
      refine v_iincN (b := 1) O dX5_ones_18 rfl (by decide) (by rw [hN]; decide) ?_
      refine v_goto (tgt := 4) O dX5_ones_21 (by decide) ?_
      refine v_ord [0, 1, 2] ?_
      exact ih (j - 1) (by omega) (q + 1) (by omega) (by omega)
theorem c_ones {E : ET} {w : va_W} {ms : Nat} (hst : E.1.stackTraces = false) (hm : ms < 65536) : Ctr E yX5_ones cdX5_ones (rmL 1) [.int (nI ms)] w (pR (some (.int (nI (ons ms 16)))) w) noX 0 0 := by
  refine ctr_of hst (by decide) (Nat.le_of_ble_eq_true rfl) (fun G O OR hN => ?_)
  have O : OKG E G cX5_ones RX5 (rmL 1) [] := O
  have hN : nLG G = 3 := hN
  refine v_iconst (v := nI 0) O dX5_ones_0 (by decide) ?_
  refine v_istore_n O dX5_ones_1 (by rw [hN]; decide) ?_
  refine v_iconst (v := nI 0) O dX5_ones_2 (by decide) ?_
  refine v_istore_n O dX5_ones_3 (by rw [hN]; decide) ?_
  refine v_ord [0, 1, 2] ?_
  refine lp_ones O hN hm ?_ 16 0 (by omega) (by omega)
  refine v_iload_n O dX5_ones_24 rfl ?_
  exact v_ireturn O OR dX5_ones_25 (⟨rfl, rfl⟩) (Nat.le_of_ble_eq_true rfl) (Nat.le_of_ble_eq_true rfl)
def cnt5 (n t dr o mm a : Nat) : Nat := if a = 0 then n else if a = 1 then t else if a = 2 then dr else if a = 3 then o else mm
theorem c_countOf {E : ET} {ad : Nat → Nat} {th n t dr ms : Nat} {pe pw : Nat → Nat} {len : Nat} {cod : Nat → Nat} {mm : Nat} {fs fc fw : Nat → Nat} {sc : Nat → Int64} {li : Nat → Nat} {lm ls lq hs : Int64} (hst : E.1.stackTraces = false) (hm : ms < 65536) (a : Nat) (ha : a < 5) : Ctr E yX5_countOf cdX5_countOf (rmL 2) [.ref (ad 0), .int (nI a)] (WM E ad th n t dr ms pe pw len cod mm fs fc fw sc li lm ls lq hs) (pR (some (.int (nI (cnt5 n t dr (ons ms 16) mm a)))) (WM E ad th n t dr ms pe pw len cod mm fs fc fw sc li lm ls lq hs)) noX 0 0 := by
  unfold cnt5
  refine ctr_of hst (by decide) (Nat.le_of_ble_eq_true rfl) (fun G O OR hN => ?_)
  have O : OKG E G cX5_countOf RX5 (rmL 2) [] := O
  have hN : nLG G = 2 := hN
  refine v_iload_n O dX5_countOf_0 rfl ?_
  refine v_ifN_ne (tgt := 11) O dX5_countOf_1 (by decide) (by omega) (fun h => ?_) (fun h => ?_)
  · refine v_iload_n O dX5_countOf_11 rfl ?_
    refine v_iconst (v := nI 1) O dX5_countOf_12 (by decide) ?_
    refine v_icmpN_ne (tgt := 23) O dX5_countOf_13 (by decide) (by omega) (by omega) (fun h1 => ?_) (fun h1 => ?_)
    · refine v_iload_n O dX5_countOf_23 rfl ?_
      refine v_iconst (v := nI 2) O dX5_countOf_24 (by decide) ?_
      refine v_icmpN_ne (tgt := 35) O dX5_countOf_25 (by decide) (by omega) (by omega) (fun h2 => ?_) (fun h2 => ?_)
      · refine v_iload_n O dX5_countOf_35 rfl ?_
        refine v_iconst (v := nI 3) O dX5_countOf_36 (by decide) ?_
        refine v_icmpN_ne (tgt := 50) O dX5_countOf_37 (by decide) (by omega) (by omega) (fun h3 => ?_) (fun h3 => ?_)
        · refine v_aload_n O dX5_countOf_50 rfl ?_
          refine v_get O dX5_countOf_51 flX5_55 0 rfl rfl ?_
          exact v_ireturn O OR dX5_countOf_54 (⟨by rw [if_neg (by omega), if_neg (by omega), if_neg (by omega), if_neg (by omega)], rfl⟩) (Nat.le_of_ble_eq_true rfl) (Nat.le_of_ble_eq_true rfl)
        · refine v_aload_n O dX5_countOf_40 rfl ?_
          refine v_get O dX5_countOf_41 flX5_52 0 rfl rfl ?_
          refine v_S1 O dX5_countOf_44 lkX5_99 (c_ones hst hm) rfl rfl rfl (by first | exact hkc | exact Nat.zero_le _) (by first | exact hks | exact Nat.zero_le _) ?_
          refine v_goto (tgt := 54) O dX5_countOf_47 (by decide) ?_
          exact v_ireturn O OR dX5_countOf_54 (⟨by rw [if_neg (by omega), if_neg (by omega), if_neg (by omega), if_pos (by omega)], rfl⟩) (Nat.le_of_ble_eq_true rfl) (Nat.le_of_ble_eq_true rfl)
      · refine v_aload_n O dX5_countOf_28 rfl ?_
        refine v_get O dX5_countOf_29 flX5_49 0 rfl rfl ?_
        refine v_goto (tgt := 54) O dX5_countOf_32 (by decide) ?_
        exact v_ireturn O OR dX5_countOf_54 (⟨by rw [if_neg (by omega), if_neg (by omega), if_pos (by omega)], rfl⟩) (Nat.le_of_ble_eq_true rfl) (Nat.le_of_ble_eq_true rfl)
    · refine v_aload_n O dX5_countOf_16 rfl ?_
      refine v_get O dX5_countOf_17 flX5_46 0 rfl rfl ?_
      refine v_goto (tgt := 54) O dX5_countOf_20 (by decide) ?_
      exact v_ireturn O OR dX5_countOf_54 (⟨by rw [if_neg (by omega), if_pos (by omega)], rfl⟩) (Nat.le_of_ble_eq_true rfl) (Nat.le_of_ble_eq_true rfl)
  · refine v_aload_n O dX5_countOf_4 rfl ?_
    refine v_get O dX5_countOf_5 flX5_7 0 rfl rfl ?_
    refine v_goto (tgt := 54) O dX5_countOf_8 (by decide) ?_
    exact v_ireturn O OR dX5_countOf_54 (⟨by rw [if_pos (by omega)], rfl⟩) (Nat.le_of_ble_eq_true rfl) (Nat.le_of_ble_eq_true rfl)
theorem lp_sumOf {E : ET} {G : GT} {R0 : Room} {tb : List ExceptionTableEntry} (O : OKG E G cX5_sumOf RX5 R0 tb) (hN : nLG G = 4) {ad : Nat → Nat} {th n t dr ms : Nat} {pe pw : Nat → Nat} {len : Nat} {cod : Nat → Nat} {mm : Nat} {fs fc fw : Nat → Nat} {sc : Nat → Int64} {li : Nat → Nat} {lm ls lq hs : Int64} {c : Nat} (hc : c < 16) (ht : t ≤ 48) (kk : V E G 0 0 32 [(2, .int (nI (chs pw c t)))] [] (WM E ad th n t dr ms pe pw len cod mm fs fc fw sc li lm ls lq hs)) : ∀ j q : Nat, q ≤ t → j = t - q → V E G 0 0 4 [(0, .ref (ad 0)), (1, .int (nI c)), (2, .int (nI (chs pw c q))), (3, .int (nI q))] [] (WM E ad th n t dr ms pe pw len cod mm fs fc fw sc li lm ls lq hs) := by
  intro j
  induction j using Nat.strongRecOn with
  | _ j ih =>
    intro q hq hj
    refine v_iload_n O dX5_sumOf_4 rfl ?_
    refine v_aload_n O dX5_sumOf_5 rfl ?_
    refine v_get O dX5_sumOf_6 flX5_46 0 rfl rfl ?_
    refine v_icmpN_ge (tgt := 32) O dX5_sumOf_9 (by decide) (by omega) (by omega) (fun h => ?_) (fun h => ?_)
    · have e : q = t := by omega
      subst e
      refine v_ord [2] ?_
      exact kk
    · refine v_iload_n O dX5_sumOf_12 rfl ?_
      refine v_aload_n O dX5_sumOf_13 rfl ?_
      refine v_get O dX5_sumOf_14 flX5_17 0 rfl rfl ?_
      refine v_bipush (v := nI 16) O dX5_sumOf_17 (by decide) ?_
      refine v_iload_n O dX5_sumOf_19 rfl ?_
      refine v_imulN O dX5_sumOf_20 ?_
      refine v_iload_n O dX5_sumOf_21 rfl ?_
      refine v_iaddN O dX5_sumOf_22 ?_
      refine v_iald O dX5_sumOf_23 2 rfl (by decide) (by omega) ?_
      rw [Nat.mul_comm 16 q]
      refine v_iaddN O dX5_sumOf_24 ?_
      refine v_istore_n O dX5_sumOf_25 (by rw [hN]; decide) ?_
      refine v_iincN (b := 1) O dX5_sumOf_26 rfl (by decide) (by rw [hN]; decide) ?_
      refine v_goto (tgt := 4) O dX5_sumOf_29 (by decide) ?_
      refine v_ord [0, 1, 2, 3] ?_
      exact ih (j - 1) (by omega) (q + 1) (by omega) (by omega)
theorem c_sumOf {E : ET} {ad : Nat → Nat} {th n t dr ms : Nat} {pe pw : Nat → Nat} {len : Nat} {cod : Nat → Nat} {mm : Nat} {fs fc fw : Nat → Nat} {sc : Nat → Int64} {li : Nat → Nat} {lm ls lq hs : Int64} {c : Nat} (hst : E.1.stackTraces = false) (hc : c < 16) (ht : t ≤ 48) : Ctr E yX5_sumOf cdX5_sumOf (rmL 1) [.ref (ad 0), .int (nI c)] (WM E ad th n t dr ms pe pw len cod mm fs fc fw sc li lm ls lq hs) (pR (some (.int (nI (chs pw c t)))) (WM E ad th n t dr ms pe pw len cod mm fs fc fw sc li lm ls lq hs)) noX 0 0 := by
  refine ctr_of hst (by decide) (Nat.le_of_ble_eq_true rfl) (fun G O OR hN => ?_)
  have O : OKG E G cX5_sumOf RX5 (rmL 1) [] := O
  have hN : nLG G = 4 := hN
  refine v_iconst (v := nI 0) O dX5_sumOf_0 (by decide) ?_
  refine v_istore_n O dX5_sumOf_1 (by rw [hN]; decide) ?_
  refine v_iconst (v := nI 0) O dX5_sumOf_2 (by decide) ?_
  refine v_istore_n O dX5_sumOf_3 (by rw [hN]; decide) ?_
  refine v_ord [0, 1, 2, 3] ?_
  refine lp_sumOf O hN hc ht ?_ t 0 (by omega) (by omega)
  refine v_iload_n O dX5_sumOf_32 rfl ?_
  exact v_ireturn O OR dX5_sumOf_33 (⟨rfl, rfl⟩) (Nat.le_of_ble_eq_true rfl) (Nat.le_of_ble_eq_true rfl)
theorem c_linesOfM {E : ET} {ad : Nat → Nat} {th n t dr ms : Nat} {pe pw : Nat → Nat} {len : Nat} {cod : Nat → Nat} {mm : Nat} {fs fc fw : Nat → Nat} {sc : Nat → Int64} {li : Nat → Nat} {lm ls lq hs : Int64} (hst : E.1.stackTraces = false) (ht : t ≤ 48) (d : Nat) (hd : d < 16) : Ctr E yX5_linesOf cdX5_linesOf (rmL 1) [.ref (ad 0), .int (nI d)] (WM E ad th n t dr ms pe pw len cod mm fs fc fw sc li lm ls lq hs) (pR (some (.int (nI (t - d)))) (WM E ad th n t dr ms pe pw len cod mm fs fc fw sc li lm ls lq hs)) noX 0 0 := by
  refine ctr_of hst (by decide) (Nat.le_of_ble_eq_true rfl) (fun G O OR hN => ?_)
  have O : OKG E G cX5_linesOf RX5 (rmL 1) [] := O
  have hN : nLG G = 2 := hN
  refine v_aload_n O dX5_linesOf_0 rfl ?_
  refine v_get O dX5_linesOf_1 flX5_46 0 rfl rfl ?_
  refine v_iload_n O dX5_linesOf_4 rfl ?_
  refine v_icmpN_le (tgt := 17) O dX5_linesOf_5 (by decide) (by omega) (by omega) (fun h => ?_) (fun h => ?_)
  · refine v_iconst (v := nI 0) O dX5_linesOf_17 (by decide) ?_
    exact v_ireturn O OR dX5_linesOf_18 (⟨by rw [show t - d = 0 by omega], rfl⟩) (Nat.le_of_ble_eq_true rfl) (Nat.le_of_ble_eq_true rfl)
  · refine v_aload_n O dX5_linesOf_8 rfl ?_
    refine v_get O dX5_linesOf_9 flX5_46 0 rfl rfl ?_
    refine v_iload_n O dX5_linesOf_12 rfl ?_
    refine v_isubN O dX5_linesOf_13 (by omega) ?_
    refine v_goto (tgt := 18) O dX5_linesOf_14 (by decide) ?_
    exact v_ireturn O OR dX5_linesOf_18 (⟨rfl, rfl⟩) (Nat.le_of_ble_eq_true rfl) (Nat.le_of_ble_eq_true rfl)
