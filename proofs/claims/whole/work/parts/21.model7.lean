theorem mb_tb (ms c : Nat) : mb ms c = ms.testBit c := by
  unfold mb
  rw [Nat.testBit_eq_decide_div_mod_eq]
def clr (ms c : Nat) : Nat := ms &&& (2 ^ c ^^^ 4294967295)
theorem clr_I (ms c : Nat) : nI ms &&& (nI (2 ^ c) ^^^ (-1)) = nI (clr ms c) := by
  rw [show (-1 : Int32) = nI 4294967295 from by decide, fb_xorI, fa_and]
  rfl
theorem m_setMasked {E : ET} {ad : Nat → Nat} {th n t dr ms : Nat} {pe pw : Nat → Nat} {len : Nat} {cod : Nat → Nat} {mm : Nat} {fs fc fw : Nat → Nat} {sc : Nat → Int64} {li : Nat → Nat} {lm ls lq hs : Int64} (hst : E.1.stackTraces = false) (hn : n ≤ 16) (hm : ms < 65536) (c : Nat) (b : Bool) (hc : c < n) : Ctr E yX5_setMasked cdX5_setMasked (rmL 3) [.ref (ad 0), .int (nI c), .int (bI b)] (WM E ad th n t dr ms pe pw len cod mm fs fc fw sc li lm ls lq hs) (pR (some (.int (bI (mb ms c)))) (WM E ad (0) n t dr (if b = true then ms ||| 2 ^ c else clr ms c) pe pw len cod (0) fs fc fw sc li lm ls lq hs)) noX 0 0 := by
  refine ctr_of hst (by decide) (Nat.le_of_ble_eq_true rfl) (fun G O OR hN => ?_)
  have O : OKG E G cX5_setMasked RX5 (rmL 3) [] := O
  have hN : nLG G = 4 := hN
  refine v_aload_n O dX5_setMasked_0 rfl ?_
  refine v_aload_n O dX5_setMasked_1 rfl ?_
  refine v_iload_n O dX5_setMasked_2 rfl ?_
  refine v_V1 O dX5_setMasked_3 lkX5_61 (c_isChannel hst hn (nI c)) 0 rfl rfl rfl rfl rfl (by first | exact hkc | exact Nat.zero_le _) (by first | exact hks | exact Nat.zero_le _) ?_
  refine v_ifB_eq (tgt := 13) O dX5_setMasked_6 (by decide) (fun h => ?_) (fun h => ?_)
  · rw [inB_nI hc (by omega)] at h; cases h
  · refine v_iconst (v := nI 0) O dX5_setMasked_9 (by decide) ?_
    refine v_goto (tgt := 14) O dX5_setMasked_10 (by decide) ?_
    refine v_put (ty := .int) O dX5_setMasked_14 flX5_39 ftX5 0 rfl rfl (by decide +kernel) rfl rfl (Nat.le_of_ble_eq_true rfl) ?_
    refine v_aload_n O dX5_setMasked_17 rfl ?_
    refine v_get O dX5_setMasked_18 flX5_39 0 rfl rfl ?_
    refine v_ifN_le (tgt := 26) O dX5_setMasked_21 (by decide) (by omega) (fun h3 => ?_) (fun h3 => ?_)
    · refine v_aload_n O dX5_setMasked_26 rfl ?_
      refine v_iload_n O dX5_setMasked_27 rfl ?_
      refine v_w (w' := (WM E ad (0) n t dr ms pe pw len cod mm fs fc fw sc li lm ls lq hs)) rfl ?_
      refine v_V1 O dX5_setMasked_28 lkX5_105 (c_isMasked hst hm c (by omega)) 0 rfl rfl rfl rfl rfl (by first | exact hkc | exact Nat.zero_le _) (by first | exact hks | exact Nat.zero_le _) ?_
      refine v_istore_n O dX5_setMasked_31 (by rw [hN]; decide) ?_
      refine v_aload_n O dX5_setMasked_32 rfl ?_
      refine v_iload_n O dX5_setMasked_33 rfl ?_
      refine v_ifB_eq (tgt := 48) O dX5_setMasked_34 (by decide) (fun h4 => ?_) (fun h4 => ?_)
      · refine v_aload_n O dX5_setMasked_48 rfl ?_
        refine v_get O dX5_setMasked_49 flX5_52 0 rfl rfl ?_
        refine v_iconst (v := nI 1) O dX5_setMasked_52 (by decide) ?_
        refine v_iload_n O dX5_setMasked_53 rfl ?_
        refine v_ishl1 O dX5_setMasked_54 (by omega) ?_
        refine v_iconst (v := -1) O dX5_setMasked_55 (by decide) ?_
        refine v_ixor O dX5_setMasked_56 ?_
        refine v_iand O dX5_setMasked_57 ?_
        rw [clr_I]
        refine v_put (ty := .int) O dX5_setMasked_58 flX5_52 ftX5 0 rfl rfl (by decide +kernel) rfl rfl (Nat.le_of_ble_eq_true rfl) ?_
        refine v_aload_n O dX5_setMasked_61 rfl ?_
        refine v_iconst (v := nI 0) O dX5_setMasked_62 (by decide) ?_
        refine v_put (ty := .int) O dX5_setMasked_63 flX5_55 ftX5 0 rfl rfl (by decide +kernel) rfl rfl (Nat.le_of_ble_eq_true rfl) ?_
        refine v_iload_n O dX5_setMasked_66 rfl ?_
        exact v_zreturn O OR dX5_setMasked_67 (bI_nar _) (⟨rfl, by rw [h4]; rfl⟩) (Nat.le_of_ble_eq_true rfl) (Nat.le_of_ble_eq_true rfl)
      · refine v_aload_n O dX5_setMasked_37 rfl ?_
        refine v_get O dX5_setMasked_38 flX5_52 0 rfl rfl ?_
        refine v_iconst (v := nI 1) O dX5_setMasked_41 (by decide) ?_
        refine v_iload_n O dX5_setMasked_42 rfl ?_
        refine v_ishl1 O dX5_setMasked_43 (by omega) ?_
        refine v_iorN O dX5_setMasked_44 ?_
        refine v_goto (tgt := 58) O dX5_setMasked_45 (by decide) ?_
        refine v_put (ty := .int) O dX5_setMasked_58 flX5_52 ftX5 0 rfl rfl (by decide +kernel) rfl rfl (Nat.le_of_ble_eq_true rfl) ?_
        refine v_aload_n O dX5_setMasked_61 rfl ?_
        refine v_iconst (v := nI 0) O dX5_setMasked_62 (by decide) ?_
        refine v_put (ty := .int) O dX5_setMasked_63 flX5_55 ftX5 0 rfl rfl (by decide +kernel) rfl rfl (Nat.le_of_ble_eq_true rfl) ?_
        refine v_iload_n O dX5_setMasked_66 rfl ?_
        exact v_zreturn O OR dX5_setMasked_67 (bI_nar _) (⟨rfl, by rw [h4]; rfl⟩) (Nat.le_of_ble_eq_true rfl) (Nat.le_of_ble_eq_true rfl)
    · omega
theorem mx_setMasked {E : ET} {ad : Nat → Nat} {th n t dr ms : Nat} {pe pw : Nat → Nat} {len : Nat} {cod : Nat → Nat} {mm : Nat} {fs fc fw : Nat → Nat} {sc : Nat → Int64} {li : Nat → Nat} {lm ls lq hs : Int64} (hst : E.1.stackTraces = false) (hn : n ≤ 16) (x : Int32) (b : Bool) (hx : inB x n = false) : Ctr E yX5_setMasked cdX5_setMasked (rmL 3) [.ref (ad 0), .int x, .int (bI b)] (WM E ad th n t dr ms pe pw len cod mm fs fc fw sc li lm ls lq hs) (pR (some (.int (nI 0))) (WM E ad (1) n t dr ms pe pw len cod mm fs fc fw sc li lm ls lq hs)) noX 0 0 := by
  refine ctr_of hst (by decide) (Nat.le_of_ble_eq_true rfl) (fun G O OR hN => ?_)
  have O : OKG E G cX5_setMasked RX5 (rmL 3) [] := O
  have hN : nLG G = 4 := hN
  refine v_aload_n O dX5_setMasked_0 rfl ?_
  refine v_aload_n O dX5_setMasked_1 rfl ?_
  refine v_iload_n O dX5_setMasked_2 rfl ?_
  refine v_V1 O dX5_setMasked_3 lkX5_61 (c_isChannel hst hn x) 0 rfl rfl rfl rfl rfl (by first | exact hkc | exact Nat.zero_le _) (by first | exact hks | exact Nat.zero_le _) ?_
  refine v_ifB_eq (tgt := 13) O dX5_setMasked_6 (by decide) (fun h => ?_) (fun h => ?_)
  · refine v_iconst (v := nI 1) O dX5_setMasked_13 (by decide) ?_
    refine v_put (ty := .int) O dX5_setMasked_14 flX5_39 ftX5 0 rfl rfl (by decide +kernel) rfl rfl (Nat.le_of_ble_eq_true rfl) ?_
    refine v_aload_n O dX5_setMasked_17 rfl ?_
    refine v_get O dX5_setMasked_18 flX5_39 0 rfl rfl ?_
    refine v_ifN_le (tgt := 26) O dX5_setMasked_21 (by decide) (by omega) (fun h3 => ?_) (fun h3 => ?_)
    · omega
    · refine v_iconst (v := nI 0) O dX5_setMasked_24 (by decide) ?_
      exact v_zreturn O OR dX5_setMasked_25 (by decide) (⟨rfl, rfl⟩) (Nat.le_of_ble_eq_true rfl) (Nat.le_of_ble_eq_true rfl)
  · rw [hx] at h; cases h
-- strike
def bst (mk : Nat → Bool) (f : Nat → Nat) : Nat → Option Nat
  | 0 => none
  | c + 1 => if mk c = true then bst mk f c else match bst mk f c with
    | none => some c
    | some b => if f b < f c then some c else some b
def bsI (o : Option Nat) : Int32 := match o with
  | none => -1
  | some b => nI b
theorem bst_lt {mk : Nat → Bool} {f : Nat → Nat} : ∀ {c b : Nat}, bst mk f c = some b → b < c
  | 0, b, h => by cases h
  | c + 1, b, h => by
    unfold bst at h
    split at h
    · have := bst_lt h; omega
    · cases hb : bst mk f c with
      | none => rw [hb] at h; cases h; omega
      | some b2 =>
        rw [hb] at h
        have h2 := bst_lt hb
        dsimp only at h
        split at h
        · cases h; omega
        · cases h; omega
theorem bsI_n {b : Nat} (hb : b < 2 ^ 31) : ¬ nI b = -1 := by
  intro h
  have h3 : (nI b).toInt = (-1 : Int32).toInt := by rw [h]
  rw [nI_toInt hb, show (-1 : Int32).toInt = -1 from by decide] at h3
  omega
theorem lp_strikeIn {E : ET} {G : GT} (O : OKG E G cX5_strike RX5 (rmL 2) []) (hN : nLG G = 7) {ad : Nat → Nat} {th n t dr ms : Nat} {pe pw : Nat → Nat} {len : Nat} {cod : Nat → Nat} {mm : Nat} {fs fc fw : Nat → Nat} {sc : Nat → Int64} {li : Nat → Nat} {lm ls lq hs : Int64} {many k sk : Nat} (hst : E.1.stackTraces = false) (hn : n ≤ 16) (ht : t ≤ 48) (hp : ∀ j, pw j ≤ 9999) (hch : ∀ c, chs pw c t < 2 ^ 30) (hm : ms < 65536) (kk : V E G 0 0 111 [(0, .ref (ad 0)), (1, .int (nI many)), (2, .int (nI sk)), (3, .int (nI k)), (4, .int (bsI (bst (mb ms) (fun c => chs pw c t) n)))] [] (WM E ad th n t dr ms pe pw len cod mm fs fc fw sc li lm ls lq hs)) : ∀ j c : Nat, c ≤ n → j = n - c → V E G 0 0 45 [(0, .ref (ad 0)), (1, .int (nI many)), (2, .int (nI sk)), (3, .int (nI k)), (4, .int (bsI (bst (mb ms) (fun c => chs pw c t) c))), (5, .int (nI c))] [] (WM E ad th n t dr ms pe pw len cod mm fs fc fw sc li lm ls lq hs) := by
  intro j
  induction j using Nat.strongRecOn with
  | _ j ih =>
    intro c hc hj
    refine v_iload O dX5_strike_45 rfl ?_
    refine v_aload_n O dX5_strike_47 rfl ?_
    refine v_get O dX5_strike_48 flX5_7 0 rfl rfl ?_
    refine v_icmpN_ge (tgt := 111) O dX5_strike_51 (by decide) (by omega) (by omega) (fun h => ?_) (fun h => ?_)
    · have e : c = n := by omega
      subst e
      refine v_ord [0, 1, 2, 3, 4] ?_
      exact kk
    · have key : V E G 0 0 103 [(0, .ref (ad 0)), (1, .int (nI many)), (2, .int (nI sk)), (3, .int (nI k)), (4, .int (bsI (bst (mb ms) (fun c => chs pw c t) c))), (5, .int (nI c))] [.int (bsI (bst (mb ms) (fun c => chs pw c t) (c + 1)))] (WM E ad th n t dr ms pe pw len cod mm fs fc fw sc li lm ls lq hs) := by
        refine v_istore O dX5_strike_103 (by rw [hN]; decide) ?_
        refine v_iincN (b := 1) O dX5_strike_105 rfl (by decide) (by rw [hN]; decide) ?_
        refine v_goto (tgt := 45) O dX5_strike_108 (by decide) ?_
        refine v_ord [0, 1, 2, 3, 4, 5] ?_
        exact ih (j - 1) (by omega) (c + 1) (by omega) (by omega)
      have key88 : bst (mb ms) (fun c => chs pw c t) (c + 1) = bst (mb ms) (fun c => chs pw c t) c → V E G 0 0 88 [(0, .ref (ad 0)), (1, .int (nI many)), (2, .int (nI sk)), (3, .int (nI k)), (4, .int (bsI (bst (mb ms) (fun c => chs pw c t) c))), (5, .int (nI c))] [] (WM E ad th n t dr ms pe pw len cod mm fs fc fw sc li lm ls lq hs) := by
        intro hb
        refine v_iconst (v := bI false) O dX5_strike_88 (by decide) ?_
        refine v_istore O dX5_strike_89 (by rw [hN]; decide) ?_
        refine v_iload O dX5_strike_91 rfl ?_
        refine v_ifB_eq (tgt := 101) O dX5_strike_93 (by decide) (fun h2 => ?_) (fun h2 => ?_)
        · refine v_iload O dX5_strike_101 rfl ?_
          refine v_ord [0, 1, 2, 3, 4, 5] ?_
          refine v_st ?_ key
          rw [hb]
        · cases h2
      have key84 : bst (mb ms) (fun c => chs pw c t) (c + 1) = some c → V E G 0 0 84 [(0, .ref (ad 0)), (1, .int (nI many)), (2, .int (nI sk)), (3, .int (nI k)), (4, .int (bsI (bst (mb ms) (fun c => chs pw c t) c))), (5, .int (nI c))] [] (WM E ad th n t dr ms pe pw len cod mm fs fc fw sc li lm ls lq hs) := by
        intro hb
        refine v_iconst (v := bI true) O dX5_strike_84 (by decide) ?_
        refine v_goto (tgt := 89) O dX5_strike_85 (by decide) ?_
        refine v_istore O dX5_strike_89 (by rw [hN]; decide) ?_
        refine v_iload O dX5_strike_91 rfl ?_
        refine v_ifB_eq (tgt := 101) O dX5_strike_93 (by decide) (fun h2 => ?_) (fun h2 => ?_)
        · cases h2
        · refine v_iload O dX5_strike_96 rfl ?_
          refine v_goto (tgt := 103) O dX5_strike_98 (by decide) ?_
          refine v_ord [0, 1, 2, 3, 4, 5] ?_
          refine v_st ?_ key
          rw [hb]
          rfl
      refine v_aload_n O dX5_strike_54 rfl ?_
      refine v_iload O dX5_strike_55 rfl ?_
      refine v_V1 O dX5_strike_57 lkX5_105 (c_isMasked hst hm c (by omega)) 0 rfl rfl rfl rfl rfl (by first | exact hkc | exact Nat.zero_le _) (by first | exact hks | exact Nat.zero_le _) ?_
      refine v_ifB_ne (tgt := 88) O dX5_strike_60 (by decide) (fun h2 => ?_) (fun h2 => ?_)
      · exact key88 (by rw [bst, if_pos h2])
      · refine v_iload O dX5_strike_63 rfl ?_
        refine v_iconst (v := -1) O dX5_strike_65 (by decide) ?_
        have h2n : ¬ mb ms c = true := by rw [h2]; decide
        refine v_icmp_eq (tgt := 84) O dX5_strike_66 (by decide) (fun h3 => ?_) (fun h3 => ?_)
        · refine key84 ?_
          cases hb : bst (mb ms) (fun c => chs pw c t) c with
          | none => rw [bst, if_neg h2n, hb]
          | some b =>
            rw [hb] at h3
            exact absurd h3 (bsI_n (by have := bst_lt hb; omega))
        · cases hb : bst (mb ms) (fun c => chs pw c t) c with
          | none => rw [hb] at h3; exact absurd rfl h3
          | some b =>
            have hbl := bst_lt hb
            have hca := hch c
            have hcb := hch b
            rw [hb] at key84 key88
            refine v_aload_n O dX5_strike_69 rfl ?_
            refine v_iload O dX5_strike_70 rfl ?_
            refine v_V1 O dX5_strike_72 lkX5_108 (c_sumOf hst (c := c) (by omega) ht) 0 rfl rfl rfl rfl rfl (by first | exact hkc | exact Nat.zero_le _) (by first | exact hks | exact Nat.zero_le _) ?_
            refine v_aload_n O dX5_strike_75 rfl ?_
            refine v_iload O dX5_strike_76 rfl ?_
            refine v_V1 O dX5_strike_78 lkX5_108 (c_sumOf hst (c := b) (by omega) ht) 0 rfl rfl rfl rfl rfl (by first | exact hkc | exact Nat.zero_le _) (by first | exact hks | exact Nat.zero_le _) ?_
            refine v_icmpN_le (tgt := 88) O dX5_strike_81 (by decide) (by omega) (by omega) (fun h4 => ?_) (fun h4 => ?_)
            · refine key88 ?_
              rw [bst, if_neg h2n, hb]
              show (if chs pw b t < chs pw c t then some c else some b) = some b
              rw [if_neg (by omega)]
            · refine key84 ?_
              rw [bst, if_neg h2n, hb]
              show (if chs pw b t < chs pw c t then some c else some b) = some c
              rw [if_pos (by omega)]
def bpw (o : Option Nat) : Nat := match o with
  | none => 0
  | some b => 2 ^ b
/-- masks and struck channels behind k turns -/
def stM (f : Nat → Nat) (n ms : Nat) : Nat → Nat × Nat
  | 0 => (ms, 0)
  | k + 1 => ((stM f n ms k).1 ||| ((stM f n ms k).2 ||| bpw (bst (mb (stM f n ms k).1) f n)), (stM f n ms k).2 ||| bpw (bst (mb (stM f n ms k).1) f n))
theorem bpw_lt {mk : Nat → Bool} {f : Nat → Nat} {n : Nat} (hn : n ≤ 16) : bpw (bst mk f n) < 65536 := by
  cases hb : bst mk f n with
  | none => decide
  | some b =>
    have h := bst_lt hb
    exact Nat.pow_lt_pow_right (a := 2) (m := b) (n := 16) (by decide) (by omega)
theorem stM_lt {f : Nat → Nat} {n ms : Nat} (hn : n ≤ 16) (hm : ms < 65536) : ∀ k, (stM f n ms k).1 < 65536 ∧ (stM f n ms k).2 < 65536
  | 0 => ⟨hm, by show 0 < 65536; decide⟩
  | k + 1 => by
    have h := stM_lt (f := f) hn hm k
    have h2 : (stM f n ms k).2 ||| bpw (bst (mb (stM f n ms k).1) f n) < 65536 := Nat.or_lt_two_pow (n := 16) h.2 (bpw_lt hn)
    exact ⟨Nat.or_lt_two_pow (n := 16) h.1 h2, h2⟩
theorem lp_strikeOut {E : ET} {G : GT} (O : OKG E G cX5_strike RX5 (rmL 2) []) (hN : nLG G = 7) {ad : Nat → Nat} {th n t dr ms : Nat} {pe pw : Nat → Nat} {len : Nat} {cod : Nat → Nat} {mm : Nat} {fs fc fw : Nat → Nat} {sc : Nat → Int64} {li : Nat → Nat} {lm ls lq hs : Int64} {many : Nat} (hst : E.1.stackTraces = false) (hn : n ≤ 16) (hmany : many ≤ 16) (ht : t ≤ 48) (hp : ∀ j, pw j ≤ 9999) (hch : ∀ c, chs pw c t < 2 ^ 30) (hm : ms < 65536) (kk : V E G 0 0 144 [(0, .ref (ad 0)), (2, .int (nI (stM (fun c => chs pw c t) n ms many).2))] [] (WM E ad th n t dr ((stM (fun c => chs pw c t) n ms many).1) pe pw len cod mm fs fc fw sc li lm ls lq hs)) : ∀ j k : Nat, k ≤ many → j = many - k → V E G 0 0 34 [(0, .ref (ad 0)), (1, .int (nI many)), (2, .int (nI (stM (fun c => chs pw c t) n ms k).2)), (3, .int (nI k))] [] (WM E ad th n t dr ((stM (fun c => chs pw c t) n ms k).1) pe pw len cod mm fs fc fw sc li lm ls lq hs) := by
  intro j
  induction j using Nat.strongRecOn with
  | _ j ih =>
    intro k hk hj
    obtain ⟨b1, b2⟩ := stM_lt (f := fun c => chs pw c t) hn hm k
    refine v_iload_n O dX5_strike_34 rfl ?_
    refine v_iload_n O dX5_strike_35 rfl ?_
    refine v_icmpN_ge (tgt := 144) O dX5_strike_36 (by decide) (by omega) (by omega) (fun h => ?_) (fun h => ?_)
    · have e : k = many := by omega
      subst e
      refine v_ord [0, 2] ?_
      exact kk
    · refine v_iconst (v := -1) O dX5_strike_39 (by decide) ?_
      refine v_istore O dX5_strike_40 (by rw [hN]; decide) ?_
      refine v_iconst (v := nI 0) O dX5_strike_42 (by decide) ?_
      refine v_istore O dX5_strike_43 (by rw [hN]; decide) ?_
      refine v_ord [0, 1, 2, 3, 4, 5] ?_
      refine lp_strikeIn O hN hst hn ht hp hch b1 ?_ n 0 (by omega) (by omega)
      have key : V E G 0 0 126 [(0, .ref (ad 0)), (1, .int (nI many)), (2, .int (nI (stM (fun c => chs pw c t) n ms k).2)), (3, .int (nI k))] [.int (nI (bpw (bst (mb (stM (fun c => chs pw c t) n ms k).1) (fun c => chs pw c t) n))), .int (nI (stM (fun c => chs pw c t) n ms k).2)] (WM E ad th n t dr ((stM (fun c => chs pw c t) n ms k).1) pe pw len cod mm fs fc fw sc li lm ls lq hs) := by
        refine v_iorN O dX5_strike_126 ?_
        refine v_istore_n O dX5_strike_127 (by rw [hN]; decide) ?_
        refine v_aload_n O dX5_strike_128 rfl ?_
        refine v_dup O dX5_strike_129 rfl ?_
        refine v_get O dX5_strike_130 flX5_52 0 rfl rfl ?_
        refine v_iload_n O dX5_strike_133 rfl ?_
        refine v_iorN O dX5_strike_134 ?_
        refine v_put (ty := .int) O dX5_strike_135 flX5_52 ftX5 0 rfl rfl (by decide +kernel) rfl rfl (Nat.le_of_ble_eq_true rfl) ?_
        refine v_iincN (b := 1) O dX5_strike_138 rfl (by decide) (by rw [hN]; decide) ?_
        refine v_goto (tgt := 34) O dX5_strike_141 (by decide) ?_
        refine v_ord [0, 1, 2, 3] ?_
        exact ih (j - 1) (by omega) (k + 1) (by omega) (by omega)
      refine v_iload_n O dX5_strike_111 rfl ?_
      refine v_iload O dX5_strike_112 rfl ?_
      refine v_iconst (v := -1) O dX5_strike_114 (by decide) ?_
      cases hb : bst (mb (stM (fun c => chs pw c t) n ms k).1) (fun c => chs pw c t) n with
      | none =>
        rw [hb] at key
        refine v_icmp_ne (tgt := 122) O dX5_strike_115 (by decide) (fun h2 => ?_) (fun h2 => ?_)
        · exact absurd rfl h2
        · refine v_iconst (v := nI 0) O dX5_strike_118 (by decide) ?_
          refine v_goto (tgt := 126) O dX5_strike_119 (by decide) ?_
          refine v_ord [0, 1, 2, 3] ?_
          exact key
      | some b =>
        have hbl := bst_lt hb
        rw [hb] at key
        refine v_icmp_ne (tgt := 122) O dX5_strike_115 (by decide) (fun h2 => ?_) (fun h2 => ?_)
        · refine v_iconst (v := nI 1) O dX5_strike_122 (by decide) ?_
          refine v_iload O dX5_strike_123 rfl ?_
          refine v_ishl1 O dX5_strike_125 (by omega) ?_
          refine v_ord [0, 1, 2, 3] ?_
          exact key
        · exact absurd h2 (bsI_n (by omega))
theorem m_strike {E : ET} {ad : Nat → Nat} {th n t dr ms : Nat} {pe pw : Nat → Nat} {len : Nat} {cod : Nat → Nat} {mm : Nat} {fs fc fw : Nat → Nat} {sc : Nat → Int64} {li : Nat → Nat} {lm ls lq hs : Int64} (hst : E.1.stackTraces = false) (hn : n ≤ 16) (ht : t ≤ 48) (hp : ∀ j, pw j ≤ 9999) (hch : ∀ c, chs pw c t < 2 ^ 30) (hm : ms < 65536) (many : Nat) (hmany : many ≤ n) : Ctr E yX5_strike cdX5_strike (rmL 2) [.ref (ad 0), .int (nI many)] (WM E ad th n t dr ms pe pw len cod mm fs fc fw sc li lm ls lq hs) (pR (some (.int (nI (stM (fun c => chs pw c t) n ms many).2))) (WM E ad (0) n t dr ((stM (fun c => chs pw c t) n ms many).1) pe pw len cod (0) fs fc fw sc li lm ls lq hs)) noX 0 0 := by
  refine ctr_of hst (by decide) (Nat.le_of_ble_eq_true rfl) (fun G O OR hN => ?_)
  have O : OKG E G cX5_strike RX5 (rmL 2) [] := O
  have hN : nLG G = 7 := hN
  refine v_aload_n O dX5_strike_0 rfl ?_
  refine v_iload_n O dX5_strike_1 rfl ?_
  refine v_iconst (v := nI 0) O dX5_strike_2 (by decide) ?_
  refine v_aload_n O dX5_strike_3 rfl ?_
  refine v_get O dX5_strike_4 flX5_7 0 rfl rfl ?_
  refine v_S1 O dX5_strike_7 lkX5_42 (c_withinN hst many 0 n (by omega) (by decide) (by omega)) rfl rfl rfl (by first | exact hkc | exact Nat.zero_le _) (by first | exact hks | exact Nat.zero_le _) ?_
  refine v_ifB_eq (tgt := 17) O dX5_strike_10 (by decide) (fun h => ?_) (fun h => ?_)
  · exact absurd h (by simp; omega)
  · refine v_iconst (v := nI 0) O dX5_strike_13 (by decide) ?_
    refine v_goto (tgt := 18) O dX5_strike_14 (by decide) ?_
    refine v_put (ty := .int) O dX5_strike_18 flX5_39 ftX5 0 rfl rfl (by decide +kernel) rfl rfl (Nat.le_of_ble_eq_true rfl) ?_
    refine v_aload_n O dX5_strike_21 rfl ?_
    refine v_get O dX5_strike_22 flX5_39 0 rfl rfl ?_
    refine v_ifN_le (tgt := 30) O dX5_strike_25 (by decide) (by omega) (fun h3 => ?_) (fun h3 => ?_)
    · refine v_iconst (v := nI 0) O dX5_strike_30 (by decide) ?_
      refine v_istore_n O dX5_strike_31 (by rw [hN]; decide) ?_
      refine v_iconst (v := nI 0) O dX5_strike_32 (by decide) ?_
      refine v_istore_n O dX5_strike_33 (by rw [hN]; decide) ?_
      refine v_ord [0, 1, 2, 3] ?_
      refine v_w (w' := (WM E ad (0) n t dr ((stM (fun c => chs pw c t) n ms 0).1) pe pw len cod mm fs fc fw sc li lm ls lq hs)) rfl ?_
      refine lp_strikeOut O hN hst hn (by omega) ht hp hch hm ?_ many 0 (by omega) (by omega)
      refine v_aload_n O dX5_strike_144 rfl ?_
      refine v_iconst (v := nI 0) O dX5_strike_145 (by decide) ?_
      refine v_put (ty := .int) O dX5_strike_146 flX5_55 ftX5 0 rfl rfl (by decide +kernel) rfl rfl (Nat.le_of_ble_eq_true rfl) ?_
      refine v_iload_n O dX5_strike_149 rfl ?_
      exact v_ireturn O OR dX5_strike_150 (⟨rfl, rfl⟩) (Nat.le_of_ble_eq_true rfl) (Nat.le_of_ble_eq_true rfl)
    · omega
theorem mx_strike {E : ET} {ad : Nat → Nat} {th n t dr ms : Nat} {pe pw : Nat → Nat} {len : Nat} {cod : Nat → Nat} {mm : Nat} {fs fc fw : Nat → Nat} {sc : Nat → Int64} {li : Nat → Nat} {lm ls lq hs : Int64} (hst : E.1.stackTraces = false) (x : Int32) (hx : ¬ (nI 0 ≤ x ∧ x ≤ nI n)) : Ctr E yX5_strike cdX5_strike (rmL 2) [.ref (ad 0), .int x] (WM E ad th n t dr ms pe pw len cod mm fs fc fw sc li lm ls lq hs) (pR (some (.int (nI 0))) (WM E ad (1) n t dr ms pe pw len cod mm fs fc fw sc li lm ls lq hs)) noX 0 0 := by
  refine ctr_of hst (by decide) (Nat.le_of_ble_eq_true rfl) (fun G O OR hN => ?_)
  have O : OKG E G cX5_strike RX5 (rmL 2) [] := O
  have hN : nLG G = 7 := hN
  refine v_aload_n O dX5_strike_0 rfl ?_
  refine v_iload_n O dX5_strike_1 rfl ?_
  refine v_iconst (v := nI 0) O dX5_strike_2 (by decide) ?_
  refine v_aload_n O dX5_strike_3 rfl ?_
  refine v_get O dX5_strike_4 flX5_7 0 rfl rfl ?_
  refine v_S1 O dX5_strike_7 lkX5_42 (c_within hst x (nI 0) (nI n)) rfl rfl rfl (by first | exact hkc | exact Nat.zero_le _) (by first | exact hks | exact Nat.zero_le _) ?_
  refine v_ifB_eq (tgt := 17) O dX5_strike_10 (by decide) (fun h => ?_) (fun h => ?_)
  · refine v_iconst (v := nI 1) O dX5_strike_17 (by decide) ?_
    refine v_put (ty := .int) O dX5_strike_18 flX5_39 ftX5 0 rfl rfl (by decide +kernel) rfl rfl (Nat.le_of_ble_eq_true rfl) ?_
    refine v_aload_n O dX5_strike_21 rfl ?_
    refine v_get O dX5_strike_22 flX5_39 0 rfl rfl ?_
    refine v_ifN_le (tgt := 30) O dX5_strike_25 (by decide) (by omega) (fun h3 => ?_) (fun h3 => ?_)
    · omega
    · refine v_iconst (v := nI 0) O dX5_strike_28 (by decide) ?_
      exact v_ireturn O OR dX5_strike_29 (⟨rfl, rfl⟩) (Nat.le_of_ble_eq_true rfl) (Nat.le_of_ble_eq_true rfl)
  · exact absurd (of_decide_eq_true h) hx
