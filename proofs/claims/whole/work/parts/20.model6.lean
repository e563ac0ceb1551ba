-- load
def ldT (t : Nat) : Nat → Nat
  | 0 => t
  | k + 1 => bgT (ldT t k)
def ldD (t dr : Nat) : Nat → Nat
  | 0 => dr
  | k + 1 => bgD (ldT t k) (ldD t dr k)
def ldP (t : Nat) (pw cod : Nat → Nat) (n : Nat) : Nat → (Nat → Nat)
  | 0 => pw
  | k + 1 => lay (bgP (ldT t k) (ldP t pw cod n k)) (fun c => pv (cod (n * k + c))) ((bgT (ldT t k) - 1) * 16) n
theorem ldT_le {t : Nat} (ht : t ≤ 48) : ∀ k, ldT t k ≤ 48
  | 0 => ht
  | k + 1 => (bgT_le (ldT_le ht k)).2
theorem lp_loadIn {E : ET} {G : GT} (O : OKG E G cX5_load RX5 (rmL 4) []) (hN : nLG G = 4) {ad : Nat → Nat} {th n t dr ms : Nat} {pe pw : Nat → Nat} {len : Nat} {cod : Nat → Nat} {mm : Nat} {fs fc fw : Nat → Nat} {sc : Nat → Int64} {li : Nat → Nat} {lm ls lq hs : Int64} {many k n0 : Nat} (hst : E.1.stackTraces = false) (hn0 : n0 = n) (hn : n ≤ 16) (h1 : 1 ≤ t) (ht : t ≤ 48) (hl : len ≤ 64) (hk : n * k + n ≤ len) (hcod : ∀ j, j < len → cod j < 128 ∧ isP (cod j) = true) (kk : V E G 0 0 117 [(0, .ref (ad 0)), (1, .int (nI many)), (2, .int (nI k))] [] (WM E ad th n t dr ms pe (lay pw (fun c => pv (cod (n * k + c))) ((t - 1) * 16) n0) len cod mm fs fc fw sc li lm ls lq hs)) : ∀ j c : Nat, c ≤ n → j = n - c → V E G 0 0 71 [(0, .ref (ad 0)), (1, .int (nI many)), (2, .int (nI k)), (3, .int (nI c))] [] (WM E ad th n t dr ms pe (lay pw (fun c => pv (cod (n * k + c))) ((t - 1) * 16) c) len cod mm fs fc fw sc li lm ls lq hs) := by
  intro j
  induction j using Nat.strongRecOn with
  | _ j ih =>
    intro c hc hj
    refine v_iload_n O dX5_load_71 rfl ?_
    refine v_aload_n O dX5_load_72 rfl ?_
    refine v_get O dX5_load_73 flX5_7 0 rfl rfl ?_
    refine v_icmpN_ge (tgt := 117) O dX5_load_76 (by decide) (by omega) (by omega) (fun h => ?_) (fun h => ?_)
    · have e : c = n0 := by omega
      subst e
      refine v_ord [0, 1, 2] ?_
      exact kk
    · obtain ⟨hc1, hc2⟩ := hcod (n * k + c) (by omega)
      refine v_aload_n O dX5_load_79 rfl ?_
      refine v_get O dX5_load_80 flX5_17 0 rfl rfl ?_
      refine v_bipush (v := nI 16) O dX5_load_83 (by decide) ?_
      refine v_aload_n O dX5_load_85 rfl ?_
      refine v_get O dX5_load_86 flX5_46 0 rfl rfl ?_
      refine v_iconst (v := nI 1) O dX5_load_89 (by decide) ?_
      refine v_isubN O dX5_load_90 (by omega) ?_
      refine v_imulN O dX5_load_91 ?_
      refine v_iload_n O dX5_load_92 rfl ?_
      refine v_iaddN O dX5_load_93 ?_
      refine v_aload_n O dX5_load_94 rfl ?_
      refine v_get O dX5_load_95 flX5_20 0 rfl rfl ?_
      refine v_aload_n O dX5_load_98 rfl ?_
      refine v_get O dX5_load_99 flX5_7 0 rfl rfl ?_
      refine v_iload_n O dX5_load_102 rfl ?_
      refine v_imulN O dX5_load_103 ?_
      refine v_iload_n O dX5_load_104 rfl ?_
      refine v_iaddN O dX5_load_105 ?_
      refine v_iald O dX5_load_106 3 rfl (by decide) (by omega) ?_
      refine v_S1 O dX5_load_107 lkX5_71 (c_powerOfM hst (cod (n * k + c)) hc1) rfl rfl rfl (by first | exact hkc | exact Nat.zero_le _) (by first | exact hks | exact Nat.zero_le _) ?_
      rw [show pvI (cod (n * k + c)) = nI (pv (cod (n * k + c))) from if_pos hc2]
      refine v_iastN O dX5_load_110 2 rfl (by decide) (by omega) ?_
      refine v_iincN (b := 1) O dX5_load_111 rfl (by decide) (by rw [hN]; decide) ?_
      refine v_goto (tgt := 71) O dX5_load_114 (by decide) ?_
      refine v_ord [0, 1, 2, 3] ?_
      refine v_w (w' := (WM E ad th n t dr ms pe (lay pw (fun c => pv (cod (n * k + c))) ((t - 1) * 16) (c + 1)) len cod mm fs fc fw sc li lm ls lq hs)) (by rw [← lay_s, Nat.mul_comm (t - 1) 16]; rfl) ?_
      exact ih (j - 1) (by omega) (c + 1) (by omega) (by omega)
theorem lp_loadOut {E : ET} {G : GT} (O : OKG E G cX5_load RX5 (rmL 4) []) (hN : nLG G = 4) {ad : Nat → Nat} {th n t dr ms : Nat} {pe pw : Nat → Nat} {len : Nat} {cod : Nat → Nat} {mm : Nat} {fs fc fw : Nat → Nat} {sc : Nat → Int64} {li : Nat → Nat} {lm ls lq hs : Int64} {many : Nat} (hst : E.1.stackTraces = false) (hn : n ≤ 16) (ht : t ≤ 48) (hl : len ≤ 64) (hk : n * many = len) (hm : 1 ≤ many) (hm2 : many ≤ 64) (hcod : ∀ j, j < len → cod j < 128 ∧ isP (cod j) = true) (kk : V E G 0 0 123 [(0, .ref (ad 0)), (1, .int (nI many))] [] (WM E ad th n (ldT t many) (ldD t dr many) ms pe (ldP t pw cod n many) len cod (0) fs fc fw sc li lm ls lq hs)) : ∀ j k mm0 : Nat, k ≤ many → (1 ≤ k → mm0 = 0) → j = many - k → V E G 0 0 60 [(0, .ref (ad 0)), (1, .int (nI many)), (2, .int (nI k))] [] (WM E ad th n (ldT t k) (ldD t dr k) ms pe (ldP t pw cod n k) len cod (mm0) fs fc fw sc li lm ls lq hs) := by
  intro j
  induction j using Nat.strongRecOn with
  | _ j ih =>
    intro k mm0 hkm hz hj
    refine v_iload_n O dX5_load_60 rfl ?_
    refine v_iload_n O dX5_load_61 rfl ?_
    refine v_icmpN_ge (tgt := 123) O dX5_load_62 (by decide) (by omega) (by omega) (fun h => ?_) (fun h => ?_)
    · have e : k = many := by omega
      subst e
      rw [hz hm]
      refine v_ord [0, 1] ?_
      exact kk
    · have hq : n * (k + 1) ≤ n * many := Nat.mul_le_mul_left n h
      rw [Nat.mul_succ] at hq
      obtain ⟨b1, b2⟩ := bgT_le (ldT_le ht k)
      refine v_aload_n O dX5_load_65 rfl ?_
      refine v_V0 O dX5_load_66 lkX5_65 (c_begin hst (ldT_le ht k)) 0 rfl rfl rfl rfl rfl (by first | exact hkc | exact Nat.zero_le _) (by first | exact hks | exact Nat.zero_le _) ?_
      refine v_iconst (v := nI 0) O dX5_load_69 (by decide) ?_
      refine v_istore_n O dX5_load_70 (by rw [hN]; decide) ?_
      refine v_ord [0, 1, 2, 3] ?_
      refine v_w (w' := (WM E ad th n (bgT (ldT t k)) (bgD (ldT t k) (ldD t dr k)) ms pe (lay (bgP (ldT t k) (ldP t pw cod n k)) (fun c => pv (cod (n * k + c))) ((bgT (ldT t k) - 1) * 16) 0) len cod (0) fs fc fw sc li lm ls lq hs)) (by rw [lay_0]) ?_
      refine lp_loadIn O hN hst rfl hn b1 b2 hl (by omega) hcod ?_ n 0 (by omega) (by omega)
      refine v_iincN (b := 1) O dX5_load_117 rfl (by decide) (by rw [hN]; decide) ?_
      refine v_goto (tgt := 60) O dX5_load_120 (by decide) ?_
      refine v_ord [0, 1, 2] ?_
      exact ih (j - 1) (by omega) (k + 1) 0 (by omega) (fun _ => rfl) (by omega)
theorem m_load {E : ET} {ad : Nat → Nat} {th n t dr ms : Nat} {pe pw : Nat → Nat} {len : Nat} {cod : Nat → Nat} {mm : Nat} {fs fc fw : Nat → Nat} {sc : Nat → Int64} {li : Nat → Nat} {lm ls lq hs : Int64} (hst : E.1.stackTraces = false) (hn1 : 2 ≤ n) (hn : n ≤ 16) (ht : t ≤ 48) (hl : len ≤ 64) (h0 : 1 ≤ len) (hr : len % n = 0) (hcod : ∀ j, j < len → cod j < 128 ∧ isP (cod j) = true) : Ctr E yX5_load cdX5_load (rmL 4) [.ref (ad 0)] (WM E ad th n t dr ms pe pw len cod mm fs fc fw sc li lm ls lq hs) (pR (some (.int (nI (len / n)))) (WM E ad (0) n (ldT t (len / n)) (ldD t dr (len / n)) ms pe (ldP t pw cod n (len / n)) (0) cod (0) fs fc fw sc li lm ls lq hs)) noX 0 0 := by
  have hm := Nat.div_add_mod len n
  rw [hr, Nat.add_zero] at hm
  have hm1 : 1 ≤ len / n := by
    rcases Nat.eq_zero_or_pos (len / n) with e | e
    · rw [e] at hm; omega
    · exact e
  have hm2 : len / n ≤ len := Nat.div_le_self len n
  have hea : errAt cod len = len := errAt_of (Nat.le_refl _) (fun j hj => (hcod j hj).2) (Or.inl rfl)
  refine ctr_of hst (by decide) (Nat.le_of_ble_eq_true rfl) (fun G O OR hN => ?_)
  have O : OKG E G cX5_load RX5 (rmL 4) [] := O
  have hN : nLG G = 4 := hN
  refine v_aload_n O dX5_load_0 rfl ?_
  refine v_aload_n O dX5_load_1 rfl ?_
  refine v_get O dX5_load_2 flX5_68 0 rfl rfl ?_
  refine v_ifN_le (tgt := 35) O dX5_load_5 (by decide) (by omega) (fun h => ?_) (fun h => ?_)
  · omega
  · refine v_aload_n O dX5_load_8 rfl ?_
    refine v_V1 O dX5_load_9 lkX5_75 (c_rightLength hst hl (fun j hj => (hcod j hj).1)) 0 rfl rfl rfl rfl rfl (by first | exact hkc | exact Nat.zero_le _) (by first | exact hks | exact Nat.zero_le _) ?_
    rw [hea]
    refine v_aload_n O dX5_load_12 rfl ?_
    refine v_get O dX5_load_13 flX5_68 0 rfl rfl ?_
    refine v_icmpN_ne (tgt := 35) O dX5_load_16 (by decide) (by omega) (by omega) (fun h2 => ?_) (fun h2 => ?_)
    · omega
    · refine v_aload_n O dX5_load_19 rfl ?_
      refine v_get O dX5_load_20 flX5_68 0 rfl rfl ?_
      refine v_aload_n O dX5_load_23 rfl ?_
      refine v_get O dX5_load_24 flX5_7 0 rfl rfl ?_
      refine v_iremN O dX5_load_27 (by omega) (by omega) (by omega) ?_
      refine v_ifN_ne (tgt := 35) O dX5_load_28 (by decide) (by omega) (fun h3 => ?_) (fun h3 => ?_)
      · omega
      · refine v_iconst (v := nI 0) O dX5_load_31 (by decide) ?_
        refine v_goto (tgt := 36) O dX5_load_32 (by decide) ?_
        refine v_put (ty := .int) O dX5_load_36 flX5_39 ftX5 0 rfl rfl (by decide +kernel) rfl rfl (Nat.le_of_ble_eq_true rfl) ?_
        refine v_aload_n O dX5_load_39 rfl ?_
        refine v_get O dX5_load_40 flX5_39 0 rfl rfl ?_
        refine v_ifN_le (tgt := 48) O dX5_load_43 (by decide) (by omega) (fun h4 => ?_) (fun h4 => ?_)
        · refine v_aload_n O dX5_load_48 rfl ?_
          refine v_get O dX5_load_49 flX5_68 0 rfl rfl ?_
          refine v_aload_n O dX5_load_52 rfl ?_
          refine v_get O dX5_load_53 flX5_7 0 rfl rfl ?_
          refine v_idivN O dX5_load_56 (by omega) (by omega) (by omega) ?_
          refine v_istore_n O dX5_load_57 (by rw [hN]; decide) ?_
          refine v_iconst (v := nI 0) O dX5_load_58 (by decide) ?_
          refine v_istore_n O dX5_load_59 (by rw [hN]; decide) ?_
          refine v_ord [0, 1, 2] ?_
          refine v_w (w' := (WM E ad (0) n (ldT t 0) (ldD t dr 0) ms pe (ldP t pw cod n 0) len cod mm fs fc fw sc li lm ls lq hs)) rfl ?_
          refine lp_loadOut (mm := mm) O hN hst hn ht hl hm hm1 (by omega) hcod ?_ (len / n) 0 mm (by omega) (fun z => by omega) (by omega)
          refine v_aload_n O dX5_load_123 rfl ?_
          refine v_iconst (v := nI 0) O dX5_load_124 (by decide) ?_
          refine v_put (ty := .int) O dX5_load_125 flX5_68 ftX5 0 rfl rfl (by decide +kernel) rfl rfl (Nat.le_of_ble_eq_true rfl) ?_
          refine v_iload_n O dX5_load_128 rfl ?_
          exact v_ireturn O OR dX5_load_129 (⟨rfl, rfl⟩) (Nat.le_of_ble_eq_true rfl) (Nat.le_of_ble_eq_true rfl)
        · omega
theorem mx_load {E : ET} {ad : Nat → Nat} {th n t dr ms : Nat} {pe pw : Nat → Nat} {len : Nat} {cod : Nat → Nat} {mm : Nat} {fs fc fw : Nat → Nat} {sc : Nat → Int64} {li : Nat → Nat} {lm ls lq hs : Int64} (hst : E.1.stackTraces = false) (hn1 : 2 ≤ n) (hn : n ≤ 16) (hl : len ≤ 64) (hcod : ∀ j, j < len → cod j < 128) (hx : len = 0 ∨ errAt cod len ≠ len ∨ len % n ≠ 0) : Ctr E yX5_load cdX5_load (rmL 4) [.ref (ad 0)] (WM E ad th n t dr ms pe pw len cod mm fs fc fw sc li lm ls lq hs) (pR (some (.int (nI 0))) (WM E ad (1) n t dr ms pe pw len cod mm fs fc fw sc li lm ls lq hs)) noX 0 0 := by
  have hea := fa_first_le (fun i => !isP (cod i)) len
  have hea : errAt cod len ≤ len := hea
  have hmod := Nat.mod_lt len (show 0 < n by omega)
  refine ctr_of hst (by decide) (Nat.le_of_ble_eq_true rfl) (fun G O OR hN => ?_)
  have O : OKG E G cX5_load RX5 (rmL 4) [] := O
  have hN : nLG G = 4 := hN
  have key : V E G 0 0 35 [(0, .ref (ad 0))] [.ref (ad 0)] (WM E ad th n t dr ms pe pw len cod mm fs fc fw sc li lm ls lq hs) := by
    refine v_iconst (v := nI 1) O dX5_load_35 (by decide) ?_
    refine v_put (ty := .int) O dX5_load_36 flX5_39 ftX5 0 rfl rfl (by decide +kernel) rfl rfl (Nat.le_of_ble_eq_true rfl) ?_
    refine v_aload_n O dX5_load_39 rfl ?_
    refine v_get O dX5_load_40 flX5_39 0 rfl rfl ?_
    refine v_ifN_le (tgt := 48) O dX5_load_43 (by decide) (by omega) (fun h3 => ?_) (fun h3 => ?_)
    · omega
    · refine v_iconst (v := nI 0) O dX5_load_46 (by decide) ?_
      exact v_ireturn O OR dX5_load_47 (⟨rfl, rfl⟩) (Nat.le_of_ble_eq_true rfl) (Nat.le_of_ble_eq_true rfl)
  refine v_aload_n O dX5_load_0 rfl ?_
  refine v_aload_n O dX5_load_1 rfl ?_
  refine v_get O dX5_load_2 flX5_68 0 rfl rfl ?_
  refine v_ifN_le (tgt := 35) O dX5_load_5 (by decide) (by omega) (fun h => ?_) (fun h => ?_)
  · exact key
  · refine v_aload_n O dX5_load_8 rfl ?_
    refine v_V1 O dX5_load_9 lkX5_75 (c_rightLength hst hl hcod) 0 rfl rfl rfl rfl rfl (by first | exact hkc | exact Nat.zero_le _) (by first | exact hks | exact Nat.zero_le _) ?_
    refine v_aload_n O dX5_load_12 rfl ?_
    refine v_get O dX5_load_13 flX5_68 0 rfl rfl ?_
    refine v_icmpN_ne (tgt := 35) O dX5_load_16 (by decide) (by omega) (by omega) (fun h2 => ?_) (fun h2 => ?_)
    · exact key
    · refine v_aload_n O dX5_load_19 rfl ?_
      refine v_get O dX5_load_20 flX5_68 0 rfl rfl ?_
      refine v_aload_n O dX5_load_23 rfl ?_
      refine v_get O dX5_load_24 flX5_7 0 rfl rfl ?_
      refine v_iremN O dX5_load_27 (by omega) (by omega) (by omega) ?_
      refine v_ifN_ne (tgt := 35) O dX5_load_28 (by decide) (by omega) (fun h3 => ?_) (fun h3 => ?_)
      · exact key
      · omega
-- inject
def min9 (x : Nat) : Nat := if x ≤ 9999 then x else 9999
def injP (pw : Nat → Nat) (n q d am : Nat) : Nat → (Nat → Nat)
  | 0 => pw
  | c + 1 => va_up (injP pw n q d am c) ((q + sof n d c) * 16 + c) (min9 (injP pw n q d am c ((q + sof n d c) * 16 + c) + am))
def injS (pw : Nat → Nat) (n q d am : Nat) : Nat → Nat
  | 0 => 0
  | c + 1 => injS pw n q d am c + (min9 (injP pw n q d am c ((q + sof n d c) * 16 + c) + am) - injP pw n q d am c ((q + sof n d c) * 16 + c))
theorem min9_le (x : Nat) : min9 x ≤ 9999 := by unfold min9; split <;> omega
theorem injP_le {pw : Nat → Nat} {n q d am : Nat} (hp : ∀ j, pw j ≤ 9999) : ∀ c j, injP pw n q d am c j ≤ 9999
  | 0, j => hp j
  | c + 1, j => by
    unfold injP va_up
    split
    · exact min9_le _
    · exact injP_le hp c j
theorem lp_injectM {E : ET} {G : GT} (O : OKG E G cX5_inject RX5 (rmL 3) []) (hN : nLG G = 9) {ad : Nat → Nat} {th n t dr ms : Nat} {pe pw : Nat → Nat} {len : Nat} {cod : Nat → Nat} {mm : Nat} {fs fc fw : Nat → Nat} {sc : Nat → Int64} {li : Nat → Nat} {lm ls lq hs : Int64} {d q am : Nat} (hst : E.1.stackTraces = false) (hn1 : 2 ≤ n) (hn : n ≤ 16) (hd : d < n) (ht : t ≤ 48) (hq : q + d < t) (ha : am ≤ 9999) (hp : ∀ j, pw j ≤ 9999) (kk : V E G 0 0 165 [(5, .int (nI (injS pw n q d am n)))] [] (WM E ad (0) n t dr ms pe (injP pw n q d am n) len cod (0) fs fc fw sc li lm ls lq hs)) : ∀ j c mm0 : Nat, c ≤ n → (1 ≤ c → mm0 = 0) → j = n - c → V E G 0 0 68 [(0, .ref (ad 0)), (1, .int (nI d)), (2, .int (nI q)), (3, .int (nI am)), (5, .int (nI (injS pw n q d am c))), (6, .int (nI c))] [] (WM E ad (0) n t dr ms pe (injP pw n q d am c) len cod (mm0) fs fc fw sc li lm ls lq hs) := by
  intro j
  induction j using Nat.strongRecOn with
  | _ j ih =>
    intro c mm0 hc hz hj
    refine v_iload O dX5_inject_68 rfl ?_
    refine v_aload_n O dX5_inject_70 rfl ?_
    refine v_get O dX5_inject_71 flX5_7 0 rfl rfl ?_
    refine v_icmpN_ge (tgt := 165) O dX5_inject_74 (by decide) (by omega) (by omega) (fun h => ?_) (fun h => ?_)
    · have e : c = n := by omega
      subst e
      rw [hz (by omega)]
      refine v_ord [5] ?_
      exact kk
    · have ho := sof_le (d := d) hn1 h
      have hb := injP_le (n := n) (q := q) (d := d) (am := am) hp c ((q + sof n d c) * 16 + c)
      have h9 := min9_le (injP pw n q d am c ((q + sof n d c) * 16 + c) + am)
      have h8 : injP pw n q d am c ((q + sof n d c) * 16 + c) ≤ min9 (injP pw n q d am c ((q + sof n d c) * 16 + c) + am) := by unfold min9; split <;> omega
      have key : V E G 0 0 128 [(0, .ref (ad 0)), (1, .int (nI d)), (2, .int (nI q)), (3, .int (nI am)), (5, .int (nI (injS pw n q d am c))), (6, .int (nI c)), (7, .int (nI ((q + sof n d c) * 16 + c)))] [.int (nI (min9 (injP pw n q d am c ((q + sof n d c) * 16 + c) + am)))] (WM E ad (0) n t dr ms pe (injP pw n q d am c) len cod (mm0) fs fc fw sc li lm ls lq hs) := by
        refine v_istore O dX5_inject_128 (by rw [hN]; decide) ?_
        refine v_iload O dX5_inject_130 rfl ?_
        refine v_iload O dX5_inject_132 rfl ?_
        refine v_aload_n O dX5_inject_134 rfl ?_
        refine v_get O dX5_inject_135 flX5_17 0 rfl rfl ?_
        refine v_iload O dX5_inject_138 rfl ?_
        refine v_iald O dX5_inject_140 2 rfl (by decide) (by omega) ?_
        refine v_isubN O dX5_inject_141 (by omega) ?_
        refine v_iaddN O dX5_inject_142 ?_
        refine v_istore O dX5_inject_143 (by rw [hN]; decide) ?_
        refine v_aload_n O dX5_inject_145 rfl ?_
        refine v_get O dX5_inject_146 flX5_17 0 rfl rfl ?_
        refine v_iload O dX5_inject_149 rfl ?_
        refine v_iload O dX5_inject_151 rfl ?_
        refine v_iastN O dX5_inject_153 2 rfl (by decide) (by omega) ?_
        refine v_aload_n O dX5_inject_154 rfl ?_
        refine v_iconst (v := nI 0) O dX5_inject_155 (by decide) ?_
        refine v_put (ty := .int) O dX5_inject_156 flX5_55 ftX5 0 rfl rfl (by decide +kernel) rfl rfl (Nat.le_of_ble_eq_true rfl) ?_
        refine v_iincN (b := 1) O dX5_inject_159 rfl (by decide) (by rw [hN]; decide) ?_
        refine v_goto (tgt := 68) O dX5_inject_162 (by decide) ?_
        refine v_ord [0, 1, 2, 3, 5, 6] ?_
        refine v_w (w' := (WM E ad (0) n t dr ms pe (injP pw n q d am (c + 1)) len cod (0) fs fc fw sc li lm ls lq hs)) rfl ?_
        exact ih (j - 1) (by omega) (c + 1) 0 (by omega) (fun _ => rfl) (by omega)
      refine v_aload_n O dX5_inject_77 rfl ?_
      refine v_get O dX5_inject_78 flX5_39 0 rfl rfl ?_
      refine v_ifN_ne (tgt := 165) O dX5_inject_81 (by decide) (by omega) (fun h2 => ?_) (fun h2 => ?_)
      · omega
      · refine v_bipush (v := nI 16) O dX5_inject_84 (by decide) ?_
        refine v_iload_n O dX5_inject_86 rfl ?_
        refine v_aload_n O dX5_inject_87 rfl ?_
        refine v_iload_n O dX5_inject_88 rfl ?_
        refine v_iload O dX5_inject_89 rfl ?_
        refine v_V1 O dX5_inject_91 lkX5_79 (c_straightOffsetM hst hn1 hn d c (by omega) (by omega)) 0 rfl rfl rfl rfl rfl (by first | exact hkc | exact Nat.zero_le _) (by first | exact hks | exact Nat.zero_le _) ?_
        refine v_iaddN O dX5_inject_94 ?_
        refine v_imulN O dX5_inject_95 ?_
        refine v_iload O dX5_inject_96 rfl ?_
        rw [Nat.mul_comm 16]
        refine v_iaddN O dX5_inject_98 ?_
        refine v_istore O dX5_inject_99 (by rw [hN]; decide) ?_
        refine v_aload_n O dX5_inject_101 rfl ?_
        refine v_get O dX5_inject_102 flX5_17 0 rfl rfl ?_
        refine v_iload O dX5_inject_105 rfl ?_
        refine v_iald O dX5_inject_107 2 rfl (by decide) (by omega) ?_
        refine v_iload_n O dX5_inject_108 rfl ?_
        refine v_iaddN O dX5_inject_109 ?_
        refine v_istore O dX5_inject_110 (by rw [hN]; decide) ?_
        refine v_iload O dX5_inject_112 rfl ?_
        refine v_sipush (v := nI 9999) O dX5_inject_114 (by decide) ?_
        refine v_icmpN_le (tgt := 126) O dX5_inject_117 (by decide) (by omega) (by omega) (fun h3 => ?_) (fun h3 => ?_)
        · refine v_iload O dX5_inject_126 rfl ?_
          refine v_ord [0, 1, 2, 3, 5, 6, 7] ?_
          refine v_st ?_ key
          unfold min9
          rw [if_pos h3]
        · refine v_sipush (v := nI 9999) O dX5_inject_120 (by decide) ?_
          refine v_goto (tgt := 128) O dX5_inject_123 (by decide) ?_
          refine v_ord [0, 1, 2, 3, 5, 6, 7] ?_
          refine v_st ?_ key
          unfold min9
          rw [if_neg (by omega)]
theorem bxB_of {n t wd : Nat} {x1 x2 : Int32} (hn : n ≤ 16) (h : bxB n t x1 x2 wd = true) : ∃ d q : Nat, d < n ∧ x1 = nI d ∧ x2 = nI q ∧ q + wd ≤ t - d := by
  unfold bxB at h
  simp only [Bool.and_eq_true, decide_eq_true_eq] at h
  obtain ⟨h1, h2, h3⟩ := h
  obtain ⟨d, hd, rfl⟩ := inB_of h1
  have e1 : (nI d).toInt.toNat = d := by rw [nI_toInt (by omega)]; omega
  rw [e1] at h3
  have hr := fb_rng x2
  refine ⟨d, x2.toInt.toNat, hd, rfl, ?_, by omega⟩
  rw [fa_eq, nI_toInt (by omega)]
  omega
theorem bxB_nI {n t wd d q : Nat} (hn : n ≤ 16) (hd : d < n) (hq : q < 2 ^ 31) : bxB n t (nI d) (nI q) wd = decide (q + wd ≤ t - d) := by
  unfold bxB
  have e1 : (nI d).toInt.toNat = d := by rw [nI_toInt (by omega)]; omega
  rw [inB_nI hd (by omega), e1, nI_toInt hq, decide_eq_true (show (0 : Int) ≤ (q : Int) by omega), Bool.true_and, Bool.true_and]
  exact decide_eq_decide.mpr (by omega)
theorem m_inject {E : ET} {ad : Nat → Nat} {th n t dr ms : Nat} {pe pw : Nat → Nat} {len : Nat} {cod : Nat → Nat} {mm : Nat} {fs fc fw : Nat → Nat} {sc : Nat → Int64} {li : Nat → Nat} {lm ls lq hs : Int64} (hst : E.1.stackTraces = false) (hn1 : 2 ≤ n) (hn : n ≤ 16) (ht : t ≤ 48) (d q am : Nat) (hd : d < n) (hq : q + d < t) (ha1 : 1 ≤ am) (ha : am ≤ 9999) (hp : ∀ j, pw j ≤ 9999) : Ctr E yX5_inject cdX5_inject (rmL 3) [.ref (ad 0), .int (nI d), .int (nI q), .int (nI am)] (WM E ad th n t dr ms pe pw len cod mm fs fc fw sc li lm ls lq hs) (pR (some (.int (nI (injS pw n q d am n)))) (WM E ad (0) n t dr ms pe (injP pw n q d am n) len cod (0) fs fc fw sc li lm ls lq hs)) noX 0 0 := by
  refine ctr_of hst (by decide) (Nat.le_of_ble_eq_true rfl) (fun G O OR hN => ?_)
  have O : OKG E G cX5_inject RX5 (rmL 3) [] := O
  have hN : nLG G = 9 := hN
  refine v_aload_n O dX5_inject_0 rfl ?_
  refine v_iload_n O dX5_inject_1 rfl ?_
  refine v_V1 O dX5_inject_2 lkX5_86 (c_isSlope hst hn (nI d)) 0 rfl rfl rfl rfl rfl (by first | exact hkc | exact Nat.zero_le _) (by first | exact hks | exact Nat.zero_le _) ?_
  refine v_ifB_eq (tgt := 30) O dX5_inject_5 (by decide) (fun h => ?_) (fun h => ?_)
  · rw [inB_nI hd (by omega)] at h; cases h
  · refine v_aload_n O dX5_inject_8 rfl ?_
    refine v_iload_n O dX5_inject_9 rfl ?_
    refine v_V1 O dX5_inject_10 lkX5_96 (c_isColumn hst ht (nI q)) 0 rfl rfl rfl rfl rfl (by first | exact hkc | exact Nat.zero_le _) (by first | exact hks | exact Nat.zero_le _) ?_
    refine v_ifB_eq (tgt := 30) O dX5_inject_13 (by decide) (fun h2 => ?_) (fun h2 => ?_)
    · rw [inB_nI (show q < t by omega) (by omega)] at h2; cases h2
    · refine v_iload_n O dX5_inject_16 rfl ?_
      refine v_iload_n O dX5_inject_17 rfl ?_
      refine v_iaddN O dX5_inject_18 ?_
      refine v_aload_n O dX5_inject_19 rfl ?_
      refine v_get O dX5_inject_20 flX5_46 0 rfl rfl ?_
      refine v_icmpN_ge (tgt := 30) O dX5_inject_23 (by decide) (by omega) (by omega) (fun h3 => ?_) (fun h3 => ?_)
      · omega
      · refine v_iconst (v := bI true) O dX5_inject_26 (by decide) ?_
        refine v_goto (tgt := 31) O dX5_inject_27 (by decide) ?_
        refine v_istore O dX5_inject_31 (by rw [hN]; decide) ?_
        refine v_aload_n O dX5_inject_33 rfl ?_
        refine v_iload O dX5_inject_34 rfl ?_
        refine v_ifB_ne (tgt := 43) O dX5_inject_36 (by decide) (fun h4 => ?_) (fun h4 => ?_)
        · refine v_iload_n O dX5_inject_43 rfl ?_
          refine v_iconst (v := nI 1) O dX5_inject_44 (by decide) ?_
          refine v_sipush (v := nI 9999) O dX5_inject_45 (by decide) ?_
          refine v_S1 O dX5_inject_48 lkX5_42 (c_withinN hst am 1 9999 (by omega) (by decide) (by decide)) rfl rfl rfl (by first | exact hkc | exact Nat.zero_le _) (by first | exact hks | exact Nat.zero_le _) ?_
          refine v_ifB_eq (tgt := 58) O dX5_inject_51 (by decide) (fun h5 => ?_) (fun h5 => ?_)
          · exact absurd h5 (by simp [ha, ha1])
          · refine v_iconst (v := nI 0) O dX5_inject_54 (by decide) ?_
            refine v_goto (tgt := 59) O dX5_inject_55 (by decide) ?_
            refine v_put (ty := .int) O dX5_inject_59 flX5_39 ftX5 0 rfl rfl (by decide +kernel) rfl rfl (Nat.le_of_ble_eq_true rfl) ?_
            refine v_iconst (v := nI 0) O dX5_inject_62 (by decide) ?_
            refine v_istore O dX5_inject_63 (by rw [hN]; decide) ?_
            refine v_iconst (v := nI 0) O dX5_inject_65 (by decide) ?_
            refine v_istore O dX5_inject_66 (by rw [hN]; decide) ?_
            refine v_ord [0, 1, 2, 3, 5, 6] ?_
            refine v_w (w' := (WM E ad (0) n t dr ms pe (injP pw n q d am 0) len cod (mm) fs fc fw sc li lm ls lq hs)) rfl ?_
            refine lp_injectM (mm := mm) (th := th) O hN hst hn1 hn hd ht hq ha hp ?_ n 0 mm (by omega) (fun z => by omega) (by omega)
            refine v_iload O dX5_inject_165 rfl ?_
            exact v_ireturn O OR dX5_inject_167 (⟨rfl, rfl⟩) (Nat.le_of_ble_eq_true rfl) (Nat.le_of_ble_eq_true rfl)
        · cases h4
theorem mx_injectEnd {E : ET} {G : GT} (O : OKG E G cX5_inject RX5 (rmL 3) []) (hN : nLG G = 9) {ad : Nat → Nat} {th n t dr ms : Nat} {pe pw : Nat → Nat} {len : Nat} {cod : Nat → Nat} {mm : Nat} {fs fc fw : Nat → Nat} {sc : Nat → Int64} {li : Nat → Nat} {lm ls lq hs : Int64} {pc : Nat} {x1 x2 x3 : Int32} {e : Nat} (OR : OKR E G (pR (some (.int (nI 0))) (WM E ad (e) n t dr ms pe pw len cod mm fs fc fw sc li lm ls lq hs)) noX 0 0 (some .int)) (he : e = 1 ∨ e = 2) (hn : n ≤ 16) (hn1 : 2 ≤ n) : V E G 0 0 59 [(0, .ref (ad 0)), (1, .int x1), (2, .int x2), (3, .int x3)] [.int (nI e), .ref (ad 0)] (WM E ad th n t dr ms pe pw len cod mm fs fc fw sc li lm ls lq hs) := by
  refine v_put (ty := .int) O dX5_inject_59 flX5_39 ftX5 0 rfl rfl (by decide +kernel) rfl rfl (Nat.le_of_ble_eq_true rfl) ?_
  refine v_iconst (v := nI 0) O dX5_inject_62 (by decide) ?_
  refine v_istore O dX5_inject_63 (by rw [hN]; decide) ?_
  refine v_iconst (v := nI 0) O dX5_inject_65 (by decide) ?_
  refine v_istore O dX5_inject_66 (by rw [hN]; decide) ?_
  refine v_iload O dX5_inject_68 rfl ?_
  refine v_aload_n O dX5_inject_70 rfl ?_
  refine v_get O dX5_inject_71 flX5_7 0 rfl rfl ?_
  refine v_icmpN_ge (tgt := 165) O dX5_inject_74 (by decide) (by omega) (by omega) (fun h => ?_) (fun h => ?_)
  · omega
  · refine v_aload_n O dX5_inject_77 rfl ?_
    refine v_get O dX5_inject_78 flX5_39 0 rfl rfl ?_
    refine v_ifN_ne (tgt := 165) O dX5_inject_81 (by decide) (by omega) (fun h2 => ?_) (fun h2 => ?_)
    · refine v_iload O dX5_inject_165 rfl ?_
      exact v_ireturn O OR dX5_inject_167 (⟨rfl, rfl⟩) (Nat.le_of_ble_eq_true rfl) (Nat.le_of_ble_eq_true rfl)
    · omega
theorem mx_inject1 {E : ET} {ad : Nat → Nat} {th n t dr ms : Nat} {pe pw : Nat → Nat} {len : Nat} {cod : Nat → Nat} {mm : Nat} {fs fc fw : Nat → Nat} {sc : Nat → Int64} {li : Nat → Nat} {lm ls lq hs : Int64} (hst : E.1.stackTraces = false) (hn1 : 2 ≤ n) (hn : n ≤ 16) (ht : t ≤ 48) (x1 x2 x3 : Int32) (hx : bxB n t x1 x2 1 = false) : Ctr E yX5_inject cdX5_inject (rmL 3) [.ref (ad 0), .int x1, .int x2, .int x3] (WM E ad th n t dr ms pe pw len cod mm fs fc fw sc li lm ls lq hs) (pR (some (.int (nI 0))) (WM E ad (1) n t dr ms pe pw len cod mm fs fc fw sc li lm ls lq hs)) noX 0 0 := by
  refine ctr_of hst (by decide) (Nat.le_of_ble_eq_true rfl) (fun G O OR hN => ?_)
  have O : OKG E G cX5_inject RX5 (rmL 3) [] := O
  have hN : nLG G = 9 := hN
  have key : V E G 0 0 30 [(0, .ref (ad 0)), (1, .int x1), (2, .int x2), (3, .int x3)] [] (WM E ad th n t dr ms pe pw len cod mm fs fc fw sc li lm ls lq hs) := by
    refine v_iconst (v := bI false) O dX5_inject_30 (by decide) ?_
    refine v_istore O dX5_inject_31 (by rw [hN]; decide) ?_
    refine v_aload_n O dX5_inject_33 rfl ?_
    refine v_iload O dX5_inject_34 rfl ?_
    refine v_ifB_ne (tgt := 43) O dX5_inject_36 (by decide) (fun h4 => ?_) (fun h4 => ?_)
    · cases h4
    · refine v_iconst (v := nI 1) O dX5_inject_39 (by decide) ?_
      refine v_goto (tgt := 59) O dX5_inject_40 (by decide) ?_
      refine v_ord [0, 1, 2, 3] ?_
      exact mx_injectEnd (pc := 0) O hN OR (Or.inl rfl) hn hn1
  refine v_aload_n O dX5_inject_0 rfl ?_
  refine v_iload_n O dX5_inject_1 rfl ?_
  refine v_V1 O dX5_inject_2 lkX5_86 (c_isSlope hst hn x1) 0 rfl rfl rfl rfl rfl (by first | exact hkc | exact Nat.zero_le _) (by first | exact hks | exact Nat.zero_le _) ?_
  refine v_ifB_eq (tgt := 30) O dX5_inject_5 (by decide) (fun h => ?_) (fun h => ?_)
  · exact key
  · refine v_aload_n O dX5_inject_8 rfl ?_
    refine v_iload_n O dX5_inject_9 rfl ?_
    refine v_V1 O dX5_inject_10 lkX5_96 (c_isColumn hst ht x2) 0 rfl rfl rfl rfl rfl (by first | exact hkc | exact Nat.zero_le _) (by first | exact hks | exact Nat.zero_le _) ?_
    refine v_ifB_eq (tgt := 30) O dX5_inject_13 (by decide) (fun h2 => ?_) (fun h2 => ?_)
    · exact key
    · obtain ⟨d, hd, rfl⟩ := inB_of h
      obtain ⟨q, hq, rfl⟩ := inB_of h2
      rw [bxB_nI hn hd (by omega)] at hx
      have hx := of_decide_eq_false hx
      refine v_iload_n O dX5_inject_16 rfl ?_
      refine v_iload_n O dX5_inject_17 rfl ?_
      refine v_iaddN O dX5_inject_18 ?_
      refine v_aload_n O dX5_inject_19 rfl ?_
      refine v_get O dX5_inject_20 flX5_46 0 rfl rfl ?_
      refine v_icmpN_ge (tgt := 30) O dX5_inject_23 (by decide) (by omega) (by omega) (fun h3 => ?_) (fun h3 => ?_)
      · exact key
      · omega
theorem mx_inject2 {E : ET} {ad : Nat → Nat} {th n t dr ms : Nat} {pe pw : Nat → Nat} {len : Nat} {cod : Nat → Nat} {mm : Nat} {fs fc fw : Nat → Nat} {sc : Nat → Int64} {li : Nat → Nat} {lm ls lq hs : Int64} (hst : E.1.stackTraces = false) (hn1 : 2 ≤ n) (hn : n ≤ 16) (ht : t ≤ 48) (x1 x2 x3 : Int32) (hx : bxB n t x1 x2 1 = true) (h3 : ¬ (nI 1 ≤ x3 ∧ x3 ≤ nI 9999)) : Ctr E yX5_inject cdX5_inject (rmL 3) [.ref (ad 0), .int x1, .int x2, .int x3] (WM E ad th n t dr ms pe pw len cod mm fs fc fw sc li lm ls lq hs) (pR (some (.int (nI 0))) (WM E ad (2) n t dr ms pe pw len cod mm fs fc fw sc li lm ls lq hs)) noX 0 0 := by
  obtain ⟨d, q, hd, rfl, rfl, hq⟩ := bxB_of hn hx
  refine ctr_of hst (by decide) (Nat.le_of_ble_eq_true rfl) (fun G O OR hN => ?_)
  have O : OKG E G cX5_inject RX5 (rmL 3) [] := O
  have hN : nLG G = 9 := hN
  refine v_aload_n O dX5_inject_0 rfl ?_
  refine v_iload_n O dX5_inject_1 rfl ?_
  refine v_V1 O dX5_inject_2 lkX5_86 (c_isSlope hst hn (nI d)) 0 rfl rfl rfl rfl rfl (by first | exact hkc | exact Nat.zero_le _) (by first | exact hks | exact Nat.zero_le _) ?_
  refine v_ifB_eq (tgt := 30) O dX5_inject_5 (by decide) (fun h => ?_) (fun h => ?_)
  · rw [inB_nI hd (by omega)] at h; cases h
  · refine v_aload_n O dX5_inject_8 rfl ?_
    refine v_iload_n O dX5_inject_9 rfl ?_
    refine v_V1 O dX5_inject_10 lkX5_96 (c_isColumn hst ht (nI q)) 0 rfl rfl rfl rfl rfl (by first | exact hkc | exact Nat.zero_le _) (by first | exact hks | exact Nat.zero_le _) ?_
    refine v_ifB_eq (tgt := 30) O dX5_inject_13 (by decide) (fun h2 => ?_) (fun h2 => ?_)
    · rw [inB_nI (show q < t by omega) (by omega)] at h2; cases h2
    · refine v_iload_n O dX5_inject_16 rfl ?_
      refine v_iload_n O dX5_inject_17 rfl ?_
      refine v_iaddN O dX5_inject_18 ?_
      refine v_aload_n O dX5_inject_19 rfl ?_
      refine v_get O dX5_inject_20 flX5_46 0 rfl rfl ?_
      refine v_icmpN_ge (tgt := 30) O dX5_inject_23 (by decide) (by omega) (by omega) (fun h4 => ?_) (fun h4 => ?_)
      · omega
      · refine v_iconst (v := bI true) O dX5_inject_26 (by decide) ?_
        refine v_goto (tgt := 31) O dX5_inject_27 (by decide) ?_
        refine v_istore O dX5_inject_31 (by rw [hN]; decide) ?_
        refine v_aload_n O dX5_inject_33 rfl ?_
        refine v_iload O dX5_inject_34 rfl ?_
        refine v_ifB_ne (tgt := 43) O dX5_inject_36 (by decide) (fun h5 => ?_) (fun h5 => ?_)
        · refine v_iload_n O dX5_inject_43 rfl ?_
          refine v_iconst (v := nI 1) O dX5_inject_44 (by decide) ?_
          refine v_sipush (v := nI 9999) O dX5_inject_45 (by decide) ?_
          refine v_S1 O dX5_inject_48 lkX5_42 (c_within hst x3 (nI 1) (nI 9999)) rfl rfl rfl (by first | exact hkc | exact Nat.zero_le _) (by first | exact hks | exact Nat.zero_le _) ?_
          refine v_ifB_eq (tgt := 58) O dX5_inject_51 (by decide) (fun h6 => ?_) (fun h6 => ?_)
          · refine v_iconst (v := nI 2) O dX5_inject_58 (by decide) ?_
            refine v_ord [0, 1, 2, 3] ?_
            exact mx_injectEnd (pc := 0) O hN OR (Or.inr rfl) hn hn1
          · exact absurd (of_decide_eq_true h6) h3
        · cases h5
