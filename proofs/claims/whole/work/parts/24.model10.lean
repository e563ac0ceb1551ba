-- find
def apB (fs fc fw : Nat → Nat) (a b : Nat) : Nat → Bool
  | 0 => true
  | k + 1 => apB fs fc fw a b k && (decide (b < fc k) || decide (fc k + fw k - 1 + fs k < a))
theorem lp_isApart {E : ET} {G : GT} {R0 : Room} {tb : List ExceptionTableEntry} (O : OKG E G cX5_isApart RX5 R0 tb) (hN : nLG G = 6) {ad : Nat → Nat} {th n t dr ms : Nat} {pe pw : Nat → Nat} {len : Nat} {cod : Nat → Nat} {mm : Nat} {fs fc fw : Nat → Nat} {sc : Nat → Int64} {li : Nat → Nat} {lm ls lq hs : Int64} {a b : Nat} (ha : a < 2 ^ 20) (hb : b < 2 ^ 20) (hmm : mm ≤ 8) (hcd : ∀ k, k < mm → fs k < 16 ∧ fc k < 48 ∧ 1 ≤ fw k ∧ fw k ≤ 8) (kk : V E G 0 0 74 [(3, .int (bI (apB fs fc fw a b mm)))] [] (WM E ad th n t dr ms pe pw len cod mm fs fc fw sc li lm ls lq hs)) : ∀ j k : Nat, k ≤ mm → j = mm - k → V E G 0 0 5 [(0, .ref (ad 0)), (1, .int (nI a)), (2, .int (nI b)), (3, .int (bI (apB fs fc fw a b k))), (4, .int (nI k))] [] (WM E ad th n t dr ms pe pw len cod mm fs fc fw sc li lm ls lq hs) := by
  intro j
  induction j using Nat.strongRecOn with
  | _ j ih =>
    intro k hk hj
    refine v_iload O dX5_isApart_5 rfl ?_
    refine v_aload_n O dX5_isApart_7 rfl ?_
    refine v_get O dX5_isApart_8 flX5_55 0 rfl rfl ?_
    refine v_icmpN_ge (tgt := 74) O dX5_isApart_11 (by decide) (by omega) (by omega) (fun h => ?_) (fun h => ?_)
    · have e : k = mm := by omega
      subst e
      refine v_ord [3] ?_
      exact kk
    · obtain ⟨a1, a2, a3, a4⟩ := hcd k h
      have key : ∀ x : Bool, x = apB fs fc fw a b (k + 1) → V E G 0 0 67 [(0, .ref (ad 0)), (1, .int (nI a)), (2, .int (nI b)), (4, .int (nI k))] [.int (bI x)] (WM E ad th n t dr ms pe pw len cod mm fs fc fw sc li lm ls lq hs) := by
        intro x hx
        subst hx
        refine v_istore_n O dX5_isApart_67 (by rw [hN]; decide) ?_
        refine v_iincN (b := 1) O dX5_isApart_68 rfl (by decide) (by rw [hN]; decide) ?_
        refine v_goto (tgt := 5) O dX5_isApart_71 (by decide) ?_
        refine v_ord [0, 1, 2, 3, 4] ?_
        exact ih (j - 1) (by omega) (k + 1) (by omega) (by omega)
      refine v_aload_n O dX5_isApart_14 rfl ?_
      refine v_get O dX5_isApart_15 flX5_26 0 rfl rfl ?_
      refine v_iload O dX5_isApart_18 rfl ?_
      refine v_iald O dX5_isApart_20 5 rfl (by decide) (by omega) ?_
      refine v_aload_n O dX5_isApart_21 rfl ?_
      refine v_get O dX5_isApart_22 flX5_29 0 rfl rfl ?_
      refine v_iload O dX5_isApart_25 rfl ?_
      refine v_iald O dX5_isApart_27 6 rfl (by decide) (by omega) ?_
      refine v_iaddN O dX5_isApart_28 ?_
      refine v_iconst (v := nI 1) O dX5_isApart_29 (by decide) ?_
      refine v_isubN O dX5_isApart_30 (by omega) ?_
      refine v_aload_n O dX5_isApart_31 rfl ?_
      refine v_get O dX5_isApart_32 flX5_23 0 rfl rfl ?_
      refine v_iload O dX5_isApart_35 rfl ?_
      refine v_iald O dX5_isApart_37 4 rfl (by decide) (by omega) ?_
      refine v_iaddN O dX5_isApart_38 ?_
      refine v_istore O dX5_isApart_39 (by rw [hN]; decide) ?_
      refine v_iload_n O dX5_isApart_41 rfl ?_
      refine v_ifB_eq (tgt := 66) O dX5_isApart_42 (by decide) (fun h2 => ?_) (fun h2 => ?_)
      · refine v_iconst (v := bI false) O dX5_isApart_66 (by decide) ?_
        refine v_ord [0, 1, 2, 4] ?_
        exact key false (by rw [apB, h2]; rfl)
      · refine v_iload_n O dX5_isApart_45 rfl ?_
        refine v_aload_n O dX5_isApart_46 rfl ?_
        refine v_get O dX5_isApart_47 flX5_26 0 rfl rfl ?_
        refine v_iload O dX5_isApart_50 rfl ?_
        refine v_iald O dX5_isApart_52 5 rfl (by decide) (by omega) ?_
        refine v_icmpN_lt (tgt := 62) O dX5_isApart_53 (by decide) (by omega) (by omega) (fun h3 => ?_) (fun h3 => ?_)
        · refine v_iconst (v := bI true) O dX5_isApart_62 (by decide) ?_
          refine v_goto (tgt := 67) O dX5_isApart_63 (by decide) ?_
          refine v_ord [0, 1, 2, 4] ?_
          exact key true (by rw [apB, h2, decide_eq_true h3]; rfl)
        · refine v_iload_n O dX5_isApart_56 rfl ?_
          refine v_iload O dX5_isApart_57 rfl ?_
          refine v_icmpN_le (tgt := 66) O dX5_isApart_59 (by decide) (by omega) (by omega) (fun h4 => ?_) (fun h4 => ?_)
          · refine v_iconst (v := bI false) O dX5_isApart_66 (by decide) ?_
            refine v_ord [0, 1, 2, 4] ?_
            exact key false (by rw [apB, h2, decide_eq_false (by omega), decide_eq_false (by omega)]; rfl)
          · refine v_iconst (v := bI true) O dX5_isApart_62 (by decide) ?_
            refine v_goto (tgt := 67) O dX5_isApart_63 (by decide) ?_
            refine v_ord [0, 1, 2, 4] ?_
            exact key true (by rw [apB, h2, decide_eq_true (show fc k + fw k - 1 + fs k < a by omega), Bool.or_true]; rfl)
theorem c_isApart {E : ET} {ad : Nat → Nat} {th n t dr ms : Nat} {pe pw : Nat → Nat} {len : Nat} {cod : Nat → Nat} {mm : Nat} {fs fc fw : Nat → Nat} {sc : Nat → Int64} {li : Nat → Nat} {lm ls lq hs : Int64} (hst : E.1.stackTraces = false) (a b : Nat) (ha : a < 2 ^ 20) (hb : b < 2 ^ 20) (hmm : mm ≤ 8) (hcd : ∀ k, k < mm → fs k < 16 ∧ fc k < 48 ∧ 1 ≤ fw k ∧ fw k ≤ 8) : Ctr E yX5_isApart cdX5_isApart (rmL 1) [.ref (ad 0), .int (nI a), .int (nI b)] (WM E ad th n t dr ms pe pw len cod mm fs fc fw sc li lm ls lq hs) (pR (some (.int (bI (apB fs fc fw a b mm)))) (WM E ad th n t dr ms pe pw len cod mm fs fc fw sc li lm ls lq hs)) noX 0 0 := by
  refine ctr_of hst (by decide) (Nat.le_of_ble_eq_true rfl) (fun G O OR hN => ?_)
  have O : OKG E G cX5_isApart RX5 (rmL 1) [] := O
  have hN : nLG G = 6 := hN
  refine v_iconst (v := bI true) O dX5_isApart_0 (by decide) ?_
  refine v_istore_n O dX5_isApart_1 (by rw [hN]; decide) ?_
  refine v_iconst (v := nI 0) O dX5_isApart_2 (by decide) ?_
  refine v_istore O dX5_isApart_3 (by rw [hN]; decide) ?_
  refine v_ord [0, 1, 2, 3, 4] ?_
  refine lp_isApart O hN ha hb hmm hcd ?_ mm 0 (by omega) (by omega)
  refine v_iload_n O dX5_isApart_74 rfl ?_
  exact v_zreturn O OR dX5_isApart_75 (bI_nar _) (⟨rfl, rfl⟩) (Nat.le_of_ble_eq_true rfl) (Nat.le_of_ble_eq_true rfl)
/-- slope, column, width, score of the best so far -/
abbrev Acc : Type := Nat × Nat × Nat × Int64
def WMa (E : ET) (ad : Nat → Nat) (th n t dr ms : Nat) (pe pw : Nat → Nat) (len : Nat) (cod : Nat → Nat) (mm : Nat) (fs fc fw : Nat → Nat) (sc : Nat → Int64) (li : Nat → Nat) (lm ls lq hs : Int64) (a : Acc) : va_W :=
  WM E ad th n t dr ms pe pw len cod mm (va_up fs mm a.1) (va_up fc mm a.2.1) (va_up fw mm a.2.2.1) (vp_updL sc mm a.2.2.2) li lm ls lq hs
def stpA (thr : Int64) (ap : Bool) (d q w : Nat) (s : Int64) (a : Acc) : Acc := if thr ≤ s ∧ a.2.2.2 < s ∧ ap = true then (d, q, w, s) else a
def lkW (thr : Int64) (ap : Nat → Bool) (S : Nat → Int64) (d q : Nat) (a : Acc) : Nat → Acc
  | 0 => a
  | v + 1 => stpA thr (ap (v + 1)) d q (v + 1) (S (v + 1)) (lkW thr ap S d q a v)
/-- the score of a box -/
def SC (ms : Nat) (pw : Nat → Nat) (K n t d q w : Nat) : Int64 := scr (nI (t - d)).toInt64 (smL (lnL ms pw K n d) (t - d)) (smL (sqL (lnL ms pw K n d)) (t - d)) (sm (fun i => lnN ms pw K n d (q + i)) w) w
def VV (ms : Nat) (pw : Nat → Nat) (K n t d : Nat) : Int64 := scV (nI (t - d)).toInt64 (smL (lnL ms pw K n d) (t - d)) (smL (sqL (lnL ms pw K n d)) (t - d))
def lkQ (thr : Int64) (W0 : Nat) (fs fc fw : Nat → Nat) (mm ms : Nat) (pw : Nat → Nat) (K n t d : Nat) (a : Acc) : Nat → Acc
  | 0 => a
  | q + 1 => lkW thr (fun w => apB fs fc fw q (q + w - 1 + d) mm) (SC ms pw K n t d q) d q (lkQ thr W0 fs fc fw mm ms pw K n t d a q) (min W0 (t - d - q))
theorem va_up_lt {f : Nat → Nat} {k x j : Nat} (h : j < k) : va_up f k x j = f j := if_neg (by omega)
theorem apB_cong {fs fc fw fs' fc' fw' : Nat → Nat} {a b : Nat} : ∀ {k : Nat}, (∀ j, j < k → fs j = fs' j ∧ fc j = fc' j ∧ fw j = fw' j) → apB fs fc fw a b k = apB fs' fc' fw' a b k
  | 0, _ => rfl
  | k + 1, h => by
    obtain ⟨h1, h2, h3⟩ := h k (by omega)
    rw [apB, apB, apB_cong (fun j hj => h j (by omega)), h1, h2, h3]
theorem lp_lkW {E : ET} {G : GT} (O : OKG E G cX5_lookThrough RX5 (rmL 5) []) (hN : nLG G = 9) {ad : Nat → Nat} {th n t dr ms : Nat} {pe pw : Nat → Nat} {len : Nat} {cod : Nat → Nat} {mm : Nat} {fs fc fw : Nat → Nat} {sc : Nat → Int64} {li : Nat → Nat} {lm ls lq hs : Int64} {K d q W0 : Nat} {thr : Int64} {a : Acc} (hst : E.1.stackTraces = false) (hK : 1 ≤ K) (hK4 : K ≤ 4) (hn : n = 2 ^ K) (ht : t ≤ 48) (hd : d < n) (hq : q < t - d) (hW : W0 ≤ 8) (hmm : mm < 8) (hcd : ∀ k, k < mm → fs k < 16 ∧ fc k < 48 ∧ 1 ≤ fw k ∧ fw k ≤ 8) (hz : ∀ wd, 1 ≤ wd → wd ≤ 8 → 0 < VV ms pw K n t d → ¬ (nI wd).toInt64 * VV ms pw K n t d = 0)
    (hlm : lm = (nI (t - d)).toInt64) (hls : ls = smL (lnL ms pw K n d) (t - d)) (hlq : lq = smL (sqL (lnL ms pw K n d)) (t - d)) (hli : ∀ x, x < t - d → li x = lnN ms pw K n d x)
    (kk : V E G 0 0 139 [(0, .ref (ad 0)), (1, .int (nI d)), (2, .long thr), (4, .int (nI W0)), (5, .int (nI q))] [] (WMa E ad th n t dr ms pe pw len cod mm fs fc fw sc li lm ls lq hs (lkW thr (fun w => apB fs fc fw q (q + w - 1 + d) mm) (SC ms pw K n t d q) d q a (min W0 (t - d - q))))) :
    ∀ j v : Nat, v ≤ min W0 (t - d - q) → j = min W0 (t - d - q) - v → V E G 0 0 21 [(0, .ref (ad 0)), (1, .int (nI d)), (2, .long thr), (4, .int (nI W0)), (5, .int (nI q)), (6, .int (nI (v + 1)))] [] (WMa E ad th n t dr ms pe pw len cod mm fs fc fw sc li lm ls lq hs (lkW thr (fun w => apB fs fc fw q (q + w - 1 + d) mm) (SC ms pw K n t d q) d q a v)) := by
  obtain ⟨g1, g2⟩ := two_le hn hK hK4
  intro j
  induction j using Nat.strongRecOn with
  | _ j ih =>
    intro v hv hj
    refine v_iload O dX5_lookThrough_21 rfl ?_
    refine v_iload O dX5_lookThrough_23 rfl ?_
    refine v_icmpN_gt (tgt := 139) O dX5_lookThrough_25 (by decide) (by omega) (by omega) (fun h => ?_) (fun h => ?_)
    · have e : min W0 (t - d - q) = v := by omega
      rw [e] at kk
      refine v_ord [0, 1, 2, 4, 5] ?_
      exact kk
    · refine v_aload_n O dX5_lookThrough_28 rfl ?_
      refine v_iload_n O dX5_lookThrough_29 rfl ?_
      refine v_iload O dX5_lookThrough_30 rfl ?_
      refine v_iload O dX5_lookThrough_32 rfl ?_
      refine v_V1 O dX5_lookThrough_34 lkX5_114 (c_isBox hst g2 ht (nI d) (nI q) (v + 1) (by omega)) 0 rfl rfl rfl rfl rfl (by first | exact hkc | exact Nat.zero_le _) (by first | exact hks | exact Nat.zero_le _) ?_
      rw [bxB_nI g2 hd (by omega)]
      refine v_ifB_eq (tgt := 139) O dX5_lookThrough_37 (by decide) (fun h2 => ?_) (fun h2 => ?_)
      · have h2 := of_decide_eq_false h2
        have e : min W0 (t - d - q) = v := by omega
        rw [e] at kk
        refine v_ord [0, 1, 2, 4, 5] ?_
        exact kk
      · have h2 := of_decide_eq_true h2
        have key : ∀ a2 : Acc, a2 = lkW thr (fun w => apB fs fc fw q (q + w - 1 + d) mm) (SC ms pw K n t d q) d q a (v + 1) → V E G 0 0 133 [(0, .ref (ad 0)), (1, .int (nI d)), (2, .long thr), (4, .int (nI W0)), (5, .int (nI q)), (6, .int (nI (v + 1)))] [] (WMa E ad th n t dr ms pe pw len cod mm fs fc fw sc li lm ls lq hs (a2)) := by
          intro a2 ha2
          subst ha2
          refine v_iincN (b := 1) O dX5_lookThrough_133 rfl (by decide) (by rw [hN]; decide) ?_
          refine v_goto (tgt := 21) O dX5_lookThrough_136 (by decide) ?_
          refine v_ord [0, 1, 2, 4, 5, 6] ?_
          exact ih (j - 1) (by omega) (v + 1) (by omega) (by omega)
        generalize hA : lkW thr (fun w => apB fs fc fw q (q + w - 1 + d) mm) (SC ms pw K n t d q) d q a v = A
        have hstep : ∀ s : Int64, s = SC ms pw K n t d q (v + 1) → lkW thr (fun w => apB fs fc fw q (q + w - 1 + d) mm) (SC ms pw K n t d q) d q a (v + 1) = stpA thr (apB fs fc fw q (q + (v + 1) - 1 + d) mm) d q (v + 1) s A := by
          intro s hs
          rw [lkW, hA, hs]
        refine v_aload_n O dX5_lookThrough_40 rfl ?_
        refine v_iload O dX5_lookThrough_41 rfl ?_
        refine v_iload O dX5_lookThrough_43 rfl ?_
        refine v_V1 O dX5_lookThrough_45 lkX5_143 (c_scoreBy hst q (v + 1) (by omega) (by rw [hlm, hls, hlq]; exact hz (v + 1) (by omega) (by omega))) 0 rfl rfl rfl rfl rfl (by first | exact hkc | exact Nat.zero_le _) (by first | exact hks | exact Nat.zero_le _) ?_
        have hsc : scr lm ls lq (sm (fun i => li (q + i)) (v + 1)) (v + 1) = SC ms pw K n t d q (v + 1) := by
          rw [hlm, hls, hlq, sm_cong (fun i hi => hli (q + i) (by omega))]
          rfl
        rw [hsc]
        generalize hS : SC ms pw K n t d q (v + 1) = S
        have hst1 := hstep S hS.symm
        refine v_lstore O dX5_lookThrough_48 (by rw [hN]; decide) ?_
        refine v_lload O dX5_lookThrough_50 rfl ?_
        refine v_lload_n O dX5_lookThrough_52 rfl ?_
        refine v_lcmp O dX5_lookThrough_53 ?_
        refine v_ifC_lt (tgt := 133) O dX5_lookThrough_54 (by decide) (fun h3 => ?_) (fun h3 => ?_)
        · refine v_ord [0, 1, 2, 4, 5, 6] ?_
          refine key A ?_
          rw [hst1, stpA, if_neg (fun z => by rw [fa_lt64] at h3; rw [fa_le64] at z; omega)]
        · refine v_lload O dX5_lookThrough_57 rfl ?_
          refine v_aload_n O dX5_lookThrough_59 rfl ?_
          refine v_get O dX5_lookThrough_60 flX5_32 0 rfl rfl ?_
          refine v_aload_n O dX5_lookThrough_63 rfl ?_
          refine v_get O dX5_lookThrough_64 flX5_55 0 rfl rfl ?_
          refine v_lald O dX5_lookThrough_67 7 rfl (by decide) (by omega) ?_
          refine v_lcmp O dX5_lookThrough_68 ?_
          refine v_ifC_le (tgt := 133) O dX5_lookThrough_69 (by decide) (fun h4 => ?_) (fun h4 => ?_)
          · refine v_ord [0, 1, 2, 4, 5, 6] ?_
            refine key A ?_
            have h4 : S ≤ A.2.2.2 := by rw [pk_uLs] at h4; exact h4
            rw [hst1, stpA, if_neg (fun z => by rw [fa_le64] at h4; rw [fa_lt64 A.2.2.2] at z; omega)]
          · have h4 : ¬ S ≤ A.2.2.2 := by rw [pk_uLs] at h4; exact h4
            refine v_aload_n O dX5_lookThrough_72 rfl ?_
            refine v_iload O dX5_lookThrough_73 rfl ?_
            refine v_iload O dX5_lookThrough_75 rfl ?_
            refine v_iload O dX5_lookThrough_77 rfl ?_
            refine v_iaddN O dX5_lookThrough_79 ?_
            refine v_iconst (v := nI 1) O dX5_lookThrough_80 (by decide) ?_
            refine v_isubN O dX5_lookThrough_81 (by omega) ?_
            refine v_iload_n O dX5_lookThrough_82 rfl ?_
            refine v_iaddN O dX5_lookThrough_83 ?_
            refine v_V1 O dX5_lookThrough_84 lkX5_147 (c_isApart hst q (q + (v + 1) - 1 + d) (by omega) (by omega) (by omega) (fun k hk => by rw [va_up_lt hk, va_up_lt hk, va_up_lt hk]; exact hcd k hk)) 0 rfl rfl rfl rfl rfl (by first | exact hkc | exact Nat.zero_le _) (by first | exact hks | exact Nat.zero_le _) ?_
            rw [apB_cong (fs' := fs) (fc' := fc) (fw' := fw) (fun j hj => ⟨va_up_lt hj, va_up_lt hj, va_up_lt hj⟩)]
            refine v_ifB_eq (tgt := 133) O dX5_lookThrough_87 (by decide) (fun h5 => ?_) (fun h5 => ?_)
            · refine v_ord [0, 1, 2, 4, 5, 6] ?_
              refine key A ?_
              rw [hst1, stpA, if_neg (fun z => by rw [h5] at z; exact absurd z.2.2 (by decide))]
            · refine v_aload_n O dX5_lookThrough_90 rfl ?_
              refine v_get O dX5_lookThrough_91 flX5_23 0 rfl rfl ?_
              refine v_aload_n O dX5_lookThrough_94 rfl ?_
              refine v_get O dX5_lookThrough_95 flX5_55 0 rfl rfl ?_
              refine v_iload_n O dX5_lookThrough_98 rfl ?_
              refine v_iastN O dX5_lookThrough_99 4 rfl (by decide) (by omega) ?_
              refine v_aload_n O dX5_lookThrough_100 rfl ?_
              refine v_get O dX5_lookThrough_101 flX5_26 0 rfl rfl ?_
              refine v_aload_n O dX5_lookThrough_104 rfl ?_
              refine v_get O dX5_lookThrough_105 flX5_55 0 rfl rfl ?_
              refine v_iload O dX5_lookThrough_108 rfl ?_
              refine v_iastN O dX5_lookThrough_110 5 rfl (by decide) (by omega) ?_
              refine v_aload_n O dX5_lookThrough_111 rfl ?_
              refine v_get O dX5_lookThrough_112 flX5_29 0 rfl rfl ?_
              refine v_aload_n O dX5_lookThrough_115 rfl ?_
              refine v_get O dX5_lookThrough_116 flX5_55 0 rfl rfl ?_
              refine v_iload O dX5_lookThrough_119 rfl ?_
              refine v_iastN O dX5_lookThrough_121 6 rfl (by decide) (by omega) ?_
              refine v_aload_n O dX5_lookThrough_122 rfl ?_
              refine v_get O dX5_lookThrough_123 flX5_32 0 rfl rfl ?_
              refine v_aload_n O dX5_lookThrough_126 rfl ?_
              refine v_get O dX5_lookThrough_127 flX5_55 0 rfl rfl ?_
              refine v_lload O dX5_lookThrough_130 rfl ?_
              refine v_last O dX5_lookThrough_132 7 rfl (by decide) (by omega) ?_
              refine v_ord [0, 1, 2, 4, 5, 6] ?_
              refine v_w (w' := (WMa E ad th n t dr ms pe pw len cod mm fs fc fw sc li lm ls lq hs ((d, q, v + 1, S)))) (by unfold WMa; rw [show va_up fs mm d = va_up (va_up fs mm A.1) mm d from (bx_uu fs mm A.1 d).symm, show va_up fc mm q = va_up (va_up fc mm A.2.1) mm q from (bx_uu fc mm A.2.1 q).symm, show va_up fw mm (v + 1) = va_up (va_up fw mm A.2.2.1) mm (v + 1) from (bx_uu fw mm A.2.2.1 (v + 1)).symm, show vp_updL sc mm S = vp_updL (vp_updL sc mm A.2.2.2) mm S from by funext x; simp only [vp_updL]; by_cases hx : x = mm <;> simp [hx]]; rfl) ?_
              refine key (d, q, v + 1, S) ?_
              rw [hst1, stpA, if_pos ⟨by rw [fa_lt64] at h3; rw [fa_le64]; omega, by rw [fa_le64] at h4; rw [fa_lt64]; omega, h5⟩]
