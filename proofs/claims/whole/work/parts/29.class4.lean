-- the class: candidates
theorem lp_firstWith {E : ET} {G : GT} {R0 : Room} {tb : List ExceptionTableEntry} (O : OKG E G cX0_firstWith RX0 R0 tb) (hN : nLG G = 4) {ad : Nat → Nat} {n t dr : Nat} {pw pe : Nat → Nat} {mk : Nat → Bool} {len : Nat} {cod : Nat → Nat} {fr : Bool} {ls lc u v : Nat} {su sp : Nat → Nat} {tot spr : Nat → Int64} {mm : Nat} {fs fc fw : Nat → Nat} {sc : Nat → Int64} {fe : Nat → Nat} {q : Nat} (hq : q < 48) (hmm : mm ≤ 8) (hcd : ∀ k, k < mm → fs k < 16 ∧ fc k < 48 ∧ 1 ≤ fw k ∧ fw k ≤ 8) (OR : OKR E G (pR (some (.int (fI (inS fs fc fw q) 0 mm))) (WX E ad n t dr pw pe mk len cod fr ls lc u v su sp tot spr mm fs fc fw sc fe)) noX 0 0 (some .int)) : ∀ j i : Nat, i ≤ mm → fI (inS fs fc fw q) 0 mm = fI (inS fs fc fw q) i (mm - i) → j = mm - i → V E G 0 0 2 [(0, .ref (ad 4)), (1, .int (nI q)), (2, .int (nI i))] [] (WX E ad n t dr pw pe mk len cod fr ls lc u v su sp tot spr mm fs fc fw sc fe) := by
  intro j
  induction j using Nat.strongRecOn with
  | _ j ih =>
    intro i hi he hj
    refine v_iload_n O dX0_firstWith_2 rfl ?_
    refine v_aload_n O dX0_firstWith_3 rfl ?_
    refine v_get O dX0_firstWith_4 flX0_9 4 rfl rfl ?_
    refine v_icmpN_ge (tgt := 56) O dX0_firstWith_7 (by decide) (by omega) (by omega) (fun h => ?_) (fun h => ?_)
    · refine v_iconst (v := -1) O dX0_firstWith_56 (by decide) ?_
      exact v_ireturn O OR dX0_firstWith_57 (⟨by rw [he, show mm - i = 0 by omega, fI], rfl⟩) (Nat.le_of_ble_eq_true rfl) (Nat.le_of_ble_eq_true rfl)
    · obtain ⟨a1, a2, a3, a4⟩ := hcd i h
      have e : mm - i = (mm - (i + 1)) + 1 := by omega
      have key : ¬ (fc i ≤ q ∧ q ≤ fc i + fw i - 1 + fs i) → V E G 0 0 50 [(0, .ref (ad 4)), (1, .int (nI q)), (2, .int (nI i))] [] (WX E ad n t dr pw pe mk len cod fr ls lc u v su sp tot spr mm fs fc fw sc fe) := by
        intro hx
        refine v_iincN (b := 1) O dX0_firstWith_50 rfl (by decide) (by rw [hN]; decide) ?_
        refine v_goto (tgt := 2) O dX0_firstWith_53 (by decide) ?_
        refine v_ord [0, 1, 2] ?_
        refine ih (j - 1) (by omega) (i + 1) (by omega) ?_ (by omega)
        rw [he, e, fI, if_neg (by unfold inS; rw [decide_eq_false hx]; decide)]
      refine v_aload_n O dX0_firstWith_10 rfl ?_
      refine v_get O dX0_firstWith_11 flX0_19 4 rfl rfl ?_
      refine v_iload_n O dX0_firstWith_14 rfl ?_
      refine v_iald O dX0_firstWith_15 12 rfl (by decide) (by omega) ?_
      refine v_aload_n O dX0_firstWith_16 rfl ?_
      refine v_get O dX0_firstWith_17 flX0_22 4 rfl rfl ?_
      refine v_iload_n O dX0_firstWith_20 rfl ?_
      refine v_iald O dX0_firstWith_21 13 rfl (by decide) (by omega) ?_
      refine v_iaddN O dX0_firstWith_22 ?_
      refine v_iconst (v := nI 1) O dX0_firstWith_23 (by decide) ?_
      refine v_isubN O dX0_firstWith_24 (by omega) ?_
      refine v_aload_n O dX0_firstWith_25 rfl ?_
      refine v_get O dX0_firstWith_26 flX0_15 4 rfl rfl ?_
      refine v_iload_n O dX0_firstWith_29 rfl ?_
      refine v_iald O dX0_firstWith_30 11 rfl (by decide) (by omega) ?_
      refine v_iaddN O dX0_firstWith_31 ?_
      refine v_istore_n O dX0_firstWith_32 (by rw [hN]; decide) ?_
      refine v_iload_n O dX0_firstWith_33 rfl ?_
      refine v_aload_n O dX0_firstWith_34 rfl ?_
      refine v_get O dX0_firstWith_35 flX0_19 4 rfl rfl ?_
      refine v_iload_n O dX0_firstWith_38 rfl ?_
      refine v_iald O dX0_firstWith_39 12 rfl (by decide) (by omega) ?_
      refine v_icmpN_lt (tgt := 50) O dX0_firstWith_40 (by decide) (by omega) (by omega) (fun h2 => ?_) (fun h2 => ?_)
      · refine v_ord [0, 1, 2] ?_
        exact key (by omega)
      · refine v_iload_n O dX0_firstWith_43 rfl ?_
        refine v_iload_n O dX0_firstWith_44 rfl ?_
        refine v_icmpN_gt (tgt := 50) O dX0_firstWith_45 (by decide) (by omega) (by omega) (fun h3 => ?_) (fun h3 => ?_)
        · refine v_ord [0, 1, 2] ?_
          exact key (by omega)
        · refine v_iload_n O dX0_firstWith_48 rfl ?_
          exact v_ireturn O OR dX0_firstWith_49 (⟨by rw [he, e, fI, if_pos (by unfold inS; rw [decide_eq_true (by omega)])], rfl⟩) (Nat.le_of_ble_eq_true rfl) (Nat.le_of_ble_eq_true rfl)
theorem x_firstWith {E : ET} {ad : Nat → Nat} {n t dr : Nat} {pw pe : Nat → Nat} {mk : Nat → Bool} {len : Nat} {cod : Nat → Nat} {fr : Bool} {ls lc u v : Nat} {su sp : Nat → Nat} {tot spr : Nat → Int64} {mm : Nat} {fs fc fw : Nat → Nat} {sc : Nat → Int64} {fe : Nat → Nat} (hst : E.1.stackTraces = false) (q : Nat) (hq : q < 48) (hmm : mm ≤ 8) (hcd : ∀ k, k < mm → fs k < 16 ∧ fc k < 48 ∧ 1 ≤ fw k ∧ fw k ≤ 8) : Ctr E yX0_firstWith cdX0_firstWith (rmL 1) [.ref (ad 4), .int (nI q)] (WX E ad n t dr pw pe mk len cod fr ls lc u v su sp tot spr mm fs fc fw sc fe) (pR (some (.int (fI (inS fs fc fw q) 0 mm))) (WX E ad n t dr pw pe mk len cod fr ls lc u v su sp tot spr mm fs fc fw sc fe)) noX 0 0 := by
  refine ctr_of hst (by decide) (Nat.le_of_ble_eq_true rfl) (fun G O OR hN => ?_)
  have O : OKG E G cX0_firstWith RX0 (rmL 1) [] := O
  have hN : nLG G = 4 := hN
  refine v_iconst (v := nI 0) O dX0_firstWith_0 (by decide) ?_
  refine v_istore_n O dX0_firstWith_1 (by rw [hN]; decide) ?_
  refine v_ord [0, 1, 2] ?_
  exact lp_firstWith O hN hq hmm hcd OR mm 0 (by omega) rfl (by omega)
/-- a column lies in a candidate's span -/
def cov (fs fc fw : Nat → Nat) (mm q : Nat) : Bool := decide (¬ fI (inS fs fc fw q) 0 mm = -1)
/-- the first of i, i + 1 .. (j of them) with p; else the one behind -/
def fF (p : Nat → Bool) : Nat → Nat → Nat
  | i, 0 => i
  | i, j + 1 => if p i = true then i else fF p (i + 1) j
theorem lp_markFree {E : ET} {G : GT} (O : OKG E G cX0_markFreeEnds RX0 (rmL 2) []) (hN : nLG G = 4) {ad : Nat → Nat} {n t dr : Nat} {pw pe : Nat → Nat} {mk : Nat → Bool} {len : Nat} {cod : Nat → Nat} {fr : Bool} {ls lc u v : Nat} {su sp : Nat → Nat} {tot spr : Nat → Int64} {mm : Nat} {fs fc fw : Nat → Nat} {sc : Nat → Int64} {fe : Nat → Nat} {T : Nat} (hst : E.1.stackTraces = false) (hT : T ≤ 48) (hmm : mm ≤ 8) (hcd : ∀ k, k < mm → fs k < 16 ∧ fc k < 48 ∧ 1 ≤ fw k ∧ fw k ≤ 8) (kk : ∀ fe, (∀ c, c < T → fe c = fF (cov fs fc fw mm) c (T - c)) → V E G 0 0 34 [] [] (WX E ad n t dr pw pe mk len cod fr ls lc u v su sp tot spr mm fs fc fw sc fe)) : ∀ i en : Nat, ∀ fe, i ≤ T → en = fF (cov fs fc fw mm) i (T - i) → (∀ c, i ≤ c → c < T → fe c = fF (cov fs fc fw mm) c (T - c)) → V E G 0 0 6 [(0, .ref (ad 4)), (2, .int (nI en)), (3, .int (nI i - nI 1))] [] (WX E ad n t dr pw pe mk len cod fr ls lc u v su sp tot spr mm fs fc fw sc fe) := by
  intro i
  induction i with
  | zero =>
    intro en fe hi hen hf
    refine v_iload_n O dX0_markFreeEnds_6 rfl ?_
    refine v_if_lt (tgt := 34) O dX0_markFreeEnds_7 (by decide) (fun h => ?_) (fun h => ?_)
    · refine v_ord [] ?_
      exact kk fe (fun c hc => hf c (Nat.zero_le _) hc)
    · exact absurd dI_0 h
  | succ i ih =>
    intro en fe hi hen hf
    rw [dI_s]
    have e : T - i = (T - (i + 1)) + 1 := by omega
    have key : ∀ x, x = fF (cov fs fc fw mm) i (T - i) → V E G 0 0 21 [(0, .ref (ad 4)), (2, .int (nI x)), (3, .int (nI i))] [] (WX E ad n t dr pw pe mk len cod fr ls lc u v su sp tot spr mm fs fc fw sc fe) := by
      intro x hx
      subst hx
      refine v_aload_n O dX0_markFreeEnds_21 rfl ?_
      refine v_get O dX0_markFreeEnds_22 flX0_29 4 rfl rfl ?_
      refine v_iload_n O dX0_markFreeEnds_25 rfl ?_
      refine v_iload_n O dX0_markFreeEnds_26 rfl ?_
      refine v_iastN O dX0_markFreeEnds_27 15 rfl (by decide) (by omega) ?_
      refine v_w (w' := (WX E ad n t dr pw pe mk len cod fr ls lc u v su sp tot spr mm fs fc fw sc (va_up fe i (fF (cov fs fc fw mm) i (T - i))))) rfl ?_
      refine v_iinc O dX0_markFreeEnds_28 rfl (by rw [hN]; decide) ?_
      refine v_goto (tgt := 6) O dX0_markFreeEnds_31 (by decide) ?_
      rw [dI_m]
      refine v_ord [0, 2, 3] ?_
      refine ih _ _ (by omega) rfl (fun c h1 h2 => ?_)
      rcases Nat.eq_or_lt_of_le h1 with g | g
      · subst g
        rw [va_up_at]
      · rw [va_up_off (by omega)]
        exact hf c (by omega) h2
    refine v_iload_n O dX0_markFreeEnds_6 rfl ?_
    refine v_if_lt (tgt := 34) O dX0_markFreeEnds_7 (by decide) (fun h => ?_) (fun h => ?_)
    · exact absurd h (nI_pos (by omega))
    · refine v_aload_n O dX0_markFreeEnds_10 rfl ?_
      refine v_iload_n O dX0_markFreeEnds_11 rfl ?_
      refine v_V1 O dX0_markFreeEnds_12 lkX0_50 (x_firstWith hst i (by omega) hmm hcd) 4 rfl rfl rfl rfl rfl (by first | exact hkc | exact Nat.zero_le _) (by first | exact hks | exact Nat.zero_le _) ?_
      refine v_iconst (v := -1) O dX0_markFreeEnds_15 (by decide) ?_
      refine v_icmp_eq (tgt := 21) O dX0_markFreeEnds_16 (by decide) (fun h2 => ?_) (fun h2 => ?_)
      · refine v_ord [0, 2, 3] ?_
        refine key _ ?_
        rw [e, fF, if_neg (by unfold cov; rw [decide_eq_false (fun z => z h2)]; decide), hen]
      · refine v_iload_n O dX0_markFreeEnds_19 rfl ?_
        refine v_istore_n O dX0_markFreeEnds_20 (by rw [hN]; decide) ?_
        refine v_ord [0, 2, 3] ?_
        refine key _ ?_
        rw [e, fF, if_pos (by unfold cov; rw [decide_eq_true h2])]
theorem x_markFree {E : ET} {ad : Nat → Nat} {n t dr : Nat} {pw pe : Nat → Nat} {mk : Nat → Bool} {len : Nat} {cod : Nat → Nat} {fr : Bool} {ls lc u v : Nat} {su sp : Nat → Nat} {tot spr : Nat → Int64} {mm : Nat} {fs fc fw : Nat → Nat} {sc : Nat → Int64} {fe : Nat → Nat} (hst : E.1.stackTraces = false) (T : Nat) (hT : T ≤ 48) (hmm : mm ≤ 8) (hcd : ∀ k, k < mm → fs k < 16 ∧ fc k < 48 ∧ 1 ≤ fw k ∧ fw k ≤ 8) : Ctr E yX0_markFreeEnds cdX0_markFreeEnds (rmL 2) [.ref (ad 4), .int (nI T)] (WX E ad n t dr pw pe mk len cod fr ls lc u v su sp tot spr mm fs fc fw sc fe) (fun r w' => r = none ∧ ∃ fe, (∀ c, c < T → fe c = fF (cov fs fc fw mm) c (T - c)) ∧ w' = (WX E ad n t dr pw pe mk len cod fr ls lc u v su sp tot spr mm fs fc fw sc fe)) noX 0 0 := by
  refine ctr_of hst (by decide) (Nat.le_of_ble_eq_true rfl) (fun G O OR hN => ?_)
  have O : OKG E G cX0_markFreeEnds RX0 (rmL 2) [] := O
  have hN : nLG G = 4 := hN
  refine v_iload_n O dX0_markFreeEnds_0 rfl ?_
  refine v_istore_n O dX0_markFreeEnds_1 (by rw [hN]; decide) ?_
  refine v_iload_n O dX0_markFreeEnds_2 rfl ?_
  refine v_iconst (v := nI 1) O dX0_markFreeEnds_3 (by decide) ?_
  refine v_isub O dX0_markFreeEnds_4 ?_
  refine v_istore_n O dX0_markFreeEnds_5 (by rw [hN]; decide) ?_
  refine v_ord [0, 2, 3] ?_
  refine lp_markFree (fe := fe) O hN hst hT hmm hcd ?_ T T fe (Nat.le_refl _) (by rw [Nat.sub_self, fF]) (fun c h1 h2 => by omega)
  intro fe hf
  exact v_return O OR dX0_markFreeEnds_34 (⟨rfl, fe, hf, rfl⟩) (Nat.le_of_ble_eq_true rfl) (Nat.le_of_ble_eq_true rfl)
def WXa (E : ET) (ad : Nat → Nat) (n t dr : Nat) (pw pe : Nat → Nat) (mk : Nat → Bool) (len : Nat) (cod : Nat → Nat) (fr : Bool) (ls lc u v : Nat) (su sp : Nat → Nat) (tot spr : Nat → Int64) (mm : Nat) (fs fc fw : Nat → Nat) (sc : Nat → Int64) (fe : Nat → Nat) (a : Acc) : va_W :=
  WX E ad n t dr pw pe mk len cod fr ls lc u v su sp tot spr mm (va_up fs mm a.1) (va_up fc mm a.2.1) (va_up fw mm a.2.2.1) (vp_updL sc mm a.2.2.2) fe
def stpX (d q w : Nat) (s : Int64) (a : Acc) : Acc := if a.2.2.2 < s then (d, q, w, s) else a
def clW (S : Nat → Int64) (d q : Nat) (a : Acc) : Nat → Acc
  | 0 => a
  | v + 1 => stpX d q (v + 1) (S (v + 1)) (clW S d q a v)
/-- the class's score of a box, by its rows -/
def SX (su : Nat → Nat) (tot spr : Nat → Int64) (lc d q w : Nat) : Int64 := scX (nI (lc - d)).toInt64 (tot d) (spr d) (smL (fun i => rowL su d (q + i)) w) w
theorem minW {W0 f d q v : Nat} {x : Int32} (hx : x = if nI f - nI d - nI q < nI W0 then nI f - nI d - nI q else nI W0) (hW : W0 ≤ 8) (hf : f ≤ 48) (hd : d < 16) (hq : q < 48) (hv : v ≤ 9) (hv1 : 1 ≤ v) : x < nI v ↔ min W0 (f - d - q) < v := by
  have e1 : (nI f - nI d - nI q).toInt = (f : Int) - d - q := by
    rw [fb_subI (by rw [pk_sub_toInt (by omega) (by omega), nI_toInt (by omega)]; omega) (by rw [pk_sub_toInt (by omega) (by omega), nI_toInt (by omega)]; omega), pk_sub_toInt (by omega) (by omega), nI_toInt (by omega)]
  rw [hx, fa_lt, nI_toInt (show v < 2 ^ 31 by omega)]
  by_cases h : nI f - nI d - nI q < nI W0
  · rw [if_pos h, e1]
    rw [fa_lt, e1, nI_toInt (by omega)] at h
    omega
  · rw [if_neg h, nI_toInt (by omega)]
    rw [fa_lt, e1, nI_toInt (by omega)] at h
    omega
theorem lp_clW {E : ET} {G : GT} (O : OKG E G cX0_tryBoxes RX0 (rmL 3) []) (hN : nLG G = 11) {ad : Nat → Nat} {n t dr : Nat} {pw pe : Nat → Nat} {mk : Nat → Bool} {len : Nat} {cod : Nat → Nat} {fr : Bool} {ls lc u v : Nat} {su sp : Nat → Nat} {tot spr : Nat → Int64} {mm : Nat} {fs fc fw : Nat → Nat} {sc : Nat → Int64} {fe : Nat → Nat} {d q W0 : Nat} {x : Int32} {a : Acc} (hst : E.1.stackTraces = false) (hlc : lc ≤ 48) (hd : d < 16) (hq : q < 48) (hW : W0 ≤ 8) (hf : fe q ≤ 48) (hmm : mm < 8) (hx : x = if nI (fe q) - nI d - nI q < nI W0 then nI (fe q) - nI d - nI q else nI W0)
    (kk : V E G 0 0 121 [] [] (WXa E ad n t dr pw pe mk len cod fr ls lc u v su sp tot spr mm fs fc fw sc fe (clW (SX su tot spr lc d q) d q a (min W0 (fe q - d - q))))) :
    ∀ j wv : Nat, wv ≤ min W0 (fe q - d - q) → j = min W0 (fe q - d - q) - wv → V E G 0 0 23 [(0, .ref (ad 4)), (1, .ref (ad 3)), (2, .int (nI d)), (3, .int (nI q)), (5, .int x), (6, .long (smL (fun i => rowL su d (q + i)) wv)), (8, .int (nI (wv + 1)))] [] (WXa E ad n t dr pw pe mk len cod fr ls lc u v su sp tot spr mm fs fc fw sc fe (clW (SX su tot spr lc d q) d q a wv)) := by
  intro j
  induction j using Nat.strongRecOn with
  | _ j ih =>
    intro wv hv hj
    have hm := minW (v := wv + 1) hx hW hf hd hq (by omega) (by omega)
    refine v_iload O dX0_tryBoxes_23 rfl ?_
    refine v_iload O dX0_tryBoxes_25 rfl ?_
    refine v_icmp_gt (tgt := 121) O dX0_tryBoxes_27 (by decide) (fun h => ?_) (fun h => ?_)
    · have h := hm.mp h
      have e : min W0 (fe q - d - q) = wv := by omega
      rw [e] at kk
      refine v_ord [] ?_
      exact kk
    · have h : ¬ min W0 (fe q - d - q) < wv + 1 := fun z => h (hm.mpr z)
      have key : ∀ a2 : Acc, a2 = clW (SX su tot spr lc d q) d q a (wv + 1) → V E G 0 0 115 [(0, .ref (ad 4)), (1, .ref (ad 3)), (2, .int (nI d)), (3, .int (nI q)), (5, .int x), (6, .long (smL (fun i => rowL su d (q + i)) (wv + 1))), (8, .int (nI (wv + 1)))] [] (WXa E ad n t dr pw pe mk len cod fr ls lc u v su sp tot spr mm fs fc fw sc fe (a2)) := by
        intro a2 ha2
        subst ha2
        refine v_iincN (b := 1) O dX0_tryBoxes_115 rfl (by decide) (by rw [hN]; decide) ?_
        refine v_goto (tgt := 23) O dX0_tryBoxes_118 (by decide) ?_
        refine v_ord [0, 1, 2, 3, 5, 6, 8] ?_
        exact ih (j - 1) (by omega) (wv + 1) (by omega) (by omega)
      generalize hA : clW (SX su tot spr lc d q) d q a wv = A
      have hstep : clW (SX su tot spr lc d q) d q a (wv + 1) = stpX d q (wv + 1) (SX su tot spr lc d q (wv + 1)) A := by rw [clW, hA]
      refine v_lload O dX0_tryBoxes_30 rfl ?_
      refine v_aload_n O dX0_tryBoxes_32 rfl ?_
      refine v_iload_n O dX0_tryBoxes_33 rfl ?_
      refine v_iload_n O dX0_tryBoxes_34 rfl ?_
      refine v_iload O dX0_tryBoxes_35 rfl ?_
      refine v_iaddN O dX0_tryBoxes_37 ?_
      refine v_iconst (v := nI 1) O dX0_tryBoxes_38 (by decide) ?_
      refine v_isubN O dX0_tryBoxes_39 (by omega) ?_
      refine v_VN1 O dX0_tryBoxes_40 lkX0_59 (x_sumAt hst d (q + (wv + 1) - 1) hd (by omega)) 3 rfl rfl rfl rfl rfl (by first | exact hkc | exact Nat.zero_le _) (by first | exact hks | exact Nat.zero_le _) ?_
      rw [show d * 48 + (q + (wv + 1) - 1) = d * 48 + (q + wv) by omega]
      refine v_i2l O dX0_tryBoxes_43 ?_
      refine v_ladd O dX0_tryBoxes_44 ?_
      refine v_lstore O dX0_tryBoxes_45 (by rw [hN]; decide) ?_
      refine v_aload_n O dX0_tryBoxes_47 rfl ?_
      refine v_iload_n O dX0_tryBoxes_48 rfl ?_
      refine v_iload O dX0_tryBoxes_49 rfl ?_
      refine v_lload O dX0_tryBoxes_51 rfl ?_
      refine v_cv (lv' := _) (st' := [.long (smL (fun i => rowL su d (q + i)) (wv + 1)), .int (nI (wv + 1)), .int (nI d), .ref (ad 3)]) ?_
      refine v_VN1 O dX0_tryBoxes_53 lkX0_62 (x_scoreOf hst hlc d (wv + 1) (smL (fun i => rowL su d (q + i)) (wv + 1)) hd) 3 rfl rfl rfl rfl rfl (by first | exact hkc | exact Nat.zero_le _) (by first | exact hks | exact Nat.zero_le _) ?_
      refine v_st (st' := [.long (SX su tot spr lc d q (wv + 1))]) rfl ?_
      generalize hS : SX su tot spr lc d q (wv + 1) = S at hstep ⊢
      refine v_lstore O dX0_tryBoxes_56 (by rw [hN]; decide) ?_
      refine v_lload O dX0_tryBoxes_58 rfl ?_
      refine v_aload_n O dX0_tryBoxes_60 rfl ?_
      refine v_get O dX0_tryBoxes_61 flX0_25 4 rfl rfl ?_
      refine v_aload_n O dX0_tryBoxes_64 rfl ?_
      refine v_get O dX0_tryBoxes_65 flX0_9 4 rfl rfl ?_
      refine v_lald O dX0_tryBoxes_68 14 rfl (by decide) (by omega) ?_
      refine v_lcmp O dX0_tryBoxes_69 ?_
      refine v_ifC_le (tgt := 115) O dX0_tryBoxes_70 (by decide) (fun h2 => ?_) (fun h2 => ?_)
      · refine v_ord [0, 1, 2, 3, 5, 6, 8] ?_
        refine key A ?_
        have h2 : S ≤ A.2.2.2 := by rw [pk_uLs] at h2; exact h2
        rw [hstep, stpX, if_neg (fun z => by rw [fa_le64] at h2; rw [fa_lt64] at z; omega)]
      · have h2 : ¬ S ≤ A.2.2.2 := by rw [pk_uLs] at h2; exact h2
        refine v_aload_n O dX0_tryBoxes_73 rfl ?_
        refine v_get O dX0_tryBoxes_74 flX0_15 4 rfl rfl ?_
        refine v_aload_n O dX0_tryBoxes_77 rfl ?_
        refine v_get O dX0_tryBoxes_78 flX0_9 4 rfl rfl ?_
        refine v_iload_n O dX0_tryBoxes_81 rfl ?_
        refine v_iastN O dX0_tryBoxes_82 11 rfl (by decide) (by omega) ?_
        refine v_aload_n O dX0_tryBoxes_83 rfl ?_
        refine v_get O dX0_tryBoxes_84 flX0_19 4 rfl rfl ?_
        refine v_aload_n O dX0_tryBoxes_87 rfl ?_
        refine v_get O dX0_tryBoxes_88 flX0_9 4 rfl rfl ?_
        refine v_iload_n O dX0_tryBoxes_91 rfl ?_
        refine v_iastN O dX0_tryBoxes_92 12 rfl (by decide) (by omega) ?_
        refine v_aload_n O dX0_tryBoxes_93 rfl ?_
        refine v_get O dX0_tryBoxes_94 flX0_22 4 rfl rfl ?_
        refine v_aload_n O dX0_tryBoxes_97 rfl ?_
        refine v_get O dX0_tryBoxes_98 flX0_9 4 rfl rfl ?_
        refine v_iload O dX0_tryBoxes_101 rfl ?_
        refine v_iastN O dX0_tryBoxes_103 13 rfl (by decide) (by omega) ?_
        refine v_aload_n O dX0_tryBoxes_104 rfl ?_
        refine v_get O dX0_tryBoxes_105 flX0_25 4 rfl rfl ?_
        refine v_aload_n O dX0_tryBoxes_108 rfl ?_
        refine v_get O dX0_tryBoxes_109 flX0_9 4 rfl rfl ?_
        refine v_lload O dX0_tryBoxes_112 rfl ?_
        refine v_last O dX0_tryBoxes_114 14 rfl (by decide) (by omega) ?_
        refine v_ord [0, 1, 2, 3, 5, 6, 8] ?_
        refine v_w (w' := (WXa E ad n t dr pw pe mk len cod fr ls lc u v su sp tot spr mm fs fc fw sc fe ((d, q, wv + 1, S)))) (by unfold WXa; rw [show va_up fs mm d = va_up (va_up fs mm A.1) mm d from (bx_uu fs mm A.1 d).symm, show va_up fc mm q = va_up (va_up fc mm A.2.1) mm q from (bx_uu fc mm A.2.1 q).symm, show va_up fw mm (wv + 1) = va_up (va_up fw mm A.2.2.1) mm (wv + 1) from (bx_uu fw mm A.2.2.1 (wv + 1)).symm, show vp_updL sc mm S = vp_updL (vp_updL sc mm A.2.2.2) mm S from by funext x; simp only [vp_updL]; by_cases hx : x = mm <;> simp [hx]]; rfl) ?_
        refine key (d, q, wv + 1, S) ?_
        rw [hstep, stpX, if_pos (by rw [fa_le64] at h2; rw [fa_lt64]; omega)]
theorem x_tryBoxes {E : ET} {ad : Nat → Nat} {n t dr : Nat} {pw pe : Nat → Nat} {mk : Nat → Bool} {len : Nat} {cod : Nat → Nat} {fr : Bool} {ls lc u v : Nat} {su sp : Nat → Nat} {tot spr : Nat → Int64} {mm : Nat} {fs fc fw : Nat → Nat} {sc : Nat → Int64} {fe : Nat → Nat} {W0 : Nat} {a : Acc} (hst : E.1.stackTraces = false) (hlc : lc ≤ 48) (d q : Nat) (hd : d < 16) (hq : q < 48) (hW : W0 ≤ 8) (hf : fe q ≤ 48) (hmm : mm < 8) : Ctr E yX0_tryBoxes cdX0_tryBoxes (rmL 3) [.ref (ad 4), .ref (ad 3), .int (nI d), .int (nI q), .int (nI W0)] (WXa E ad n t dr pw pe mk len cod fr ls lc u v su sp tot spr mm fs fc fw sc fe (a)) (pR none (WXa E ad n t dr pw pe mk len cod fr ls lc u v su sp tot spr mm fs fc fw sc fe (clW (SX su tot spr lc d q) d q a (min W0 (fe q - d - q))))) noX 0 0 := by
  refine ctr_of hst (by decide) (Nat.le_of_ble_eq_true rfl) (fun G O OR hN => ?_)
  have O : OKG E G cX0_tryBoxes RX0 (rmL 3) [] := O
  have hN : nLG G = 11 := hN
  refine v_iload O dX0_tryBoxes_0 rfl ?_
  refine v_aload_n O dX0_tryBoxes_2 rfl ?_
  refine v_get O dX0_tryBoxes_3 flX0_29 4 rfl rfl ?_
  refine v_iload_n O dX0_tryBoxes_6 rfl ?_
  refine v_iald O dX0_tryBoxes_7 15 rfl (by decide) (by omega) ?_
  refine v_iload_n O dX0_tryBoxes_8 rfl ?_
  refine v_isub O dX0_tryBoxes_9 ?_
  refine v_iload_n O dX0_tryBoxes_10 rfl ?_
  refine v_isub O dX0_tryBoxes_11 ?_
  refine v_min O dX0_tryBoxes_12 lkX0_53 (by decide) (by decide) (by decide) (by decide) ?_
  generalize hx : (if nI (fe q) - nI d - nI q < nI W0 then nI (fe q) - nI d - nI q else nI W0) = x
  refine v_istore O dX0_tryBoxes_15 (by rw [hN]; decide) ?_
  refine v_lconst (v := 0) O dX0_tryBoxes_17 (by decide) ?_
  refine v_lstore O dX0_tryBoxes_18 (by rw [hN]; decide) ?_
  refine v_iconst (v := nI 1) O dX0_tryBoxes_20 (by decide) ?_
  refine v_istore O dX0_tryBoxes_21 (by rw [hN]; decide) ?_
  refine v_ord [0, 1, 2, 3, 5, 6, 8] ?_
  refine lp_clW (a := a) O hN hst hlc hd hq hW hf hmm hx.symm ?_ (min W0 (fe q - d - q)) 0 (by omega) (by omega)
  exact v_return O OR dX0_tryBoxes_121 (⟨rfl, rfl⟩) (Nat.le_of_ble_eq_true rfl) (Nat.le_of_ble_eq_true rfl)
