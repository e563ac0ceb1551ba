theorem lp_lkQ {E : ET} {G : GT} (O : OKG E G cX5_lookThrough RX5 (rmL 5) []) (hN : nLG G = 9) {ad : Nat → Nat} {th n t dr ms : Nat} {pe pw : Nat → Nat} {len : Nat} {cod : Nat → Nat} {mm : Nat} {fs fc fw : Nat → Nat} {sc : Nat → Int64} {li : Nat → Nat} {lm ls lq hs : Int64} {K d W0 : Nat} {thr : Int64} {a : Acc} (hst : E.1.stackTraces = false) (hK : 1 ≤ K) (hK4 : K ≤ 4) (hn : n = 2 ^ K) (ht : t ≤ 48) (hd : d < n) (hW : W0 ≤ 8) (hmm : mm < 8) (hcd : ∀ k, k < mm → fs k < 16 ∧ fc k < 48 ∧ 1 ≤ fw k ∧ fw k ≤ 8) (hz : ∀ wd, 1 ≤ wd → wd ≤ 8 → 0 < VV ms pw K n t d → ¬ (nI wd).toInt64 * VV ms pw K n t d = 0)
    (hlm : lm = (nI (t - d)).toInt64) (hls : ls = smL (lnL ms pw K n d) (t - d)) (hlq : lq = smL (sqL (lnL ms pw K n d)) (t - d)) (hli : ∀ x, x < t - d → li x = lnN ms pw K n d x)
    (kk : V E G 0 0 145 [] [] (WMa E ad th n t dr ms pe pw len cod mm fs fc fw sc li lm ls lq hs (lkQ thr W0 fs fc fw mm ms pw K n t d a (t - d)))) :
    ∀ j q : Nat, q ≤ t - d → j = t - d - q → V E G 0 0 8 [(0, .ref (ad 0)), (1, .int (nI d)), (2, .long thr), (4, .int (nI W0)), (5, .int (nI q))] [] (WMa E ad th n t dr ms pe pw len cod mm fs fc fw sc li lm ls lq hs (lkQ thr W0 fs fc fw mm ms pw K n t d a q)) := by
  obtain ⟨g1, g2⟩ := two_le hn hK hK4
  intro j
  induction j using Nat.strongRecOn with
  | _ j ih =>
    intro q hq hj
    refine v_iload O dX5_lookThrough_8 rfl ?_
    refine v_aload_n O dX5_lookThrough_10 rfl ?_
    refine v_iload_n O dX5_lookThrough_11 rfl ?_
    refine v_V1 O dX5_lookThrough_12 lkX5_111 (c_linesOfM hst ht d (by omega)) 0 rfl rfl rfl rfl rfl (by first | exact hkc | exact Nat.zero_le _) (by first | exact hks | exact Nat.zero_le _) ?_
    refine v_icmpN_ge (tgt := 145) O dX5_lookThrough_15 (by decide) (by omega) (by omega) (fun h => ?_) (fun h => ?_)
    · have e : q = t - d := by omega
      subst e
      refine v_ord [] ?_
      exact kk
    · refine v_iconst (v := nI 1) O dX5_lookThrough_18 (by decide) ?_
      refine v_istore O dX5_lookThrough_19 (by rw [hN]; decide) ?_
      refine v_ord [0, 1, 2, 4, 5, 6] ?_
      refine lp_lkW O hN hst hK hK4 hn ht hd (q := q) (by omega) hW hmm hcd hz hlm hls hlq hli ?_ (min W0 (t - d - q)) 0 (by omega) (by omega)
      refine v_iincN (b := 1) O dX5_lookThrough_139 rfl (by decide) (by rw [hN]; decide) ?_
      refine v_goto (tgt := 8) O dX5_lookThrough_142 (by decide) ?_
      refine v_ord [0, 1, 2, 4, 5] ?_
      exact ih (j - 1) (by omega) (q + 1) (by omega) (by omega)
theorem c_lookThrough {E : ET} {ad : Nat → Nat} {th n t dr ms : Nat} {pe pw : Nat → Nat} {len : Nat} {cod : Nat → Nat} {mm : Nat} {fs fc fw : Nat → Nat} {sc : Nat → Int64} {li : Nat → Nat} {lm ls lq hs : Int64} {K W0 : Nat} {thr : Int64} {a : Acc} (hst : E.1.stackTraces = false) (hK : 1 ≤ K) (hK4 : K ≤ 4) (hn : n = 2 ^ K) (hm : ms < 65536) (ht : t ≤ 48) (d : Nat) (hd : d < n) (hW : W0 ≤ 8) (hmm : mm < 8) (hcd : ∀ k, k < mm → fs k < 16 ∧ fc k < 48 ∧ 1 ≤ fw k ∧ fw k ≤ 8) (hz : ∀ wd, 1 ≤ wd → wd ≤ 8 → 0 < VV ms pw K n t d → ¬ (nI wd).toInt64 * VV ms pw K n t d = 0) : Ctr E yX5_lookThrough cdX5_lookThrough (rmL 5) [.ref (ad 0), .int (nI d), .long thr, .int (nI W0)] (WMa E ad th n t dr ms pe pw len cod mm fs fc fw sc li lm ls lq hs (a)) (pR none (WMa E ad th n t dr ms pe pw len cod mm fs fc fw sc (liF ms pw K n t d li) ((nI (t - d)).toInt64) (smL (lnL ms pw K n d) (t - d)) (smL (sqL (lnL ms pw K n d)) (t - d)) hs (lkQ thr W0 fs fc fw mm ms pw K n t d a (t - d)))) noX 0 0 := by
  obtain ⟨g1, g2⟩ := two_le hn hK hK4
  refine ctr_of hst (by decide) (Nat.le_of_ble_eq_true rfl) (fun G O OR hN => ?_)
  have O : OKG E G cX5_lookThrough RX5 (rmL 5) [] := O
  have hN : nLG G = 9 := hN
  refine v_aload_n O dX5_lookThrough_0 rfl ?_
  refine v_iload_n O dX5_lookThrough_1 rfl ?_
  refine v_V0 O dX5_lookThrough_2 lkX5_139 (c_layLines hst hK hK4 hn hm ht d hd) 0 rfl rfl rfl rfl rfl (by first | exact hkc | exact Nat.zero_le _) (by first | exact hks | exact Nat.zero_le _) ?_
  refine v_iconst (v := nI 0) O dX5_lookThrough_5 (by decide) ?_
  refine v_istore O dX5_lookThrough_6 (by rw [hN]; decide) ?_
  refine v_ord [0, 1, 2, 4, 5] ?_
  refine lp_lkQ (li := liF ms pw K n t d li) (lm := (nI (t - d)).toInt64) (ls := smL (lnL ms pw K n d) (t - d)) (lq := smL (sqL (lnL ms pw K n d)) (t - d)) (a := a) O hN hst hK hK4 hn ht hd hW hmm hcd hz rfl rfl rfl (fun x hx => fl2_in hx) ?_ (t - d) 0 (by omega) (by omega)
  exact v_return O OR dX5_lookThrough_145 (⟨rfl, rfl⟩) (Nat.le_of_ble_eq_true rfl) (Nat.le_of_ble_eq_true rfl)
def lkD (thr : Int64) (W0 : Nat) (fs fc fw : Nat → Nat) (mm ms : Nat) (pw : Nat → Nat) (K n t : Nat) (a : Acc) : Nat → Acc
  | 0 => a
  | d + 1 => lkQ thr W0 fs fc fw mm ms pw K n t d (lkD thr W0 fs fc fw mm ms pw K n t a d) (t - d)
theorem lp_lkD {E : ET} {G : GT} (O : OKG E G cX5_findNext RX5 (rmL 6) []) (hN : nLG G = 5) {ad : Nat → Nat} {th n t dr ms : Nat} {pe pw : Nat → Nat} {len : Nat} {cod : Nat → Nat} {mm : Nat} {fs fc fw : Nat → Nat} {sc : Nat → Int64} {li : Nat → Nat} {lm ls lq hs : Int64} {K W0 : Nat} {thr : Int64} {a : Acc} (hst : E.1.stackTraces = false) (hK : 1 ≤ K) (hK4 : K ≤ 4) (hn : n = 2 ^ K) (hm : ms < 65536) (ht : t ≤ 48) (hW : W0 ≤ 8) (hmm : mm < 8) (hcd : ∀ k, k < mm → fs k < 16 ∧ fc k < 48 ∧ 1 ≤ fw k ∧ fw k ≤ 8) (hz : ∀ d, d < n → ∀ wd, 1 ≤ wd → wd ≤ 8 → 0 < VV ms pw K n t d → ¬ (nI wd).toInt64 * VV ms pw K n t d = 0)
    (kk : ∀ li lm ls lq, V E G 0 0 36 [(0, .ref (ad 0))] [] (WMa E ad th n t dr ms pe pw len cod mm fs fc fw sc li lm ls lq hs (lkD thr W0 fs fc fw mm ms pw K n t a n))) :
    ∀ j d : Nat, ∀ li lm ls lq, d ≤ n → j = n - d → V E G 0 0 13 [(0, .ref (ad 0)), (1, .long thr), (3, .int (nI W0)), (4, .int (nI d))] [] (WMa E ad th n t dr ms pe pw len cod mm fs fc fw sc li lm ls lq hs (lkD thr W0 fs fc fw mm ms pw K n t a d)) := by
  obtain ⟨g1, g2⟩ := two_le hn hK hK4
  intro j
  induction j using Nat.strongRecOn with
  | _ j ih =>
    intro d li lm ls lq hd hj
    refine v_iload O dX5_findNext_13 rfl ?_
    refine v_aload_n O dX5_findNext_15 rfl ?_
    refine v_get O dX5_findNext_16 flX5_7 0 rfl rfl ?_
    refine v_icmpN_ge (tgt := 36) O dX5_findNext_19 (by decide) (by omega) (by omega) (fun h => ?_) (fun h => ?_)
    · have e : d = n := by omega
      subst e
      refine v_ord [0] ?_
      exact kk li lm ls lq
    · refine v_aload_n O dX5_findNext_22 rfl ?_
      refine v_iload O dX5_findNext_23 rfl ?_
      refine v_lload_n O dX5_findNext_25 rfl ?_
      refine v_iload_n O dX5_findNext_26 rfl ?_
      refine v_V0 O dX5_findNext_27 lkX5_151 (c_lookThrough hst hK hK4 hn hm ht d h hW hmm hcd (hz d h)) 0 rfl rfl rfl rfl rfl (by first | exact hkc | exact Nat.zero_le _) (by first | exact hks | exact Nat.zero_le _) ?_
      refine v_iincN (b := 1) O dX5_findNext_30 rfl (by decide) (by rw [hN]; decide) ?_
      refine v_goto (tgt := 13) O dX5_findNext_33 (by decide) ?_
      refine v_ord [0, 1, 3, 4] ?_
      exact ih (j - 1) (by omega) (d + 1) _ _ _ _ (by omega) (by omega)
/-- the next candidate: the best box, at the place mm -/
def fnx (thr : Int64) (W0 : Nat) (fs fc fw : Nat → Nat) (mm ms : Nat) (pw : Nat → Nat) (K n t : Nat) : Acc := lkD thr W0 fs fc fw mm ms pw K n t (fs mm, fc mm, fw mm, 0) n
theorem va_up_self' (f : Nat → Nat) (k : Nat) : va_up f k (f k) = f := by
  funext q
  simp only [va_up]
  by_cases h : q = k <;> simp [h]
theorem c_findNext {E : ET} {ad : Nat → Nat} {th n t dr ms : Nat} {pe pw : Nat → Nat} {len : Nat} {cod : Nat → Nat} {mm : Nat} {fs fc fw : Nat → Nat} {sc : Nat → Int64} {li : Nat → Nat} {lm ls lq hs : Int64} {K W0 : Nat} {thr : Int64} (hst : E.1.stackTraces = false) (hK : 1 ≤ K) (hK4 : K ≤ 4) (hn : n = 2 ^ K) (hm : ms < 65536) (ht : t ≤ 48) (hW : W0 ≤ 8) (hmm : mm < 8) (hcd : ∀ k, k < mm → fs k < 16 ∧ fc k < 48 ∧ 1 ≤ fw k ∧ fw k ≤ 8) (hz : ∀ d, d < n → ∀ wd, 1 ≤ wd → wd ≤ 8 → 0 < VV ms pw K n t d → ¬ (nI wd).toInt64 * VV ms pw K n t d = 0) : Ctr E yX5_findNext cdX5_findNext (rmL 6) [.ref (ad 0), .long thr, .int (nI W0)] (WM E ad th n t dr ms pe pw len cod mm fs fc fw sc li lm ls lq hs) (fun r w' => r = some (.int (bI (decide (0 < (fnx thr W0 fs fc fw mm ms pw K n t).2.2.2)))) ∧ ∃ li lm ls lq, w' = (WMa E ad th n t dr ms pe pw len cod mm fs fc fw sc li lm ls lq hs (fnx thr W0 fs fc fw mm ms pw K n t))) noX 0 0 := by
  refine ctr_of hst (by decide) (Nat.le_of_ble_eq_true rfl) (fun G O OR hN => ?_)
  have O : OKG E G cX5_findNext RX5 (rmL 6) [] := O
  have hN : nLG G = 5 := hN
  refine v_aload_n O dX5_findNext_0 rfl ?_
  refine v_get O dX5_findNext_1 flX5_32 0 rfl rfl ?_
  refine v_aload_n O dX5_findNext_4 rfl ?_
  refine v_get O dX5_findNext_5 flX5_55 0 rfl rfl ?_
  refine v_lconst (v := 0) O dX5_findNext_8 (by decide) ?_
  refine v_last O dX5_findNext_9 7 rfl (by decide) (by omega) ?_
  refine v_iconst (v := nI 0) O dX5_findNext_10 (by decide) ?_
  refine v_istore O dX5_findNext_11 (by rw [hN]; decide) ?_
  refine v_ord [0, 1, 3, 4] ?_
  refine v_w (w' := (WMa E ad th n t dr ms pe pw len cod mm fs fc fw sc li lm ls lq hs ((fs mm, fc mm, fw mm, 0)))) (by unfold WMa; rw [va_up_self', va_up_self', va_up_self']; rfl) ?_
  refine lp_lkD (li := li) (lm := lm) (ls := ls) (lq := lq) (a := (fs mm, fc mm, fw mm, 0)) O hN hst hK hK4 hn hm ht hW hmm hcd hz ?_ n 0 li lm ls lq (by omega) (by omega)
  intro li lm ls lq
  refine v_aload_n O dX5_findNext_36 rfl ?_
  refine v_get O dX5_findNext_37 flX5_32 0 rfl rfl ?_
  refine v_aload_n O dX5_findNext_40 rfl ?_
  refine v_get O dX5_findNext_41 flX5_55 0 rfl rfl ?_
  refine v_lald O dX5_findNext_44 7 rfl (by decide) (by omega) ?_
  refine v_lconst (v := 0) O dX5_findNext_45 (by decide) ?_
  refine v_lcmp O dX5_findNext_46 ?_
  refine v_ifC_le (tgt := 54) O dX5_findNext_47 (by decide) (fun h => ?_) (fun h => ?_)
  · refine v_iconst (v := nI 0) O dX5_findNext_54 (by decide) ?_
    have h : ¬ 0 < (fnx thr W0 fs fc fw mm ms pw K n t).2.2.2 := by rw [pk_uLs] at h; exact le0_64.mp h
    exact v_zreturn O OR dX5_findNext_55 (by decide) (⟨by rw [decide_eq_false h]; rfl, li, lm, ls, lq, rfl⟩) (Nat.le_of_ble_eq_true rfl) (Nat.le_of_ble_eq_true rfl)
  · refine v_iconst (v := nI 1) O dX5_findNext_50 (by decide) ?_
    refine v_goto (tgt := 55) O dX5_findNext_51 (by decide) ?_
    have h : 0 < (fnx thr W0 fs fc fw mm ms pw K n t).2.2.2 := by rw [pk_uLs] at h; exact Classical.not_not.mp (fun z => h (le0_64.mpr z))
    exact v_zreturn O OR dX5_findNext_55 (by decide) (⟨by rw [decide_eq_true h]; rfl, li, lm, ls, lq, rfl⟩) (Nat.le_of_ble_eq_true rfl) (Nat.le_of_ble_eq_true rfl)
-- the candidates, one after the other
abbrev FA : Type := (Nat → Nat) × (Nat → Nat) × (Nat → Nat) × (Nat → Int64)
def putA (F : FA) (k : Nat) (a : Acc) : FA := (va_up F.1 k a.1, va_up F.2.1 k a.2.1, va_up F.2.2.1 k a.2.2.1, vp_updL F.2.2.2 k a.2.2.2)
def fnF (thr : Int64) (W0 ms : Nat) (pw : Nat → Nat) (K n t : Nat) (F : FA) (k : Nat) : Acc := fnx thr W0 F.1 F.2.1 F.2.2.1 k ms pw K n t
def fdA (thr : Int64) (W0 ms : Nat) (pw : Nat → Nat) (K n t : Nat) (F : FA) : Nat → FA
  | 0 => F
  | k + 1 => putA (fdA thr W0 ms pw K n t F k) k (fnF thr W0 ms pw K n t (fdA thr W0 ms pw K n t F k) k)
def okF (thr : Int64) (W0 ms : Nat) (pw : Nat → Nat) (K n t : Nat) (F : FA) (k : Nat) : Bool := decide (0 < (fnF thr W0 ms pw K n t (fdA thr W0 ms pw K n t F k) k).2.2.2)
/-- how many are found -/
def fdN (thr : Int64) (W0 ms : Nat) (pw : Nat → Nat) (K n t : Nat) (F : FA) : Nat := fa_first (fun k => !okF thr W0 ms pw K n t F k) 8
theorem lkW_ok {thr : Int64} {ap : Nat → Bool} {S : Nat → Int64} {d q : Nat} {a : Acc} (P : Acc → Prop) (ha : P a) : ∀ N : Nat, (∀ v s, v < N → P (d, q, v + 1, s)) → P (lkW thr ap S d q a N)
  | 0, _ => ha
  | v + 1, h => by
    have ih := lkW_ok (thr := thr) (ap := ap) (S := S) P ha v (fun v s hv => h v s (by omega))
    rw [lkW, stpA]
    split
    · exact h v _ (by omega)
    · exact ih
theorem lkQ_ok {thr : Int64} {W0 : Nat} {fs fc fw : Nat → Nat} {mm ms : Nat} {pw : Nat → Nat} {K n t d : Nat} {a : Acc} (P : Acc → Prop) (ha : P a) : ∀ N : Nat, (∀ q v s, q < N → v < W0 → q + v < t - d → P (d, q, v + 1, s)) → P (lkQ thr W0 fs fc fw mm ms pw K n t d a N)
  | 0, _ => ha
  | q + 1, h => by
    have ih := lkQ_ok (thr := thr) (W0 := W0) (fs := fs) (fc := fc) (fw := fw) (mm := mm) (ms := ms) (pw := pw) (K := K) (n := n) P ha q (fun q v s hq hv hx => h q v s (by omega) hv hx)
    rw [lkQ]
    exact lkW_ok P ih _ (fun v s hv => h q v s (by omega) (by omega) (by omega))
theorem lkD_ok {thr : Int64} {W0 : Nat} {fs fc fw : Nat → Nat} {mm ms : Nat} {pw : Nat → Nat} {K n t : Nat} {a : Acc} (P : Acc → Prop) (ha : P a) : ∀ N : Nat, (∀ d q v s, d < N → v < W0 → q + v < t - d → P (d, q, v + 1, s)) → P (lkD thr W0 fs fc fw mm ms pw K n t a N)
  | 0, _ => ha
  | d + 1, h => by
    have ih := lkD_ok (thr := thr) (W0 := W0) (fs := fs) (fc := fc) (fw := fw) (mm := mm) (ms := ms) (pw := pw) (K := K) (n := n) (t := t) P ha d (fun d q v s hd hv hx => h d q v s (by omega) hv hx)
    rw [lkD]
    exact lkQ_ok P ih _ (fun q v s hq hv hx => h d q v s (by omega) hv hx)
/-- a box's numbers -/
def bxOK (n t W0 : Nat) (a : Acc) : Prop := a.1 < n ∧ 1 ≤ a.2.2.1 ∧ a.2.2.1 ≤ W0 ∧ a.2.1 + a.2.2.1 + a.1 ≤ t
theorem fnx_ok {thr : Int64} {W0 : Nat} {fs fc fw : Nat → Nat} {mm ms : Nat} {pw : Nat → Nat} {K n t : Nat} (h : 0 < (fnx thr W0 fs fc fw mm ms pw K n t).2.2.2) : bxOK n t W0 (fnx thr W0 fs fc fw mm ms pw K n t) := by
  have h1 : ¬ 0 < (fnx thr W0 fs fc fw mm ms pw K n t).2.2.2 ∨ bxOK n t W0 (fnx thr W0 fs fc fw mm ms pw K n t) := by
    unfold fnx
    refine lkD_ok (fun a => ¬ 0 < a.2.2.2 ∨ bxOK n t W0 a) (Or.inl (by show ¬ (0 : Int64) < 0; decide)) n (fun d q v s hd hv hx => Or.inr ⟨hd, by show 1 ≤ v + 1; omega, by show v + 1 ≤ W0; omega, by show q + (v + 1) + d ≤ t; omega⟩)
  exact h1.elim (fun z => absurd h z) id
theorem fdA_lt {thr : Int64} {W0 ms : Nat} {pw : Nat → Nat} {K n t : Nat} {F : FA} {j : Nat} : ∀ {k : Nat}, j < k → (fdA thr W0 ms pw K n t F k).1 j = (fnF thr W0 ms pw K n t (fdA thr W0 ms pw K n t F j) j).1 ∧ (fdA thr W0 ms pw K n t F k).2.1 j = (fnF thr W0 ms pw K n t (fdA thr W0 ms pw K n t F j) j).2.1 ∧ (fdA thr W0 ms pw K n t F k).2.2.1 j = (fnF thr W0 ms pw K n t (fdA thr W0 ms pw K n t F j) j).2.2.1 ∧ (fdA thr W0 ms pw K n t F k).2.2.2 j = (fnF thr W0 ms pw K n t (fdA thr W0 ms pw K n t F j) j).2.2.2
  | 0, h => absurd h (Nat.not_lt_zero j)
  | k + 1, h => by
    by_cases e : j = k
    · subst e
      simp [fdA, putA, va_up, vp_updL]
    · have ih := fdA_lt (thr := thr) (W0 := W0) (ms := ms) (pw := pw) (K := K) (n := n) (t := t) (F := F) (show j < k by omega)
      simp only [fdA, putA, va_up, vp_updL, if_neg e]
      exact ih
theorem fdA_cd {thr : Int64} {W0 ms : Nat} {pw : Nat → Nat} {K n t : Nat} {F : FA} {k : Nat} (hn : n ≤ 16) (ht : t ≤ 48) (hW : W0 ≤ 8) (hok : ∀ j, j < k → okF thr W0 ms pw K n t F j = true) : ∀ j, j < k → (fdA thr W0 ms pw K n t F k).1 j < 16 ∧ (fdA thr W0 ms pw K n t F k).2.1 j < 48 ∧ 1 ≤ (fdA thr W0 ms pw K n t F k).2.2.1 j ∧ (fdA thr W0 ms pw K n t F k).2.2.1 j ≤ 8 := by
  intro j hj
  obtain ⟨e1, e2, e3, -⟩ := fdA_lt (thr := thr) (W0 := W0) (ms := ms) (pw := pw) (K := K) (n := n) (t := t) (F := F) hj
  obtain ⟨b1, b2, b3, b4⟩ := fnx_ok (of_decide_eq_true (hok j hj))
  rw [e1, e2, e3]
  unfold fnF
  omega
theorem fdN_of {thr : Int64} {W0 ms : Nat} {pw : Nat → Nat} {K n t : Nat} {F : FA} {i : Nat} (hi : i ≤ 8) (h : ∀ j, j < i → okF thr W0 ms pw K n t F j = true) (h2 : i = 8 ∨ okF thr W0 ms pw K n t F i = false) : fdN thr W0 ms pw K n t F = i := by
  unfold fdN
  have a1 := fa_first_le (fun k => !okF thr W0 ms pw K n t F k) 8
  have a2 := fa_first_no (fun k => !okF thr W0 ms pw K n t F k) 8
  have a3 := fa_first_yes (fun k => !okF thr W0 ms pw K n t F k) 8
  rcases Nat.lt_trichotomy (fa_first (fun k => !okF thr W0 ms pw K n t F k) 8) i with q | q | q
  · have b1 := a3 (by omega)
    have b2 := h _ q
    simp only [b2] at b1
    cases b1
  · exact q
  · have b1 := a2 i q
    rcases h2 with e | e
    · omega
    · simp only [e] at b1
      cases b1
/-- two arrays of candidates that hold the same m -/
def sameF (m : Nat) (F F' : FA) : Prop := ∀ j, j < m → F.1 j = F'.1 j ∧ F.2.1 j = F'.2.1 j ∧ F.2.2.1 j = F'.2.2.1 j ∧ F.2.2.2 j = F'.2.2.2 j
theorem lp_findM {E : ET} {G : GT} (O : OKG E G cX5_find RX5 (rmL 7) []) (hN : nLG G = 4) {ad : Nat → Nat} {th n t dr ms : Nat} {pe pw : Nat → Nat} {len : Nat} {cod : Nat → Nat} {mm : Nat} {fs fc fw : Nat → Nat} {sc : Nat → Int64} {li : Nat → Nat} {lm ls lq hs : Int64} {K W0 : Nat} {thr : Int64} (hst : E.1.stackTraces = false) (hK : 1 ≤ K) (hK4 : K ≤ 4) (hn : n = 2 ^ K) (hm : ms < 65536) (ht : t ≤ 48) (hW : W0 ≤ 8) (hz : ∀ d, d < n → ∀ wd, 1 ≤ wd → wd ≤ 8 → 0 < VV ms pw K n t d → ¬ (nI wd).toInt64 * VV ms pw K n t d = 0) {F : FA}
    (kk : ∀ (F' : FA) li lm ls lq, sameF (fdN thr W0 ms pw K n t F) F' (fdA thr W0 ms pw K n t F (fdN thr W0 ms pw K n t F)) → V E G 0 0 70 [(0, .ref (ad 0))] [] (WM E ad th n t dr ms pe pw len cod (fdN thr W0 ms pw K n t F) (F'.1) (F'.2.1) (F'.2.2.1) (F'.2.2.2) li lm ls lq hs)) :
    ∀ j k : Nat, ∀ li lm ls lq, k ≤ 8 → (∀ i, i < k → okF thr W0 ms pw K n t F i = true) → j = 8 - k → V E G 0 0 39 [(0, .ref (ad 0)), (1, .long thr), (3, .int (nI W0))] [] (WM E ad th n t dr ms pe pw len cod (k) ((fdA thr W0 ms pw K n t F k).1) ((fdA thr W0 ms pw K n t F k).2.1) ((fdA thr W0 ms pw K n t F k).2.2.1) ((fdA thr W0 ms pw K n t F k).2.2.2) li lm ls lq hs) := by
  obtain ⟨g1, g2⟩ := two_le hn hK hK4
  intro j
  induction j using Nat.strongRecOn with
  | _ j ih =>
    intro k li lm ls lq hk hok hj
    refine v_aload_n O dX5_find_39 rfl ?_
    refine v_get O dX5_find_40 flX5_55 0 rfl rfl ?_
    refine v_bipush (v := nI 8) O dX5_find_43 (by decide) ?_
    refine v_icmpN_ge (tgt := 70) O dX5_find_45 (by decide) (by omega) (by omega) (fun h => ?_) (fun h => ?_)
    · have e : fdN thr W0 ms pw K n t F = k := fdN_of hk hok (Or.inl (by omega))
      rw [e] at kk
      refine v_ord [0] ?_
      exact kk (fdA thr W0 ms pw K n t F k) li lm ls lq (fun _ _ => ⟨rfl, rfl, rfl, rfl⟩)
    · refine v_aload_n O dX5_find_48 rfl ?_
      refine v_lload_n O dX5_find_49 rfl ?_
      refine v_iload_n O dX5_find_50 rfl ?_
      refine v_callV (mc := 0) (ms := 0) O dX5_find_51 lkX5_155 (c_findNext hst hK hK4 hn hm ht hW h (fdA_cd g2 ht hW hok) hz) 0 rfl rfl rfl rfl rfl (fun r9 u9 h9 => ?_) kx_no
      obtain ⟨rfl, li, lm, ls, lq, rfl⟩ := h9
      refine v_ifB_eq (tgt := 70) O dX5_find_54 (by decide) (fun h2 => ?_) (fun h2 => ?_)
      · have e : fdN thr W0 ms pw K n t F = k := fdN_of hk hok (Or.inr h2)
        rw [e] at kk
        refine v_ord [0] ?_
        refine kk (putA (fdA thr W0 ms pw K n t F k) k (fnF thr W0 ms pw K n t (fdA thr W0 ms pw K n t F k) k)) li lm ls lq (fun j hj => ?_)
        simp only [putA, va_up, vp_updL, if_neg (show ¬ j = k by omega)]
        exact ⟨trivial, trivial, trivial, trivial⟩
      · refine v_aload_n O dX5_find_57 rfl ?_
        refine v_dup O dX5_find_58 rfl ?_
        refine v_get O dX5_find_59 flX5_55 0 rfl rfl ?_
        refine v_iconst (v := nI 1) O dX5_find_62 (by decide) ?_
        refine v_iaddN O dX5_find_63 ?_
        refine v_put (ty := .int) O dX5_find_64 flX5_55 ftX5 0 rfl rfl (by decide +kernel) rfl rfl (Nat.le_of_ble_eq_true rfl) ?_
        refine v_goto (tgt := 39) O dX5_find_67 (by decide) ?_
        refine v_ord [0, 1, 3] ?_
        exact ih (j - 1) (by omega) (k + 1) li lm ls lq (by omega) (fun i hi => by
          rcases Nat.lt_or_ge i k with g | g
          · exact hok i g
          · rw [show i = k by omega]; exact h2) (by omega)
theorem m_find {E : ET} {ad : Nat → Nat} {th n t dr ms : Nat} {pe pw : Nat → Nat} {len : Nat} {cod : Nat → Nat} {mm : Nat} {fs fc fw : Nat → Nat} {sc : Nat → Int64} {li : Nat → Nat} {lm ls lq hs : Int64} {K : Nat} (hst : E.1.stackTraces = false) (hK : 1 ≤ K) (hK4 : K ≤ 4) (hn : n = 2 ^ K) (hm : ms < 65536) (ht : t ≤ 48) (hz : ∀ d, d < n → ∀ wd, 1 ≤ wd → wd ≤ 8 → 0 < VV ms pw K n t d → ¬ (nI wd).toInt64 * VV ms pw K n t d = 0) (thr : Int64) (hthr : 0 ≤ thr) (W0 : Nat) (hW1 : 1 ≤ W0) (hW : W0 ≤ 8) : Ctr E yX5_find cdX5_find (rmL 7) [.ref (ad 0), .long thr, .int (nI W0)] (WM E ad th n t dr ms pe pw len cod mm fs fc fw sc li lm ls lq hs) (fun r w' => r = some (.int (nI (fdN thr W0 ms pw K n t (fs, fc, fw, sc)))) ∧ ∃ (F' : FA) (li : Nat → Nat) (lm ls lq : Int64), sameF (fdN thr W0 ms pw K n t (fs, fc, fw, sc)) F' (fdA thr W0 ms pw K n t (fs, fc, fw, sc) (fdN thr W0 ms pw K n t (fs, fc, fw, sc))) ∧ w' = (WM E ad (0) n t dr ms pe pw len cod (fdN thr W0 ms pw K n t (fs, fc, fw, sc)) (F'.1) (F'.2.1) (F'.2.2.1) (F'.2.2.2) li lm ls lq hs)) noX 0 0 := by
  refine ctr_of hst (by decide) (Nat.le_of_ble_eq_true rfl) (fun G O OR hN => ?_)
  have O : OKG E G cX5_find RX5 (rmL 7) [] := O
  have hN : nLG G = 4 := hN
  refine v_aload_n O dX5_find_0 rfl ?_
  refine v_lload_n O dX5_find_1 rfl ?_
  refine v_lconst (v := 0) O dX5_find_2 (by decide) ?_
  refine v_lcmp O dX5_find_3 ?_
  refine v_ifC_lt (tgt := 21) O dX5_find_4 (by decide) (fun h => ?_) (fun h => ?_)
  · exact absurd h (by rw [fa_lt64]; rw [fa_le64] at hthr; omega)
  · refine v_iload_n O dX5_find_7 rfl ?_
    refine v_iconst (v := nI 1) O dX5_find_8 (by decide) ?_
    refine v_bipush (v := nI 8) O dX5_find_9 (by decide) ?_
    refine v_S1 O dX5_find_11 lkX5_42 (c_withinN hst W0 1 8 (by omega) (by decide) (by decide)) rfl rfl rfl (by first | exact hkc | exact Nat.zero_le _) (by first | exact hks | exact Nat.zero_le _) ?_
    refine v_ifB_eq (tgt := 21) O dX5_find_14 (by decide) (fun h2 => ?_) (fun h2 => ?_)
    · exact absurd h2 (by simp; omega)
    · refine v_iconst (v := nI 0) O dX5_find_17 (by decide) ?_
      refine v_goto (tgt := 22) O dX5_find_18 (by decide) ?_
      refine v_put (ty := .int) O dX5_find_22 flX5_39 ftX5 0 rfl rfl (by decide +kernel) rfl rfl (Nat.le_of_ble_eq_true rfl) ?_
      refine v_aload_n O dX5_find_25 rfl ?_
      refine v_get O dX5_find_26 flX5_39 0 rfl rfl ?_
      refine v_ifN_le (tgt := 34) O dX5_find_29 (by decide) (by omega) (fun h3 => ?_) (fun h3 => ?_)
      · refine v_aload_n O dX5_find_34 rfl ?_
        refine v_iconst (v := nI 0) O dX5_find_35 (by decide) ?_
        refine v_put (ty := .int) O dX5_find_36 flX5_55 ftX5 0 rfl rfl (by decide +kernel) rfl rfl (Nat.le_of_ble_eq_true rfl) ?_
        refine v_ord [0, 1, 3] ?_
        refine v_w (w' := (WM E ad (0) n t dr ms pe pw len cod (0) ((fdA thr W0 ms pw K n t (fs, fc, fw, sc) 0).1) ((fdA thr W0 ms pw K n t (fs, fc, fw, sc) 0).2.1) ((fdA thr W0 ms pw K n t (fs, fc, fw, sc) 0).2.2.1) ((fdA thr W0 ms pw K n t (fs, fc, fw, sc) 0).2.2.2) li lm ls lq hs)) rfl ?_
        refine lp_findM (mm := mm) (fs := fs) (fc := fc) (fw := fw) (sc := sc) (li := li) (lm := lm) (ls := ls) (lq := lq) (F := (fs, fc, fw, sc)) O hN hst hK hK4 hn hm ht hW hz ?_ 8 0 li lm ls lq (by omega) (fun i hi => by omega) (by omega)
        intro F' li lm ls lq hF
        refine v_aload_n O dX5_find_70 rfl ?_
        refine v_get O dX5_find_71 flX5_55 0 rfl rfl ?_
        exact v_ireturn O OR dX5_find_74 (⟨rfl, F', li, lm, ls, lq, hF, rfl⟩) (Nat.le_of_ble_eq_true rfl) (Nat.le_of_ble_eq_true rfl)
      · omega
theorem mx_find {E : ET} {ad : Nat → Nat} {th n t dr ms : Nat} {pe pw : Nat → Nat} {len : Nat} {cod : Nat → Nat} {mm : Nat} {fs fc fw : Nat → Nat} {sc : Nat → Int64} {li : Nat → Nat} {lm ls lq hs : Int64} (hst : E.1.stackTraces = false) (thr : Int64) (x : Int32) (hx : ¬ (0 ≤ thr ∧ (nI 1 ≤ x ∧ x ≤ nI 8))) : Ctr E yX5_find cdX5_find (rmL 7) [.ref (ad 0), .long thr, .int x] (WM E ad th n t dr ms pe pw len cod mm fs fc fw sc li lm ls lq hs) (pR (some (.int (nI 0))) (WM E ad (1) n t dr ms pe pw len cod mm fs fc fw sc li lm ls lq hs)) noX 0 0 := by
  refine ctr_of hst (by decide) (Nat.le_of_ble_eq_true rfl) (fun G O OR hN => ?_)
  have O : OKG E G cX5_find RX5 (rmL 7) [] := O
  have hN : nLG G = 4 := hN
  have key : V E G 0 0 21 [(0, .ref (ad 0)), (1, .long thr), (3, .int x)] [.ref (ad 0)] (WM E ad th n t dr ms pe pw len cod mm fs fc fw sc li lm ls lq hs) := by
    refine v_iconst (v := nI 1) O dX5_find_21 (by decide) ?_
    refine v_put (ty := .int) O dX5_find_22 flX5_39 ftX5 0 rfl rfl (by decide +kernel) rfl rfl (Nat.le_of_ble_eq_true rfl) ?_
    refine v_aload_n O dX5_find_25 rfl ?_
    refine v_get O dX5_find_26 flX5_39 0 rfl rfl ?_
    refine v_ifN_le (tgt := 34) O dX5_find_29 (by decide) (by omega) (fun h3 => ?_) (fun h3 => ?_)
    · omega
    · refine v_iconst (v := nI 0) O dX5_find_32 (by decide) ?_
      exact v_ireturn O OR dX5_find_33 (⟨rfl, rfl⟩) (Nat.le_of_ble_eq_true rfl) (Nat.le_of_ble_eq_true rfl)
  refine v_aload_n O dX5_find_0 rfl ?_
  refine v_lload_n O dX5_find_1 rfl ?_
  refine v_lconst (v := 0) O dX5_find_2 (by decide) ?_
  refine v_lcmp O dX5_find_3 ?_
  refine v_ifC_lt (tgt := 21) O dX5_find_4 (by decide) (fun h => ?_) (fun h => ?_)
  · exact key
  · refine v_iload_n O dX5_find_7 rfl ?_
    refine v_iconst (v := nI 1) O dX5_find_8 (by decide) ?_
    refine v_bipush (v := nI 8) O dX5_find_9 (by decide) ?_
    refine v_S1 O dX5_find_11 lkX5_42 (c_within hst x (nI 1) (nI 8)) rfl rfl rfl (by first | exact hkc | exact Nat.zero_le _) (by first | exact hks | exact Nat.zero_le _) ?_
    refine v_ifB_eq (tgt := 21) O dX5_find_14 (by decide) (fun h2 => ?_) (fun h2 => ?_)
    · exact key
    · exact absurd ⟨by rw [fa_lt64] at h; rw [fa_le64]; omega, of_decide_eq_true h2⟩ hx
