-- find
def fnXF (S : Nat → Nat → Nat → Int64) (W0 : Nat) (le : Int64) (n t : Nat) (F : FA) (k : Nat) : Acc := fnX S W0 le F.1 F.2.1 F.2.2.1 k n t
def fdX (S : Nat → Nat → Nat → Int64) (W0 : Nat) (le : Int64) (n t : Nat) (F : FA) : Nat → FA
  | 0 => F
  | k + 1 => putA (fdX S W0 le n t F k) k (fnXF S W0 le n t (fdX S W0 le n t F k) k)
def okX (S : Nat → Nat → Nat → Int64) (W0 : Nat) (le : Int64) (n t : Nat) (F : FA) (k : Nat) : Bool := decide (le ≤ (fnXF S W0 le n t (fdX S W0 le n t F k) k).2.2.2)
def fdXN (S : Nat → Nat → Nat → Int64) (W0 : Nat) (le : Int64) (n t : Nat) (F : FA) : Nat := fa_first (fun k => !okX S W0 le n t F k) 8
theorem clW_ok {S : Nat → Int64} {d q : Nat} {a : Acc} (P : Acc → Prop) (ha : P a) : ∀ N : Nat, (∀ v s, v < N → P (d, q, v + 1, s)) → P (clW S d q a N)
  | 0, _ => ha
  | v + 1, h => by
    have ih := clW_ok (S := S) P ha v (fun v s hv => h v s (by omega))
    rw [clW, stpX]
    split
    · exact h v _ (by omega)
    · exact ih
theorem clQ_ok {S : Nat → Nat → Nat → Int64} {W0 : Nat} {fe : Nat → Nat} {d : Nat} {a : Acc} (P : Acc → Prop) (ha : P a) : ∀ N : Nat, (∀ q v s, q < N → v < W0 → q + v + d < fe q → P (d, q, v + 1, s)) → P (clQ S W0 fe d a N)
  | 0, _ => ha
  | q + 1, h => by
    have ih := clQ_ok (S := S) (W0 := W0) (fe := fe) P ha q (fun q v s hq hv hx => h q v s (by omega) hv hx)
    rw [clQ]
    exact clW_ok P ih _ (fun v s hv => h q v s (by omega) (by omega) (by omega))
theorem clD_ok {S : Nat → Nat → Nat → Int64} {W0 : Nat} {fe : Nat → Nat} {lc : Nat} {a : Acc} (P : Acc → Prop) (ha : P a) : ∀ N : Nat, (∀ d q v s, d < N → q < lc - d → v < W0 → q + v + d < fe q → P (d, q, v + 1, s)) → P (clD S W0 fe lc a N)
  | 0, _ => ha
  | d + 1, h => by
    have ih := clD_ok (S := S) (W0 := W0) (fe := fe) (lc := lc) P ha d (fun d q v s hd hq hv hx => h d q v s (by omega) hq hv hx)
    rw [clD]
    exact clQ_ok P ih _ (fun q v s hq hv hx => h d q v s (by omega) hq hv hx)
theorem le_pred {le : Int64} (h : 1 ≤ le) : ¬ le ≤ le - 1 := by
  have h1 := fb_rngL le
  rw [fa_le64, show (1 : Int64).toInt = 1 from rfl] at h
  rw [fa_le64, fb_subL (by rw [show (1 : Int64).toInt = 1 from rfl]; omega) (by rw [show (1 : Int64).toInt = 1 from rfl]; omega), show (1 : Int64).toInt = 1 from rfl]
  omega
theorem fnX_ok {S : Nat → Nat → Nat → Int64} {W0 : Nat} {le : Int64} {fs fc fw : Nat → Nat} {mm n t : Nat} (hle : 1 ≤ le) (h : le ≤ (fnX S W0 le fs fc fw mm n t).2.2.2) : bxOK n t W0 (fnX S W0 le fs fc fw mm n t) := by
  have h1 : ¬ le ≤ (fnX S W0 le fs fc fw mm n t).2.2.2 ∨ bxOK n t W0 (fnX S W0 le fs fc fw mm n t) := by
    unfold fnX
    refine clD_ok (fun a => ¬ le ≤ a.2.2.2 ∨ bxOK n t W0 a) (Or.inl (le_pred hle)) n (fun d q v s hd hq hv hx => Or.inr ⟨hd, by show 1 ≤ v + 1; omega, by show v + 1 ≤ W0; omega, ?_⟩)
    show q + (v + 1) + d ≤ t
    have h3 : feT fs fc fw mm t q ≤ q + (t - q) := fF_le q (t - q)
    omega
  exact h1.elim (fun z => absurd h z) id
theorem fdX_lt {S : Nat → Nat → Nat → Int64} {W0 : Nat} {le : Int64} {n t : Nat} {F : FA} {j : Nat} : ∀ {k : Nat}, j < k → (fdX S W0 le n t F k).1 j = (fnXF S W0 le n t (fdX S W0 le n t F j) j).1 ∧ (fdX S W0 le n t F k).2.1 j = (fnXF S W0 le n t (fdX S W0 le n t F j) j).2.1 ∧ (fdX S W0 le n t F k).2.2.1 j = (fnXF S W0 le n t (fdX S W0 le n t F j) j).2.2.1 ∧ (fdX S W0 le n t F k).2.2.2 j = (fnXF S W0 le n t (fdX S W0 le n t F j) j).2.2.2
  | 0, h => absurd h (Nat.not_lt_zero j)
  | k + 1, h => by
    by_cases e : j = k
    · subst e
      simp [fdX, putA, va_up, vp_updL]
    · have ih := fdX_lt (S := S) (W0 := W0) (le := le) (n := n) (t := t) (F := F) (show j < k by omega)
      simp only [fdX, putA, va_up, vp_updL, if_neg e]
      exact ih
theorem fdX_cd {S : Nat → Nat → Nat → Int64} {W0 : Nat} {le : Int64} {n t : Nat} {F : FA} {k : Nat} (hle : 1 ≤ le) (hn : n ≤ 16) (ht : t ≤ 48) (hW : W0 ≤ 8) (hok : ∀ j, j < k → okX S W0 le n t F j = true) : ∀ j, j < k → (fdX S W0 le n t F k).1 j < 16 ∧ (fdX S W0 le n t F k).2.1 j < 48 ∧ 1 ≤ (fdX S W0 le n t F k).2.2.1 j ∧ (fdX S W0 le n t F k).2.2.1 j ≤ 8 := by
  intro j hj
  obtain ⟨e1, e2, e3, -⟩ := fdX_lt (S := S) (W0 := W0) (le := le) (n := n) (t := t) (F := F) hj
  obtain ⟨b1, b2, b3, b4⟩ := fnX_ok hle (of_decide_eq_true (hok j hj))
  rw [e1, e2, e3]
  unfold fnXF
  omega
theorem fst_of {p : Nat → Bool} {i N : Nat} (hi : i ≤ N) (h : ∀ j, j < i → p j = true) (h2 : i = N ∨ p i = false) : fa_first (fun k => !p k) N = i := by
  have a1 := fa_first_le (fun k => !p k) N
  have a2 := fa_first_no (fun k => !p k) N
  have a3 := fa_first_yes (fun k => !p k) N
  rcases Nat.lt_trichotomy (fa_first (fun k => !p k) N) i with q | q | q
  · have b1 := a3 (by omega)
    have b2 := h _ q
    simp only [b2] at b1
    cases b1
  · exact q
  · have b1 := a2 i q
    rcases h2 with e | e
    · omega
    · simp only [e] at b1
      cases b1
theorem lp_find {E : ET} {G : GT} (O : OKG E G cX4_find RX4 (rmL 5) []) (hN : nLG G = 7) {ad : Nat → Nat} {n t dr : Nat} {pw pe : Nat → Nat} {mk : Nat → Bool} {len : Nat} {cod : Nat → Nat} {fr : Bool} {ls lc u v : Nat} {su sp : Nat → Nat} {tot spr : Nat → Int64} {mm : Nat} {fs fc fw : Nat → Nat} {sc : Nat → Int64} {fe : Nat → Nat} {W0 : Nat} {thr le : Int64} (hst : E.1.stackTraces = false) (hle : 1 ≤ le) (hls : ls = n) (hlc : lc = t) (hn : n ≤ 16) (ht : t ≤ 48) (hW : W0 ≤ 8) {F : FA}
    (kk : ∀ (F' : FA) fe, sameF (fdXN (SX su tot spr t) W0 le n t F) F' (fdX (SX su tot spr t) W0 le n t F (fdXN (SX su tot spr t) W0 le n t F)) → V E G 0 0 82 [(0, .ref (ad 0))] [] (WX E ad n t dr pw pe mk len cod fr ls lc u v su sp tot spr (fdXN (SX su tot spr t) W0 le n t F) (F'.1) (F'.2.1) (F'.2.2.1) (F'.2.2.2) fe)) :
    ∀ j k : Nat, ∀ fe, k ≤ 8 → (∀ i, i < k → okX (SX su tot spr t) W0 le n t F i = true) → j = 8 - k → V E G 0 0 49 [(0, .ref (ad 0)), (1, .long thr), (3, .int (nI W0)), (4, .long le), (6, .int (nI k))] [] (WX E ad n t dr pw pe mk len cod fr ls lc u v su sp tot spr (k) ((fdX (SX su tot spr t) W0 le n t F k).1) ((fdX (SX su tot spr t) W0 le n t F k).2.1) ((fdX (SX su tot spr t) W0 le n t F k).2.2.1) ((fdX (SX su tot spr t) W0 le n t F k).2.2.2) fe) := by
  subst hls
  subst hlc
  intro j
  induction j using Nat.strongRecOn with
  | _ j ih =>
    intro k fe hk hok hj
    refine v_iload O dX4_find_49 rfl ?_
    refine v_bipush (v := nI 8) O dX4_find_51 (by decide) ?_
    refine v_icmpN_ge (tgt := 82) O dX4_find_53 (by decide) (by omega) (by omega) (fun h => ?_) (fun h => ?_)
    · have e : fdXN (SX su tot spr lc) W0 le ls lc F = k := fst_of hk hok (Or.inl (by omega))
      rw [e] at kk
      refine v_ord [0] ?_
      exact kk (fdX (SX su tot spr lc) W0 le ls lc F k) fe (fun _ _ => ⟨rfl, rfl, rfl, rfl⟩)
    · refine v_aload_n O dX4_find_56 rfl ?_
      refine v_get O dX4_find_57 flX4_33 0 rfl rfl ?_
      refine v_aload_n O dX4_find_60 rfl ?_
      refine v_get O dX4_find_61 flX4_26 0 rfl rfl ?_
      refine v_lload O dX4_find_64 rfl ?_
      refine v_iload_n O dX4_find_66 rfl ?_
      refine v_callVN (mc := 0) (ms := 0) O dX4_find_67 lkX4_184 (x_addBest hst hn ht hW h (fdX_cd hle hn ht hW hok)) 4 rfl rfl rfl rfl rfl (fun r9 u9 h9 => ?_) kx_no
      obtain ⟨rfl, fe, rfl⟩ := h9
      refine v_ifB_ne (tgt := 76) O dX4_find_70 (by decide) (fun h2 => ?_) (fun h2 => ?_)
      · have h3 := of_decide_eq_true h2
        rw [if_pos h3]
        refine v_iincN (b := 1) O dX4_find_76 rfl (by decide) (by rw [hN]; decide) ?_
        refine v_goto (tgt := 49) O dX4_find_79 (by decide) ?_
        refine v_ord [0, 1, 3, 4, 6] ?_
        exact ih (j - 1) (by omega) (k + 1) fe (by omega) (fun i hi => by
          rcases Nat.lt_or_ge i k with g | g
          · exact hok i g
          · rw [show i = k by omega]; exact h2) (by omega)
      · have h3 := of_decide_eq_false h2
        rw [if_neg h3]
        have e : fdXN (SX su tot spr lc) W0 le ls lc F = k := fst_of hk hok (Or.inr h2)
        rw [e] at kk
        refine v_goto (tgt := 82) O dX4_find_73 (by decide) ?_
        refine v_ord [0] ?_
        refine kk (putA (fdX (SX su tot spr lc) W0 le ls lc F k) k (fnXF (SX su tot spr lc) W0 le ls lc (fdX (SX su tot spr lc) W0 le ls lc F k) k)) fe (fun j hj => ?_)
        simp only [putA, va_up, vp_updL, if_neg (show ¬ j = k by omega)]
        exact ⟨trivial, trivial, trivial, trivial⟩
def lst (thr : Int64) : Int64 := if 1 < thr then thr else 1
theorem lst_1 (thr : Int64) : 1 ≤ lst thr := by
  unfold lst
  split
  · rename_i h
    rw [fa_lt64] at h
    rw [fa_le64]
    omega
  · decide
theorem k_find {E : ET} {ad : Nat → Nat} {n t dr : Nat} {pw pe : Nat → Nat} {mk : Nat → Bool} {len : Nat} {cod : Nat → Nat} {fr : Bool} {ls lc u v : Nat} {su sp : Nat → Nat} {tot spr : Nat → Int64} {mm : Nat} {fs fc fw : Nat → Nat} {sc : Nat → Int64} {fe : Nat → Nat} {K : Nat} (hst : E.1.stackTraces = false) (hK : 1 ≤ K) (hK4 : K ≤ 4) (hn : n = 2 ^ K) (ht : t ≤ 48) (hfr : fr = true → ls = n ∧ lc = t ∧ LnOK mk pw K n t su tot spr) (thr : Int64) (hthr : 0 ≤ thr) (W0 : Nat) (hW1 : 1 ≤ W0) (hW : W0 ≤ 8) : Ctr E yX4_find cdX4_find (rmL 5) [.ref (ad 0), .long thr, .int (nI W0)] (WX E ad n t dr pw pe mk len cod fr ls lc u v su sp tot spr mm fs fc fw sc fe) (fun r w' => ∃ u v su sp tot spr fe, ∃ F' : FA, LnOK mk pw K n t su tot spr ∧ r = some (.int (nI (fdXN (SX su tot spr t) W0 (lst thr) n t (fs, fc, fw, sc)))) ∧ sameF (fdXN (SX su tot spr t) W0 (lst thr) n t (fs, fc, fw, sc)) F' (fdX (SX su tot spr t) W0 (lst thr) n t (fs, fc, fw, sc) (fdXN (SX su tot spr t) W0 (lst thr) n t (fs, fc, fw, sc))) ∧ w' = (WX E ad n t dr pw pe mk len cod (true) (n) (t) u v su sp tot spr (fdXN (SX su tot spr t) W0 (lst thr) n t (fs, fc, fw, sc)) (F'.1) (F'.2.1) (F'.2.2.1) (F'.2.2.2) fe)) noX 0 0 := by
  obtain ⟨g1, g2⟩ := two_le hn hK hK4
  refine ctr_of hst (by decide) (Nat.le_of_ble_eq_true rfl) (fun G O OR hN => ?_)
  have O : OKG E G cX4_find RX4 (rmL 5) [] := O
  have hN : nLG G = 7 := hN
  refine v_lload_n O dX4_find_0 rfl ?_
  refine v_lconst (v := 0) O dX4_find_1 (by decide) ?_
  refine v_lcmp O dX4_find_2 ?_
  refine v_ifC_ge (tgt := 16) O dX4_find_3 (by decide) (fun h => ?_) (fun h => ?_)
  · refine v_iload_n O dX4_find_16 rfl ?_
    refine v_S0 O dX4_find_17 lkX4_166 (r_width hst W0 ⟨hW1, hW⟩) rfl rfl rfl (by first | exact hkc | exact Nat.zero_le _) (by first | exact hks | exact Nat.zero_le _) ?_
    refine v_aload_n O dX4_find_20 rfl ?_
    refine v_get O dX4_find_21 flX4_26 0 rfl rfl ?_
    refine v_aload_n O dX4_find_24 rfl ?_
    refine v_get O dX4_find_25 flX4_10 0 rfl rfl ?_
    refine v_callVN (mc := 0) (ms := 0) O dX4_find_28 lkX4_152 (x_refresh hst hK hK4 hn ht hfr) 3 rfl rfl rfl rfl rfl (fun r9 u9 h9 => ?_) kx_no
    obtain ⟨rfl, u, v, su, sp, tot, spr, hL, rfl⟩ := h9
    refine v_aload_n O dX4_find_31 rfl ?_
    refine v_get O dX4_find_32 flX4_33 0 rfl rfl ?_
    refine v_iconst (v := nI 0) O dX4_find_35 (by decide) ?_
    refine v_putN (ty := .int) O dX4_find_36 flX4_123 ftX0 4 rfl rfl (by decide +kernel) rfl rfl (Nat.le_of_ble_eq_true rfl) ?_
    refine v_lload_n O dX4_find_39 rfl ?_
    refine v_lconst (v := 1) O dX4_find_40 (by decide) ?_
    refine v_maxL O dX4_find_41 lkX4_178 (by decide) (Nat.le_of_ble_eq_true rfl) (by decide) (by decide) ?_
    refine v_lstore O dX4_find_44 (by rw [hN]; decide) ?_
    refine v_iconst (v := nI 0) O dX4_find_46 (by decide) ?_
    refine v_istore O dX4_find_47 (by rw [hN]; decide) ?_
    refine v_ord [0, 1, 3, 4, 6] ?_
    refine v_w (w' := (WX E ad n t dr pw pe mk len cod (true) (n) (t) u v su sp tot spr (0) ((fdX (SX su tot spr t) W0 (lst thr) n t (fs, fc, fw, sc) 0).1) ((fdX (SX su tot spr t) W0 (lst thr) n t (fs, fc, fw, sc) 0).2.1) ((fdX (SX su tot spr t) W0 (lst thr) n t (fs, fc, fw, sc) 0).2.2.1) ((fdX (SX su tot spr t) W0 (lst thr) n t (fs, fc, fw, sc) 0).2.2.2) fe)) rfl ?_
    refine lp_find (mm := mm) (fs := fs) (fc := fc) (fw := fw) (sc := sc) (fe := fe) (le := lst thr) (F := (fs, fc, fw, sc)) O hN hst (lst_1 thr) rfl rfl g2 ht hW ?_ 8 0 fe (by omega) (fun i hi => by omega) (by omega)
    intro F' fe hF
    refine v_aload_n O dX4_find_82 rfl ?_
    refine v_get O dX4_find_83 flX4_33 0 rfl rfl ?_
    refine v_getN O dX4_find_86 flX4_123 4 rfl rfl ?_
    exact v_ireturn O OR dX4_find_89 (⟨u, v, su, sp, tot, spr, fe, F', hL, rfl, hF, rfl⟩) (Nat.le_of_ble_eq_true rfl) (Nat.le_of_ble_eq_true rfl)
  · exact absurd hthr h
theorem kx_find {E : ET} {ad : Nat → Nat} {n t dr : Nat} {pw pe : Nat → Nat} {mk : Nat → Bool} {len : Nat} {cod : Nat → Nat} {fr : Bool} {ls lc u v : Nat} {su sp : Nat → Nat} {tot spr : Nat → Int64} {mm : Nat} {fs fc fw : Nat → Nat} {sc : Nat → Int64} {fe : Nat → Nat} (hst : E.1.stackTraces = false) (thr : Int64) (x : Int32) (hx : ¬ (0 ≤ thr ∧ (nI 1 ≤ x ∧ x ≤ nI 8))) : Ctr E yX4_find cdX4_find (rmT 8) [.ref (ad 0), .long thr, .int x] (WX E ad n t dr pw pe mk len cod fr ls lc u v su sp tot spr mm fs fc fw sc fe) noR (pX sIAE (WX E ad n t dr pw pe mk len cod fr ls lc u v su sp tot spr mm fs fc fw sc fe)) 1 6 := by
  refine ctr_of hst (by decide) (Nat.le_of_ble_eq_true rfl) (fun G O OR hN => ?_)
  have O : OKG E G cX4_find RX4 (rmT 8) [] := O
  have hN : nLG G = 7 := hN
  refine v_lload_n O dX4_find_0 rfl ?_
  refine v_lconst (v := 0) O dX4_find_1 (by decide) ?_
  refine v_lcmp O dX4_find_2 ?_
  refine v_ifC_ge (tgt := 16) O dX4_find_3 (by decide) (fun h => ?_) (fun h => ?_)
  · refine v_iload_n O dX4_find_16 rfl ?_
    exact v_callS (mc := 1) (ms := 6) O dX4_find_17 lkX4_166 (rx_width hst x (fun z => hx ⟨h, z⟩)) rfl rfl rfl kk_no (fun X9 u9 h9 => by obtain ⟨rfl, rfl⟩ := h9; exact vx_pass O OR ⟨rfl, rfl⟩ (Nat.le_of_ble_eq_true rfl) (Nat.le_of_ble_eq_true rfl))
  · exact v_throw O OR th_37_176 dX4_find_6 dX4_find_9 dX4_find_10 dX4_find_12 dX4_find_15 ⟨rfl, rfl⟩ (by decide) (Nat.le_of_ble_eq_true rfl) (Nat.le_of_ble_eq_true rfl) (Nat.le_of_ble_eq_true rfl) (Nat.le_of_ble_eq_true rfl) (Nat.le_of_ble_eq_true rfl)
-- digest
theorem x_mix {E : ET} {w : va_W} (hst : E.1.stackTraces = false) (h x : Int64) : Ctr E yX4_mix cdX4_mix (rmL 1) [.long h, .long x] w (pR (some (.long (mx h x))) w) noX 0 0 := by
  refine ctr_of hst (by decide) (Nat.le_of_ble_eq_true rfl) (fun G O OR hN => ?_)
  have O : OKG E G cX4_mix RX4 (rmL 1) [] := O
  have hN : nLG G = 4 := hN
  refine v_ldc2 O dX4_mix_0 clX4_231 ?_
  refine v_lload_n O dX4_mix_3 rfl ?_
  refine v_lmul O dX4_mix_4 ?_
  refine v_lload_n O dX4_mix_5 rfl ?_
  refine v_ladd O dX4_mix_6 ?_
  exact v_lreturn O OR dX4_mix_7 (⟨rfl, rfl⟩) (Nat.le_of_ble_eq_true rfl) (Nat.le_of_ble_eq_true rfl)
theorem lp_mixChannels {E : ET} {G : GT} (O : OKG E G cX4_mixChannels RX4 (rmL 3) []) (hN : nLG G = 6) {ad : Nat → Nat} {n t dr : Nat} {pw pe : Nat → Nat} {mk : Nat → Bool} {len : Nat} {cod : Nat → Nat} {fr : Bool} {ls lc u v : Nat} {su sp : Nat → Nat} {tot spr : Nat → Int64} {mm : Nat} {fs fc fw : Nat → Nat} {sc : Nat → Int64} {fe : Nat → Nat} {h : Int64} (hst : E.1.stackTraces = false) (hn : n ≤ 16) (ht : t ≤ 48) (kk : V E G 0 0 77 [(3, .long (mxC mk pw pe t h n))] [] (WX E ad n t dr pw pe mk len cod fr ls lc u v su sp tot spr mm fs fc fw sc fe)) : ∀ j c : Nat, c ≤ n → j = n - c → V E G 0 0 5 [(0, .ref (ad 0)), (3, .long (mxC mk pw pe t h c)), (5, .int (nI c))] [] (WX E ad n t dr pw pe mk len cod fr ls lc u v su sp tot spr mm fs fc fw sc fe) := by
  intro j
  induction j using Nat.strongRecOn with
  | _ j ih =>
    intro c hc hj
    refine v_iload O dX4_mixChannels_5 rfl ?_
    refine v_aload_n O dX4_mixChannels_7 rfl ?_
    refine v_get O dX4_mixChannels_8 flX4_10 0 rfl rfl ?_
    refine v_getN O dX4_mixChannels_11 flX4_44 1 rfl rfl ?_
    refine v_icmpN_ge (tgt := 77) O dX4_mixChannels_14 (by decide) (by omega) (by omega) (fun h9 => ?_) (fun h9 => ?_)
    · have e : c = n := by omega
      subst e
      refine v_ord [3] ?_
      exact kk
    · have key : V E G 0 0 36 [(0, .ref (ad 0)), (3, .long (mxC mk pw pe t h c)), (5, .int (nI c))] [.long (if mk c = true then 1 else 0), .long (mxC mk pw pe t h c)] (WX E ad n t dr pw pe mk len cod fr ls lc u v su sp tot spr mm fs fc fw sc fe) := by
        refine v_S1 O dX4_mixChannels_36 lkX4_212 (x_mix hst (mxC mk pw pe t h c) (if mk c = true then 1 else 0)) rfl rfl rfl (by first | exact hkc | exact Nat.zero_le _) (by first | exact hks | exact Nat.zero_le _) ?_
        refine v_lstore_n O dX4_mixChannels_39 (by rw [hN]; decide) ?_
        refine v_lload_n O dX4_mixChannels_40 rfl ?_
        refine v_aload_n O dX4_mixChannels_41 rfl ?_
        refine v_get O dX4_mixChannels_42 flX4_10 0 rfl rfl ?_
        refine v_iload O dX4_mixChannels_45 rfl ?_
        refine v_VN1 O dX4_mixChannels_47 lkX4_132 (c_sumOfChannel hst (c := c) (by omega) ht) 1 rfl rfl rfl rfl rfl (by first | exact hkc | exact Nat.zero_le _) (by first | exact hks | exact Nat.zero_le _) ?_
        refine v_i2l O dX4_mixChannels_50 ?_
        refine v_S1 O dX4_mixChannels_51 lkX4_212 (x_mix hst _ (nI (chs pw c t)).toInt64) rfl rfl rfl (by first | exact hkc | exact Nat.zero_le _) (by first | exact hks | exact Nat.zero_le _) ?_
        refine v_lstore_n O dX4_mixChannels_54 (by rw [hN]; decide) ?_
        refine v_lload_n O dX4_mixChannels_55 rfl ?_
        refine v_aload_n O dX4_mixChannels_56 rfl ?_
        refine v_get O dX4_mixChannels_57 flX4_10 0 rfl rfl ?_
        refine v_getN O dX4_mixChannels_60 flX4_60 1 rfl rfl ?_
        refine v_iload O dX4_mixChannels_63 rfl ?_
        refine v_iald O dX4_mixChannels_65 6 rfl (by decide) (by omega) ?_
        refine v_i2l O dX4_mixChannels_66 ?_
        refine v_S1 O dX4_mixChannels_67 lkX4_212 (x_mix hst _ (nI (pe c)).toInt64) rfl rfl rfl (by first | exact hkc | exact Nat.zero_le _) (by first | exact hks | exact Nat.zero_le _) ?_
        refine v_lstore_n O dX4_mixChannels_70 (by rw [hN]; decide) ?_
        refine v_iincN (b := 1) O dX4_mixChannels_71 rfl (by decide) (by rw [hN]; decide) ?_
        refine v_goto (tgt := 5) O dX4_mixChannels_74 (by decide) ?_
        refine v_ord [0, 3, 5] ?_
        exact ih (j - 1) (by omega) (c + 1) (by omega) (by omega)
      refine v_lload_n O dX4_mixChannels_17 rfl ?_
      refine v_aload_n O dX4_mixChannels_18 rfl ?_
      refine v_get O dX4_mixChannels_19 flX4_10 0 rfl rfl ?_
      refine v_getN O dX4_mixChannels_22 flX4_128 1 rfl rfl ?_
      refine v_iload O dX4_mixChannels_25 rfl ?_
      refine v_zald O dX4_mixChannels_27 7 rfl (by decide) (by omega) ?_
      refine v_ifB_eq (tgt := 35) O dX4_mixChannels_28 (by decide) (fun h2 => ?_) (fun h2 => ?_)
      · refine v_lconst (v := 0) O dX4_mixChannels_35 (by decide) ?_
        refine v_st ?_ key
        rw [h2]
        rfl
      · refine v_lconst (v := 1) O dX4_mixChannels_31 (by decide) ?_
        refine v_goto (tgt := 36) O dX4_mixChannels_32 (by decide) ?_
        refine v_st ?_ key
        rw [h2]
        rfl
theorem x_mixChannels {E : ET} {ad : Nat → Nat} {n t dr : Nat} {pw pe : Nat → Nat} {mk : Nat → Bool} {len : Nat} {cod : Nat → Nat} {fr : Bool} {ls lc u v : Nat} {su sp : Nat → Nat} {tot spr : Nat → Int64} {mm : Nat} {fs fc fw : Nat → Nat} {sc : Nat → Int64} {fe : Nat → Nat} (hst : E.1.stackTraces = false) (hn : n ≤ 16) (ht : t ≤ 48) (h : Int64) : Ctr E yX4_mixChannels cdX4_mixChannels (rmL 3) [.ref (ad 0), .long h] (WX E ad n t dr pw pe mk len cod fr ls lc u v su sp tot spr mm fs fc fw sc fe) (pR (some (.long (mxC mk pw pe t h n))) (WX E ad n t dr pw pe mk len cod fr ls lc u v su sp tot spr mm fs fc fw sc fe)) noX 0 0 := by
  refine ctr_of hst (by decide) (Nat.le_of_ble_eq_true rfl) (fun G O OR hN => ?_)
  have O : OKG E G cX4_mixChannels RX4 (rmL 3) [] := O
  have hN : nLG G = 6 := hN
  refine v_lload_n O dX4_mixChannels_0 rfl ?_
  refine v_lstore_n O dX4_mixChannels_1 (by rw [hN]; decide) ?_
  refine v_iconst (v := nI 0) O dX4_mixChannels_2 (by decide) ?_
  refine v_istore O dX4_mixChannels_3 (by rw [hN]; decide) ?_
  refine v_ord [0, 3, 5] ?_
  refine lp_mixChannels (h := h) O hN hst hn ht ?_ n 0 (by omega) (by omega)
  refine v_lload_n O dX4_mixChannels_77 rfl ?_
  exact v_lreturn O OR dX4_mixChannels_78 (⟨rfl, rfl⟩) (Nat.le_of_ble_eq_true rfl) (Nat.le_of_ble_eq_true rfl)
/-- the columns, one after the other -/
def mxCols (pw : Nat → Nat) (n : Nat) (h : Int64) : Nat → Int64
  | 0 => h
  | q + 1 => mxL (fun c => pw (q * 16 + c)) (mxCols pw n h q) n
theorem lp_mixColIn {E : ET} {G : GT} (O : OKG E G cX4_mixColumns RX4 (rmL 2) []) (hN : nLG G = 7) {ad : Nat → Nat} {n t dr : Nat} {pw pe : Nat → Nat} {mk : Nat → Bool} {len : Nat} {cod : Nat → Nat} {fr : Bool} {ls lc u v : Nat} {su sp : Nat → Nat} {tot spr : Nat → Int64} {mm : Nat} {fs fc fw : Nat → Nat} {sc : Nat → Int64} {fe : Nat → Nat} {h : Int64} {q : Nat} (hst : E.1.stackTraces = false) (hn : n ≤ 16) (hq : q < 48) (kk : V E G 0 0 55 [(0, .ref (ad 0)), (3, .long (mxL (fun c => pw (q * 16 + c)) h n)), (5, .int (nI q))] [] (WX E ad n t dr pw pe mk len cod fr ls lc u v su sp tot spr mm fs fc fw sc fe)) : ∀ j c : Nat, c ≤ n → j = n - c → V E G 0 0 20 [(0, .ref (ad 0)), (3, .long (mxL (fun c => pw (q * 16 + c)) h c)), (5, .int (nI q)), (6, .int (nI c))] [] (WX E ad n t dr pw pe mk len cod fr ls lc u v su sp tot spr mm fs fc fw sc fe) := by
  intro j
  induction j using Nat.strongRecOn with
  | _ j ih =>
    intro c hc hj
    refine v_iload O dX4_mixColumns_20 rfl ?_
    refine v_aload_n O dX4_mixColumns_22 rfl ?_
    refine v_get O dX4_mixColumns_23 flX4_10 0 rfl rfl ?_
    refine v_getN O dX4_mixColumns_26 flX4_44 1 rfl rfl ?_
    refine v_icmpN_ge (tgt := 55) O dX4_mixColumns_29 (by decide) (by omega) (by omega) (fun h9 => ?_) (fun h9 => ?_)
    · have e : c = n := by omega
      subst e
      refine v_ord [0, 3, 5] ?_
      exact kk
    · refine v_lload_n O dX4_mixColumns_32 rfl ?_
      refine v_aload_n O dX4_mixColumns_33 rfl ?_
      refine v_get O dX4_mixColumns_34 flX4_10 0 rfl rfl ?_
      refine v_iload O dX4_mixColumns_37 rfl ?_
      refine v_iload O dX4_mixColumns_39 rfl ?_
      refine v_VN1 O dX4_mixColumns_41 lkX4_113 (c_powerAt hst (c := c) (q := q) (by omega) hq) 1 rfl rfl rfl rfl rfl (by first | exact hkc | exact Nat.zero_le _) (by first | exact hks | exact Nat.zero_le _) ?_
      refine v_i2l O dX4_mixColumns_44 ?_
      refine v_S1 O dX4_mixColumns_45 lkX4_212 (x_mix hst _ (nI (pw (q * 16 + c))).toInt64) rfl rfl rfl (by first | exact hkc | exact Nat.zero_le _) (by first | exact hks | exact Nat.zero_le _) ?_
      refine v_lstore_n O dX4_mixColumns_48 (by rw [hN]; decide) ?_
      refine v_iincN (b := 1) O dX4_mixColumns_49 rfl (by decide) (by rw [hN]; decide) ?_
      refine v_goto (tgt := 20) O dX4_mixColumns_52 (by decide) ?_
      refine v_ord [0, 3, 5, 6] ?_
      exact ih (j - 1) (by omega) (c + 1) (by omega) (by omega)
theorem lp_mixColOut {E : ET} {G : GT} (O : OKG E G cX4_mixColumns RX4 (rmL 2) []) (hN : nLG G = 7) {ad : Nat → Nat} {n t dr : Nat} {pw pe : Nat → Nat} {mk : Nat → Bool} {len : Nat} {cod : Nat → Nat} {fr : Bool} {ls lc u v : Nat} {su sp : Nat → Nat} {tot spr : Nat → Int64} {mm : Nat} {fs fc fw : Nat → Nat} {sc : Nat → Int64} {fe : Nat → Nat} {h : Int64} (hst : E.1.stackTraces = false) (hn : n ≤ 16) (ht : t ≤ 48) (kk : V E G 0 0 61 [(3, .long (mxCols pw n h t))] [] (WX E ad n t dr pw pe mk len cod fr ls lc u v su sp tot spr mm fs fc fw sc fe)) : ∀ j q : Nat, q ≤ t → j = t - q → V E G 0 0 5 [(0, .ref (ad 0)), (3, .long (mxCols pw n h q)), (5, .int (nI q))] [] (WX E ad n t dr pw pe mk len cod fr ls lc u v su sp tot spr mm fs fc fw sc fe) := by
  intro j
  induction j using Nat.strongRecOn with
  | _ j ih =>
    intro q hq hj
    refine v_iload O dX4_mixColumns_5 rfl ?_
    refine v_aload_n O dX4_mixColumns_7 rfl ?_
    refine v_get O dX4_mixColumns_8 flX4_10 0 rfl rfl ?_
    refine v_getN O dX4_mixColumns_11 flX4_67 1 rfl rfl ?_
    refine v_icmpN_ge (tgt := 61) O dX4_mixColumns_14 (by decide) (by omega) (by omega) (fun h9 => ?_) (fun h9 => ?_)
    · have e : q = t := by omega
      subst e
      refine v_ord [3] ?_
      exact kk
    · refine v_iconst (v := nI 0) O dX4_mixColumns_17 (by decide) ?_
      refine v_istore O dX4_mixColumns_18 (by rw [hN]; decide) ?_
      refine v_ord [0, 3, 5, 6] ?_
      refine lp_mixColIn (h := mxCols pw n h q) O hN hst hn (by omega) ?_ n 0 (by omega) (by omega)
      refine v_iincN (b := 1) O dX4_mixColumns_55 rfl (by decide) (by rw [hN]; decide) ?_
      refine v_goto (tgt := 5) O dX4_mixColumns_58 (by decide) ?_
      refine v_ord [0, 3, 5] ?_
      exact ih (j - 1) (by omega) (q + 1) (by omega) (by omega)
theorem x_mixColumns {E : ET} {ad : Nat → Nat} {n t dr : Nat} {pw pe : Nat → Nat} {mk : Nat → Bool} {len : Nat} {cod : Nat → Nat} {fr : Bool} {ls lc u v : Nat} {su sp : Nat → Nat} {tot spr : Nat → Int64} {mm : Nat} {fs fc fw : Nat → Nat} {sc : Nat → Int64} {fe : Nat → Nat} (hst : E.1.stackTraces = false) (hn : n ≤ 16) (ht : t ≤ 48) (h : Int64) : Ctr E yX4_mixColumns cdX4_mixColumns (rmL 2) [.ref (ad 0), .long h] (WX E ad n t dr pw pe mk len cod fr ls lc u v su sp tot spr mm fs fc fw sc fe) (pR (some (.long (mxCols pw n h t))) (WX E ad n t dr pw pe mk len cod fr ls lc u v su sp tot spr mm fs fc fw sc fe)) noX 0 0 := by
  refine ctr_of hst (by decide) (Nat.le_of_ble_eq_true rfl) (fun G O OR hN => ?_)
  have O : OKG E G cX4_mixColumns RX4 (rmL 2) [] := O
  have hN : nLG G = 7 := hN
  refine v_lload_n O dX4_mixColumns_0 rfl ?_
  refine v_lstore_n O dX4_mixColumns_1 (by rw [hN]; decide) ?_
  refine v_iconst (v := nI 0) O dX4_mixColumns_2 (by decide) ?_
  refine v_istore O dX4_mixColumns_3 (by rw [hN]; decide) ?_
  refine v_ord [0, 3, 5] ?_
  refine lp_mixColOut (h := h) O hN hst hn ht ?_ t 0 (by omega) (by omega)
  refine v_lload_n O dX4_mixColumns_61 rfl ?_
  exact v_lreturn O OR dX4_mixColumns_62 (⟨rfl, rfl⟩) (Nat.le_of_ble_eq_true rfl) (Nat.le_of_ble_eq_true rfl)
theorem lp_mixSlIn {E : ET} {G : GT} (O : OKG E G cX4_mixSlopes RX4 (rmL 3) []) (hN : nLG G = 8) {ad : Nat → Nat} {n t dr : Nat} {pw pe : Nat → Nat} {mk : Nat → Bool} {len : Nat} {cod : Nat → Nat} {fr : Bool} {ls lc u v : Nat} {su sp : Nat → Nat} {tot spr : Nat → Int64} {mm : Nat} {fs fc fw : Nat → Nat} {sc : Nat → Int64} {fe : Nat → Nat} {h : Int64} {d : Nat} (hst : E.1.stackTraces = false) (hd : d < 16) (hlc : lc ≤ 48) (kk : V E G 0 0 79 [(0, .ref (ad 0)), (3, .long (mxL (fun q => su (d * 48 + q)) h (lc - d))), (5, .int (nI d))] [] (WX E ad n t dr pw pe mk len cod fr ls lc u v su sp tot spr mm fs fc fw sc fe)) : ∀ j c : Nat, c ≤ lc - d → j = lc - d - c → V E G 0 0 49 [(0, .ref (ad 0)), (3, .long (mxL (fun q => su (d * 48 + q)) h c)), (5, .int (nI d)), (6, .int (nI (lc - d))), (7, .int (nI c))] [] (WX E ad n t dr pw pe mk len cod fr ls lc u v su sp tot spr mm fs fc fw sc fe) := by
  intro j
  induction j using Nat.strongRecOn with
  | _ j ih =>
    intro c hc hj
    refine v_iload O dX4_mixSlopes_49 rfl ?_
    refine v_iload O dX4_mixSlopes_51 rfl ?_
    refine v_icmpN_ge (tgt := 79) O dX4_mixSlopes_53 (by decide) (by omega) (by omega) (fun h9 => ?_) (fun h9 => ?_)
    · have e : c = lc - d := by omega
      subst e
      refine v_ord [0, 3, 5] ?_
      exact kk
    · refine v_lload_n O dX4_mixSlopes_56 rfl ?_
      refine v_aload_n O dX4_mixSlopes_57 rfl ?_
      refine v_get O dX4_mixSlopes_58 flX4_26 0 rfl rfl ?_
      refine v_iload O dX4_mixSlopes_61 rfl ?_
      refine v_iload O dX4_mixSlopes_63 rfl ?_
      refine v_VN1 O dX4_mixSlopes_65 lkX4_156 (x_sumAt hst d c hd (by omega)) 3 rfl rfl rfl rfl rfl (by first | exact hkc | exact Nat.zero_le _) (by first | exact hks | exact Nat.zero_le _) ?_
      refine v_i2l O dX4_mixSlopes_68 ?_
      refine v_S1 O dX4_mixSlopes_69 lkX4_212 (x_mix hst _ (nI (su (d * 48 + c))).toInt64) rfl rfl rfl (by first | exact hkc | exact Nat.zero_le _) (by first | exact hks | exact Nat.zero_le _) ?_
      refine v_lstore_n O dX4_mixSlopes_72 (by rw [hN]; decide) ?_
      refine v_iincN (b := 1) O dX4_mixSlopes_73 rfl (by decide) (by rw [hN]; decide) ?_
      refine v_goto (tgt := 49) O dX4_mixSlopes_76 (by decide) ?_
      refine v_ord [0, 3, 5, 6, 7] ?_
      exact ih (j - 1) (by omega) (c + 1) (by omega) (by omega)
theorem lp_mixSlOut {E : ET} {G : GT} (O : OKG E G cX4_mixSlopes RX4 (rmL 3) []) (hN : nLG G = 8) {ad : Nat → Nat} {n t dr : Nat} {pw pe : Nat → Nat} {mk : Nat → Bool} {len : Nat} {cod : Nat → Nat} {fr : Bool} {ls lc u v : Nat} {su sp : Nat → Nat} {tot spr : Nat → Int64} {mm : Nat} {fs fc fw : Nat → Nat} {sc : Nat → Int64} {fe : Nat → Nat} {h : Int64} {K : Nat} (hst : E.1.stackTraces = false) (hK : 1 ≤ K) (hK4 : K ≤ 4) (hn : n = 2 ^ K) (hlc : lc ≤ 48) (kk : V E G 0 0 85 [(3, .long (mxS K n lc (fun d q => su (d * 48 + q)) h n))] [] (WX E ad n t dr pw pe mk len cod fr ls lc u v su sp tot spr mm fs fc fw sc fe)) : ∀ j d : Nat, d ≤ n → j = n - d → V E G 0 0 5 [(0, .ref (ad 0)), (3, .long (mxS K n lc (fun d q => su (d * 48 + q)) h d)), (5, .int (nI d))] [] (WX E ad n t dr pw pe mk len cod fr ls lc u v su sp tot spr mm fs fc fw sc fe) := by
  obtain ⟨g1, g2⟩ := two_le hn hK hK4
  intro j
  induction j using Nat.strongRecOn with
  | _ j ih =>
    intro d hd hj
    refine v_iload O dX4_mixSlopes_5 rfl ?_
    refine v_aload_n O dX4_mixSlopes_7 rfl ?_
    refine v_get O dX4_mixSlopes_8 flX4_10 0 rfl rfl ?_
    refine v_getN O dX4_mixSlopes_11 flX4_44 1 rfl rfl ?_
    refine v_icmpN_ge (tgt := 85) O dX4_mixSlopes_14 (by decide) (by omega) (by omega) (fun h9 => ?_) (fun h9 => ?_)
    · have e : d = n := by omega
      subst e
      refine v_ord [3] ?_
      exact kk
    · refine v_lload_n O dX4_mixSlopes_17 rfl ?_
      refine v_aload_n O dX4_mixSlopes_18 rfl ?_
      refine v_get O dX4_mixSlopes_19 flX4_10 0 rfl rfl ?_
      refine v_getN O dX4_mixSlopes_22 flX4_44 1 rfl rfl ?_
      refine v_iload O dX4_mixSlopes_25 rfl ?_
      refine v_S1 O dX4_mixSlopes_27 lkX4_146 (x_greatestBend hst hK hK4 n hn d (by omega)) rfl rfl rfl (by first | exact hkc | exact Nat.zero_le _) (by first | exact hks | exact Nat.zero_le _) ?_
      refine v_i2l O dX4_mixSlopes_30 ?_
      refine v_S1 O dX4_mixSlopes_31 lkX4_212 (x_mix hst _ (nI (bnd K n d n)).toInt64) rfl rfl rfl (by first | exact hkc | exact Nat.zero_le _) (by first | exact hks | exact Nat.zero_le _) ?_
      refine v_lstore_n O dX4_mixSlopes_34 (by rw [hN]; decide) ?_
      refine v_aload_n O dX4_mixSlopes_35 rfl ?_
      refine v_get O dX4_mixSlopes_36 flX4_26 0 rfl rfl ?_
      refine v_iload O dX4_mixSlopes_39 rfl ?_
      refine v_VN1 O dX4_mixSlopes_41 lkX4_159 (x_linesOf hst hlc d (by omega)) 3 rfl rfl rfl rfl rfl (by first | exact hkc | exact Nat.zero_le _) (by first | exact hks | exact Nat.zero_le _) ?_
      refine v_istore O dX4_mixSlopes_44 (by rw [hN]; decide) ?_
      refine v_iconst (v := nI 0) O dX4_mixSlopes_46 (by decide) ?_
      refine v_istore O dX4_mixSlopes_47 (by rw [hN]; decide) ?_
      refine v_ord [0, 3, 5, 6, 7] ?_
      refine lp_mixSlIn (h := mx (mxS K n lc (fun d q => su (d * 48 + q)) h d) (nI (bnd K n d n)).toInt64) O hN hst (by omega) hlc ?_ (lc - d) 0 (by omega) (by omega)
      refine v_iincN (b := 1) O dX4_mixSlopes_79 rfl (by decide) (by rw [hN]; decide) ?_
      refine v_goto (tgt := 5) O dX4_mixSlopes_82 (by decide) ?_
      refine v_ord [0, 3, 5] ?_
      exact ih (j - 1) (by omega) (d + 1) (by omega) (by omega)
theorem x_mixSlopes {E : ET} {ad : Nat → Nat} {n t dr : Nat} {pw pe : Nat → Nat} {mk : Nat → Bool} {len : Nat} {cod : Nat → Nat} {fr : Bool} {ls lc u v : Nat} {su sp : Nat → Nat} {tot spr : Nat → Int64} {mm : Nat} {fs fc fw : Nat → Nat} {sc : Nat → Int64} {fe : Nat → Nat} {K : Nat} (hst : E.1.stackTraces = false) (hK : 1 ≤ K) (hK4 : K ≤ 4) (hn : n = 2 ^ K) (hlc : lc ≤ 48) (h : Int64) : Ctr E yX4_mixSlopes cdX4_mixSlopes (rmL 3) [.ref (ad 0), .long h] (WX E ad n t dr pw pe mk len cod fr ls lc u v su sp tot spr mm fs fc fw sc fe) (pR (some (.long (mxS K n lc (fun d q => su (d * 48 + q)) h n))) (WX E ad n t dr pw pe mk len cod fr ls lc u v su sp tot spr mm fs fc fw sc fe)) noX 0 0 := by
  refine ctr_of hst (by decide) (Nat.le_of_ble_eq_true rfl) (fun G O OR hN => ?_)
  have O : OKG E G cX4_mixSlopes RX4 (rmL 3) [] := O
  have hN : nLG G = 8 := hN
  refine v_lload_n O dX4_mixSlopes_0 rfl ?_
  refine v_lstore_n O dX4_mixSlopes_1 (by rw [hN]; decide) ?_
  refine v_iconst (v := nI 0) O dX4_mixSlopes_2 (by decide) ?_
  refine v_istore O dX4_mixSlopes_3 (by rw [hN]; decide) ?_
  refine v_ord [0, 3, 5] ?_
  refine lp_mixSlOut (h := h) O hN hst hK hK4 hn hlc ?_ n 0 (by omega) (by omega)
  refine v_lload_n O dX4_mixSlopes_85 rfl ?_
  exact v_lreturn O OR dX4_mixSlopes_86 (⟨rfl, rfl⟩) (Nat.le_of_ble_eq_true rfl) (Nat.le_of_ble_eq_true rfl)
/-- a long after the other -/
def mxF (f : Nat → Int64) (h : Int64) : Nat → Int64
  | 0 => h
  | a + 1 => mx (mxF f h a) (f a)
def mxCand (fs fc fw : Nat → Nat) (sc : Nat → Int64) (dr : Nat) (h : Int64) : Nat → Int64
  | 0 => h
  | i + 1 => mxF (tld fs fc fw sc dr i) (mxCand fs fc fw sc dr h i) 5
theorem lp_mixCaIn {E : ET} {G : GT} (O : OKG E G cX4_mixCandidates RX4 (rmL 2) []) (hN : nLG G = 7) {ad : Nat → Nat} {n t dr : Nat} {pw pe : Nat → Nat} {mk : Nat → Bool} {len : Nat} {cod : Nat → Nat} {fr : Bool} {ls lc u v : Nat} {su sp : Nat → Nat} {tot spr : Nat → Int64} {mm : Nat} {fs fc fw : Nat → Nat} {sc : Nat → Int64} {fe : Nat → Nat} {h : Int64} {i : Nat} (hst : E.1.stackTraces = false) (hmm : mm ≤ 8) (hi : i < mm) (kk : V E G 0 0 45 [(0, .ref (ad 0)), (3, .long (mxF (tld fs fc fw sc dr i) h 5)), (5, .int (nI i))] [] (WX E ad n t dr pw pe mk len cod fr ls lc u v su sp tot spr mm fs fc fw sc fe)) : ∀ j c : Nat, c ≤ 5 → j = 5 - c → V E G 0 0 20 [(0, .ref (ad 0)), (3, .long (mxF (tld fs fc fw sc dr i) h c)), (5, .int (nI i)), (6, .int (nI c))] [] (WX E ad n t dr pw pe mk len cod fr ls lc u v su sp tot spr mm fs fc fw sc fe) := by
  intro j
  induction j using Nat.strongRecOn with
  | _ j ih =>
    intro c hc hj
    refine v_iload O dX4_mixCandidates_20 rfl ?_
    refine v_iconst (v := nI 5) O dX4_mixCandidates_22 (by decide) ?_
    refine v_icmpN_ge (tgt := 45) O dX4_mixCandidates_23 (by decide) (by omega) (by omega) (fun h9 => ?_) (fun h9 => ?_)
    · have e : c = 5 := by omega
      subst e
      refine v_ord [0, 3, 5] ?_
      exact kk
    · refine v_lload_n O dX4_mixCandidates_26 rfl ?_
      refine v_aload_n O dX4_mixCandidates_27 rfl ?_
      refine v_iload O dX4_mixCandidates_28 rfl ?_
      refine v_iload O dX4_mixCandidates_30 rfl ?_
      refine v_V1 O dX4_mixCandidates_32 lkX4_233 (k_candidate hst hmm i c hi h9) 0 rfl rfl rfl rfl rfl (by first | exact hkc | exact Nat.zero_le _) (by first | exact hks | exact Nat.zero_le _) ?_
      refine v_S1 O dX4_mixCandidates_35 lkX4_212 (x_mix hst _ (tld fs fc fw sc dr i c)) rfl rfl rfl (by first | exact hkc | exact Nat.zero_le _) (by first | exact hks | exact Nat.zero_le _) ?_
      refine v_lstore_n O dX4_mixCandidates_38 (by rw [hN]; decide) ?_
      refine v_iincN (b := 1) O dX4_mixCandidates_39 rfl (by decide) (by rw [hN]; decide) ?_
      refine v_goto (tgt := 20) O dX4_mixCandidates_42 (by decide) ?_
      refine v_ord [0, 3, 5, 6] ?_
      exact ih (j - 1) (by omega) (c + 1) (by omega) (by omega)
theorem lp_mixCaOut {E : ET} {G : GT} (O : OKG E G cX4_mixCandidates RX4 (rmL 2) []) (hN : nLG G = 7) {ad : Nat → Nat} {n t dr : Nat} {pw pe : Nat → Nat} {mk : Nat → Bool} {len : Nat} {cod : Nat → Nat} {fr : Bool} {ls lc u v : Nat} {su sp : Nat → Nat} {tot spr : Nat → Int64} {mm : Nat} {fs fc fw : Nat → Nat} {sc : Nat → Int64} {fe : Nat → Nat} {h : Int64} (hst : E.1.stackTraces = false) (hmm : mm ≤ 8) (kk : V E G 0 0 51 [(3, .long (mxCand fs fc fw sc dr h mm))] [] (WX E ad n t dr pw pe mk len cod fr ls lc u v su sp tot spr mm fs fc fw sc fe)) : ∀ j i : Nat, i ≤ mm → j = mm - i → V E G 0 0 5 [(0, .ref (ad 0)), (3, .long (mxCand fs fc fw sc dr h i)), (5, .int (nI i))] [] (WX E ad n t dr pw pe mk len cod fr ls lc u v su sp tot spr mm fs fc fw sc fe) := by
  intro j
  induction j using Nat.strongRecOn with
  | _ j ih =>
    intro i hi hj
    refine v_iload O dX4_mixCandidates_5 rfl ?_
    refine v_aload_n O dX4_mixCandidates_7 rfl ?_
    refine v_get O dX4_mixCandidates_8 flX4_33 0 rfl rfl ?_
    refine v_getN O dX4_mixCandidates_11 flX4_123 4 rfl rfl ?_
    refine v_icmpN_ge (tgt := 51) O dX4_mixCandidates_14 (by decide) (by omega) (by omega) (fun h9 => ?_) (fun h9 => ?_)
    · have e : i = mm := by omega
      subst e
      refine v_ord [3] ?_
      exact kk
    · refine v_iconst (v := nI 0) O dX4_mixCandidates_17 (by decide) ?_
      refine v_istore O dX4_mixCandidates_18 (by rw [hN]; decide) ?_
      refine v_ord [0, 3, 5, 6] ?_
      refine lp_mixCaIn (h := mxCand fs fc fw sc dr h i) O hN hst hmm h9 ?_ 5 0 (by omega) (by omega)
      refine v_iincN (b := 1) O dX4_mixCandidates_45 rfl (by decide) (by rw [hN]; decide) ?_
      refine v_goto (tgt := 5) O dX4_mixCandidates_48 (by decide) ?_
      refine v_ord [0, 3, 5] ?_
      exact ih (j - 1) (by omega) (i + 1) (by omega) (by omega)
theorem x_mixCandidates {E : ET} {ad : Nat → Nat} {n t dr : Nat} {pw pe : Nat → Nat} {mk : Nat → Bool} {len : Nat} {cod : Nat → Nat} {fr : Bool} {ls lc u v : Nat} {su sp : Nat → Nat} {tot spr : Nat → Int64} {mm : Nat} {fs fc fw : Nat → Nat} {sc : Nat → Int64} {fe : Nat → Nat} (hst : E.1.stackTraces = false) (hmm : mm ≤ 8) (h : Int64) : Ctr E yX4_mixCandidates cdX4_mixCandidates (rmL 2) [.ref (ad 0), .long h] (WX E ad n t dr pw pe mk len cod fr ls lc u v su sp tot spr mm fs fc fw sc fe) (pR (some (.long (mxCand fs fc fw sc dr h mm))) (WX E ad n t dr pw pe mk len cod fr ls lc u v su sp tot spr mm fs fc fw sc fe)) noX 0 0 := by
  refine ctr_of hst (by decide) (Nat.le_of_ble_eq_true rfl) (fun G O OR hN => ?_)
  have O : OKG E G cX4_mixCandidates RX4 (rmL 2) [] := O
  have hN : nLG G = 7 := hN
  refine v_lload_n O dX4_mixCandidates_0 rfl ?_
  refine v_lstore_n O dX4_mixCandidates_1 (by rw [hN]; decide) ?_
  refine v_iconst (v := nI 0) O dX4_mixCandidates_2 (by decide) ?_
  refine v_istore O dX4_mixCandidates_3 (by rw [hN]; decide) ?_
  refine v_ord [0, 3, 5] ?_
  refine lp_mixCaOut (h := h) O hN hst hmm ?_ mm 0 (by omega) (by omega)
  refine v_lload_n O dX4_mixCandidates_51 rfl ?_
  exact v_lreturn O OR dX4_mixCandidates_52 (⟨rfl, rfl⟩) (Nat.le_of_ble_eq_true rfl) (Nat.le_of_ble_eq_true rfl)
theorem lp_mixText {E : ET} {G : GT} (O : OKG E G cX4_mixText RX4 (rmL 2) []) (hN : nLG G = 6) {ad : Nat → Nat} {n t dr : Nat} {pw pe : Nat → Nat} {mk : Nat → Bool} {len : Nat} {cod : Nat → Nat} {fr : Bool} {ls lc u v : Nat} {su sp : Nat → Nat} {tot spr : Nat → Int64} {mm : Nat} {fs fc fw : Nat → Nat} {sc : Nat → Int64} {fe : Nat → Nat} {h : Int64} (hst : E.1.stackTraces = false) (hl : len ≤ 64) (kk : V E G 0 0 50 [(3, .long (mxL cod h len))] [] (WX E ad n t dr pw pe mk len cod fr ls lc u v su sp tot spr mm fs fc fw sc fe)) : ∀ j c : Nat, c ≤ len → j = len - c → V E G 0 0 16 [(0, .ref (ad 0)), (3, .long (mxL cod h c)), (5, .int (nI c))] [] (WX E ad n t dr pw pe mk len cod fr ls lc u v su sp tot spr mm fs fc fw sc fe) := by
  intro j
  induction j using Nat.strongRecOn with
  | _ j ih =>
    intro c hc hj
    refine v_iload O dX4_mixText_16 rfl ?_
    refine v_aload_n O dX4_mixText_18 rfl ?_
    refine v_get O dX4_mixText_19 flX4_19 0 rfl rfl ?_
    refine v_getN O dX4_mixText_22 flX4_72 2 rfl rfl ?_
    refine v_icmpN_ge (tgt := 50) O dX4_mixText_25 (by decide) (by omega) (by omega) (fun h9 => ?_) (fun h9 => ?_)
    · have e : c = len := by omega
      subst e
      refine v_ord [3] ?_
      exact kk
    · refine v_lload_n O dX4_mixText_28 rfl ?_
      refine v_aload_n O dX4_mixText_29 rfl ?_
      refine v_get O dX4_mixText_30 flX4_19 0 rfl rfl ?_
      refine v_getN O dX4_mixText_33 flX4_80 2 rfl rfl ?_
      refine v_iload O dX4_mixText_36 rfl ?_
      refine v_iald O dX4_mixText_38 8 rfl (by decide) (by omega) ?_
      refine v_i2l O dX4_mixText_39 ?_
      refine v_S1 O dX4_mixText_40 lkX4_212 (x_mix hst _ (nI (cod c)).toInt64) rfl rfl rfl (by first | exact hkc | exact Nat.zero_le _) (by first | exact hks | exact Nat.zero_le _) ?_
      refine v_lstore_n O dX4_mixText_43 (by rw [hN]; decide) ?_
      refine v_iincN (b := 1) O dX4_mixText_44 rfl (by decide) (by rw [hN]; decide) ?_
      refine v_goto (tgt := 16) O dX4_mixText_47 (by decide) ?_
      refine v_ord [0, 3, 5] ?_
      exact ih (j - 1) (by omega) (c + 1) (by omega) (by omega)
theorem x_mixText {E : ET} {ad : Nat → Nat} {n t dr : Nat} {pw pe : Nat → Nat} {mk : Nat → Bool} {len : Nat} {cod : Nat → Nat} {fr : Bool} {ls lc u v : Nat} {su sp : Nat → Nat} {tot spr : Nat → Int64} {mm : Nat} {fs fc fw : Nat → Nat} {sc : Nat → Int64} {fe : Nat → Nat} (hst : E.1.stackTraces = false) (hl : len ≤ 64) (h : Int64) : Ctr E yX4_mixText cdX4_mixText (rmL 2) [.ref (ad 0), .long h] (WX E ad n t dr pw pe mk len cod fr ls lc u v su sp tot spr mm fs fc fw sc fe) (pR (some (.long (mxL cod (mx h (nI len).toInt64) len))) (WX E ad n t dr pw pe mk len cod fr ls lc u v su sp tot spr mm fs fc fw sc fe)) noX 0 0 := by
  refine ctr_of hst (by decide) (Nat.le_of_ble_eq_true rfl) (fun G O OR hN => ?_)
  have O : OKG E G cX4_mixText RX4 (rmL 2) [] := O
  have hN : nLG G = 6 := hN
  refine v_lload_n O dX4_mixText_0 rfl ?_
  refine v_aload_n O dX4_mixText_1 rfl ?_
  refine v_get O dX4_mixText_2 flX4_19 0 rfl rfl ?_
  refine v_getN O dX4_mixText_5 flX4_72 2 rfl rfl ?_
  refine v_i2l O dX4_mixText_8 ?_
  refine v_S1 O dX4_mixText_9 lkX4_212 (x_mix hst h (nI len).toInt64) rfl rfl rfl (by first | exact hkc | exact Nat.zero_le _) (by first | exact hks | exact Nat.zero_le _) ?_
  refine v_lstore_n O dX4_mixText_12 (by rw [hN]; decide) ?_
  refine v_iconst (v := nI 0) O dX4_mixText_13 (by decide) ?_
  refine v_istore O dX4_mixText_14 (by rw [hN]; decide) ?_
  refine v_ord [0, 3, 5] ?_
  refine lp_mixText (h := mx h (nI len).toInt64) O hN hst hl ?_ len 0 (by omega) (by omega)
  refine v_lload_n O dX4_mixText_50 rfl ?_
  exact v_lreturn O OR dX4_mixText_51 (⟨rfl, rfl⟩) (Nat.le_of_ble_eq_true rfl) (Nat.le_of_ble_eq_true rfl)
theorem lp_digest {E : ET} {G : GT} (O : OKG E G cX4_digest RX4 (rmL 5) []) (hN : nLG G = 4) {ad : Nat → Nat} {n t dr : Nat} {pw pe : Nat → Nat} {mk : Nat → Bool} {len : Nat} {cod : Nat → Nat} {fr : Bool} {ls lc u v : Nat} {su sp : Nat → Nat} {tot spr : Nat → Int64} {mm : Nat} {fs fc fw : Nat → Nat} {sc : Nat → Int64} {fe : Nat → Nat} {h : Int64} (hst : E.1.stackTraces = false) (hn : n ≤ 16) (kk : V E G 0 0 39 [(0, .ref (ad 0)), (1, .long (mxL (cnt5 n t dr (cntM mk n) mm) h 5))] [] (WX E ad n t dr pw pe mk len cod fr ls lc u v su sp tot spr mm fs fc fw sc fe)) : ∀ j c : Nat, c ≤ 5 → j = 5 - c → V E G 0 0 17 [(0, .ref (ad 0)), (1, .long (mxL (cnt5 n t dr (cntM mk n) mm) h c)), (3, .int (nI c))] [] (WX E ad n t dr pw pe mk len cod fr ls lc u v su sp tot spr mm fs fc fw sc fe) := by
  intro j
  induction j using Nat.strongRecOn with
  | _ j ih =>
    intro c hc hj
    refine v_iload_n O dX4_digest_17 rfl ?_
    refine v_iconst (v := nI 5) O dX4_digest_18 (by decide) ?_
    refine v_icmpN_ge (tgt := 39) O dX4_digest_19 (by decide) (by omega) (by omega) (fun h9 => ?_) (fun h9 => ?_)
    · have e : c = 5 := by omega
      subst e
      refine v_ord [0, 1] ?_
      exact kk
    · refine v_lload_n O dX4_digest_22 rfl ?_
      refine v_aload_n O dX4_digest_23 rfl ?_
      refine v_iload_n O dX4_digest_24 rfl ?_
      refine v_V1 O dX4_digest_25 lkX4_209 (k_count hst hn c h9) 0 rfl rfl rfl rfl rfl (by first | exact hkc | exact Nat.zero_le _) (by first | exact hks | exact Nat.zero_le _) ?_
      refine v_i2l O dX4_digest_28 ?_
      refine v_S1 O dX4_digest_29 lkX4_212 (x_mix hst _ (nI (cnt5 n t dr (cntM mk n) mm c)).toInt64) rfl rfl rfl (by first | exact hkc | exact Nat.zero_le _) (by first | exact hks | exact Nat.zero_le _) ?_
      refine v_lstore_n O dX4_digest_32 (by rw [hN]; decide) ?_
      refine v_iincN (b := 1) O dX4_digest_33 rfl (by decide) (by rw [hN]; decide) ?_
      refine v_goto (tgt := 17) O dX4_digest_36 (by decide) ?_
      refine v_ord [0, 1, 3] ?_
      exact ih (j - 1) (by omega) (c + 1) (by omega) (by omega)
def dgX (K n t dr : Nat) (mk : Nat → Bool) (pe pw : Nat → Nat) (ln : Nat → Nat → Nat) (len : Nat) (cod : Nat → Nat) (mm : Nat) (fs fc fw : Nat → Nat) (sc : Nat → Int64) : Int64 :=
  mxL cod (mx (mxCand fs fc fw sc dr (mxS K n t ln (mxCols pw n (mxC mk pw pe t (mxL (cnt5 n t dr (cntM mk n) mm) 1867 5) n) t) n) mm) (nI len).toInt64) len
theorem mxL_cong {f g : Nat → Nat} {h : Int64} : ∀ {k : Nat}, (∀ i, i < k → f i = g i) → mxL f h k = mxL g h k
  | 0, _ => rfl
  | k + 1, hh => by rw [mxL, mxL, mxL_cong (fun i hi => hh i (by omega)), hh k (by omega)]
theorem mxS_cong {K n t : Nat} {ln ln' : Nat → Nat → Nat} {h : Int64} : ∀ {k : Nat}, (∀ d q, d < k → q < t - d → ln d q = ln' d q) → mxS K n t ln h k = mxS K n t ln' h k
  | 0, _ => rfl
  | k + 1, hh => by rw [mxS, mxS, mxS_cong (fun d q hd hq => hh d q (by omega) hq), mxL_cong (fun i hi => hh k i (by omega) hi)]
theorem k_digest {E : ET} {ad : Nat → Nat} {n t dr : Nat} {pw pe : Nat → Nat} {mk : Nat → Bool} {len : Nat} {cod : Nat → Nat} {fr : Bool} {ls lc u v : Nat} {su sp : Nat → Nat} {tot spr : Nat → Int64} {mm : Nat} {fs fc fw : Nat → Nat} {sc : Nat → Int64} {fe : Nat → Nat} {K : Nat} (hst : E.1.stackTraces = false) (hK : 1 ≤ K) (hK4 : K ≤ 4) (hn : n = 2 ^ K) (ht : t ≤ 48) (hmm : mm ≤ 8) (hl : len ≤ 64) (hfr : fr = true → ls = n ∧ lc = t ∧ LnOK mk pw K n t su tot spr) : Ctr E yX4_digest cdX4_digest (rmL 5) [.ref (ad 0)] (WX E ad n t dr pw pe mk len cod fr ls lc u v su sp tot spr mm fs fc fw sc fe) (fun r w' => r = some (.long (dgX K n t dr mk pe pw (lnX mk pw K n) len cod mm fs fc fw sc)) ∧ Frs E ad K n t dr pw pe mk len cod mm fs fc fw sc fe w') noX 0 0 := by
  obtain ⟨g1, g2⟩ := two_le hn hK hK4
  refine ctr_of hst (by decide) (Nat.le_of_ble_eq_true rfl) (fun G O OR hN => ?_)
  have O : OKG E G cX4_digest RX4 (rmL 5) [] := O
  have hN : nLG G = 4 := hN
  refine v_aload_n O dX4_digest_0 rfl ?_
  refine v_get O dX4_digest_1 flX4_26 0 rfl rfl ?_
  refine v_aload_n O dX4_digest_4 rfl ?_
  refine v_get O dX4_digest_5 flX4_10 0 rfl rfl ?_
  refine v_callVN (mc := 0) (ms := 0) O dX4_digest_8 lkX4_152 (x_refresh hst hK hK4 hn ht hfr) 3 rfl rfl rfl rfl rfl (fun r9 u9 h9 => ?_) kx_no
  obtain ⟨rfl, u, v, su, sp, tot, spr, hL, rfl⟩ := h9
  refine v_ldc2 O dX4_digest_11 clX4_207 ?_
  refine v_lstore_n O dX4_digest_14 (by rw [hN]; decide) ?_
  refine v_iconst (v := nI 0) O dX4_digest_15 (by decide) ?_
  refine v_istore_n O dX4_digest_16 (by rw [hN]; decide) ?_
  refine v_ord [0, 1, 3] ?_
  refine lp_digest (h := 1867) O hN hst g2 ?_ 5 0 (by omega) (by omega)
  refine v_aload_n O dX4_digest_39 rfl ?_
  refine v_lload_n O dX4_digest_40 rfl ?_
  refine v_V1 O dX4_digest_41 lkX4_215 (x_mixChannels hst g2 ht _) 0 rfl rfl rfl rfl rfl (by first | exact hkc | exact Nat.zero_le _) (by first | exact hks | exact Nat.zero_le _) ?_
  refine v_lstore_n O dX4_digest_44 (by rw [hN]; decide) ?_
  refine v_aload_n O dX4_digest_45 rfl ?_
  refine v_lload_n O dX4_digest_46 rfl ?_
  refine v_V1 O dX4_digest_47 lkX4_219 (x_mixColumns hst g2 ht _) 0 rfl rfl rfl rfl rfl (by first | exact hkc | exact Nat.zero_le _) (by first | exact hks | exact Nat.zero_le _) ?_
  refine v_lstore_n O dX4_digest_50 (by rw [hN]; decide) ?_
  refine v_aload_n O dX4_digest_51 rfl ?_
  refine v_lload_n O dX4_digest_52 rfl ?_
  refine v_V1 O dX4_digest_53 lkX4_222 (x_mixSlopes hst hK hK4 hn ht _) 0 rfl rfl rfl rfl rfl (by first | exact hkc | exact Nat.zero_le _) (by first | exact hks | exact Nat.zero_le _) ?_
  rw [mxS_cong (fun d q hd hq => hL.1 d q hd (by omega))]
  refine v_lstore_n O dX4_digest_56 (by rw [hN]; decide) ?_
  refine v_aload_n O dX4_digest_57 rfl ?_
  refine v_lload_n O dX4_digest_58 rfl ?_
  refine v_V1 O dX4_digest_59 lkX4_225 (x_mixCandidates hst hmm _) 0 rfl rfl rfl rfl rfl (by first | exact hkc | exact Nat.zero_le _) (by first | exact hks | exact Nat.zero_le _) ?_
  refine v_lstore_n O dX4_digest_62 (by rw [hN]; decide) ?_
  refine v_aload_n O dX4_digest_63 rfl ?_
  refine v_lload_n O dX4_digest_64 rfl ?_
  refine v_V1 O dX4_digest_65 lkX4_228 (x_mixText hst hl _) 0 rfl rfl rfl rfl rfl (by first | exact hkc | exact Nat.zero_le _) (by first | exact hks | exact Nat.zero_le _) ?_
  exact v_lreturn O OR dX4_digest_68 (⟨rfl, u, v, su, sp, tot, spr, hL, rfl⟩) (Nat.le_of_ble_eq_true rfl) (Nat.le_of_ble_eq_true rfl)
