def rowL (su : Nat → Nat) (d q : Nat) : Int64 := (nI (su (d * 48 + q))).toInt64
theorem lp_measure {E : ET} {G : GT} (O : OKG E G cX2_measure RX2 (rmL 2) []) (hN : nLG G = 10) {ad : Nat → Nat} {n t dr : Nat} {pw pe : Nat → Nat} {mk : Nat → Bool} {len : Nat} {cod : Nat → Nat} {fr : Bool} {ls lc u v : Nat} {su sp : Nat → Nat} {tot spr : Nat → Int64} {mm : Nat} {fs fc fw : Nat → Nat} {sc : Nat → Int64} {fe : Nat → Nat} {d : Nat} (hst : E.1.stackTraces = false) (hd : d < 16) (hlc : lc ≤ 48) (kk : V E G 0 0 53 [(0, .ref (ad 3)), (1, .int (nI d)), (2, .long (smL (rowL su d) (lc - d))), (4, .long (smL (sqL (rowL su d)) (lc - d))), (6, .int (nI (lc - d)))] [] (WX E ad n t dr pw pe mk len cod fr ls lc u v su sp tot spr mm fs fc fw sc fe)) : ∀ j q : Nat, q ≤ lc - d → j = lc - d - q → V E G 0 0 15 [(0, .ref (ad 3)), (1, .int (nI d)), (2, .long (smL (rowL su d) q)), (4, .long (smL (sqL (rowL su d)) q)), (6, .int (nI (lc - d))), (7, .int (nI q))] [] (WX E ad n t dr pw pe mk len cod fr ls lc u v su sp tot spr mm fs fc fw sc fe) := by
  intro j
  induction j using Nat.strongRecOn with
  | _ j ih =>
    intro q hq hj
    refine v_iload O dX2_measure_15 rfl ?_
    refine v_iload O dX2_measure_17 rfl ?_
    refine v_icmpN_ge (tgt := 53) O dX2_measure_19 (by decide) (by omega) (by omega) (fun h => ?_) (fun h => ?_)
    · have e : q = lc - d := by omega
      subst e
      refine v_ord [0, 1, 2, 4, 6] ?_
      exact kk
    · refine v_aload_n O dX2_measure_22 rfl ?_
      refine v_iload_n O dX2_measure_23 rfl ?_
      refine v_iload O dX2_measure_24 rfl ?_
      refine v_V1 O dX2_measure_26 lkX2_74 (x_sumAt hst d q hd (by omega)) 3 rfl rfl rfl rfl rfl (by first | exact hkc | exact Nat.zero_le _) (by first | exact hks | exact Nat.zero_le _) ?_
      refine v_i2l O dX2_measure_29 ?_
      refine v_lstore O dX2_measure_30 (by rw [hN]; decide) ?_
      refine v_lload_n O dX2_measure_32 rfl ?_
      refine v_lload O dX2_measure_33 rfl ?_
      refine v_ladd O dX2_measure_35 ?_
      refine v_lstore_n O dX2_measure_36 (by rw [hN]; decide) ?_
      refine v_lload O dX2_measure_37 rfl ?_
      refine v_lload O dX2_measure_39 rfl ?_
      refine v_lload O dX2_measure_41 rfl ?_
      refine v_lmul O dX2_measure_43 ?_
      refine v_ladd O dX2_measure_44 ?_
      refine v_lstore O dX2_measure_45 (by rw [hN]; decide) ?_
      refine v_iincN (b := 1) O dX2_measure_47 rfl (by decide) (by rw [hN]; decide) ?_
      refine v_goto (tgt := 15) O dX2_measure_50 (by decide) ?_
      refine v_ord [0, 1, 2, 4, 6, 7] ?_
      exact ih (j - 1) (by omega) (q + 1) (by omega) (by omega)
theorem x_measure {E : ET} {ad : Nat → Nat} {n t dr : Nat} {pw pe : Nat → Nat} {mk : Nat → Bool} {len : Nat} {cod : Nat → Nat} {fr : Bool} {ls lc u v : Nat} {su sp : Nat → Nat} {tot spr : Nat → Int64} {mm : Nat} {fs fc fw : Nat → Nat} {sc : Nat → Int64} {fe : Nat → Nat} (hst : E.1.stackTraces = false) (d : Nat) (hd : d < 16) (hlc : lc ≤ 48) : Ctr E yX2_measure cdX2_measure (rmL 2) [.ref (ad 3), .int (nI d)] (WX E ad n t dr pw pe mk len cod fr ls lc u v su sp tot spr mm fs fc fw sc fe) (pR none (WX E ad n t dr pw pe mk len cod fr ls lc u v su sp (vp_updL tot d (smL (rowL su d) (lc - d))) (vp_updL spr d (scV (nI (lc - d)).toInt64 (smL (rowL su d) (lc - d)) (smL (sqL (rowL su d)) (lc - d)))) mm fs fc fw sc fe)) noX 0 0 := by
  refine ctr_of hst (by decide) (Nat.le_of_ble_eq_true rfl) (fun G O OR hN => ?_)
  have O : OKG E G cX2_measure RX2 (rmL 2) [] := O
  have hN : nLG G = 10 := hN
  refine v_lconst (v := 0) O dX2_measure_0 (by decide) ?_
  refine v_lstore_n O dX2_measure_1 (by rw [hN]; decide) ?_
  refine v_lconst (v := 0) O dX2_measure_2 (by decide) ?_
  refine v_lstore O dX2_measure_3 (by rw [hN]; decide) ?_
  refine v_aload_n O dX2_measure_5 rfl ?_
  refine v_iload_n O dX2_measure_6 rfl ?_
  refine v_V1 O dX2_measure_7 lkX2_70 (x_linesOf hst hlc d hd) 3 rfl rfl rfl rfl rfl (by first | exact hkc | exact Nat.zero_le _) (by first | exact hks | exact Nat.zero_le _) ?_
  refine v_istore O dX2_measure_10 (by rw [hN]; decide) ?_
  refine v_iconst (v := nI 0) O dX2_measure_12 (by decide) ?_
  refine v_istore O dX2_measure_13 (by rw [hN]; decide) ?_
  refine v_ord [0, 1, 2, 4, 6, 7] ?_
  refine lp_measure O hN hst hd hlc ?_ (lc - d) 0 (by omega) (by omega)
  refine v_aload_n O dX2_measure_53 rfl ?_
  refine v_get O dX2_measure_54 flX2_29 3 rfl rfl ?_
  refine v_iload_n O dX2_measure_57 rfl ?_
  refine v_lload_n O dX2_measure_58 rfl ?_
  refine v_last O dX2_measure_59 9 rfl (by decide) (by omega) ?_
  refine v_aload_n O dX2_measure_60 rfl ?_
  refine v_get O dX2_measure_61 flX2_33 3 rfl rfl ?_
  refine v_iload_n O dX2_measure_64 rfl ?_
  refine v_iload O dX2_measure_65 rfl ?_
  refine v_i2l O dX2_measure_67 ?_
  refine v_lload O dX2_measure_68 rfl ?_
  refine v_lmul O dX2_measure_70 ?_
  refine v_lload_n O dX2_measure_71 rfl ?_
  refine v_lload_n O dX2_measure_72 rfl ?_
  refine v_lmul O dX2_measure_73 ?_
  refine v_lsub O dX2_measure_74 ?_
  refine v_last O dX2_measure_75 10 rfl (by decide) (by omega) ?_
  exact v_return O OR dX2_measure_76 (⟨rfl, rfl⟩) (Nat.le_of_ble_eq_true rfl) (Nat.le_of_ble_eq_true rfl)
-- the tree
def tsum (mk : Nat → Bool) (pw : Nat → Nat) (k b s q : Nat) : Nat := sm (fun c => vvp mk pw (b + c) (q + tof k s c)) (2 ^ k)
def treeP (mk : Nat → Bool) (pw : Nat → Nat) (n t k : Nat) (su : Nat → Nat) : Prop := ∀ r q : Nat, r < n → q + r % 2 ^ k < t → su (r * 48 + q) = tsum mk pw k (r - r % 2 ^ k) (r % 2 ^ k) q
theorem sm_split (f : Nat → Nat) (m : Nat) : ∀ k, sm f (m + k) = sm f m + sm (fun i => f (m + i)) k
  | 0 => rfl
  | k + 1 => by
    show sm f (m + k) + f (m + k) = sm f m + (sm (fun i => f (m + i)) k + f (m + k))
    rw [sm_split f m k, Nat.add_assoc]
theorem tree_0 {mk : Nat → Bool} {pw su : Nat → Nat} {n t : Nat} (h : rowsP su (vvp mk pw) (fun _ => t) n) : treeP mk pw n t 0 su := by
  intro r q hr hq
  have e : r % 2 ^ 0 = 0 := Nat.mod_one r
  rw [e] at hq ⊢
  rw [h r q hr (by show q < t; omega)]
  show vvp mk pw r q = 0 + vvp mk pw (r - 0 + 0) (q + 0)
  rw [Nat.zero_add, Nat.sub_zero, Nat.add_zero, Nat.add_zero]
theorem tree_s {mk : Nat → Bool} {pw su sp : Nat → Nat} {n t k : Nat} (hn : n % (2 * 2 ^ k) = 0) (hk : treeP mk pw n t k su) (h : rowsP sp (jrw su (2 ^ k)) (fun r => t - r % (2 * 2 ^ k)) n) : treeP mk pw n t (k + 1) sp := by
  intro r q hr hq
  have e2 : 2 ^ (k + 1) = 2 * 2 ^ k := by rw [Nat.pow_succ, Nat.mul_comm]
  rw [e2] at hq ⊢
  have h1 : 1 ≤ 2 ^ k := Nat.one_le_two_pow
  generalize hH : 2 ^ k = H at *
  have hs : r % (2 * H) < 2 * H := Nat.mod_lt r (by omega)
  have hbd := Nat.div_add_mod r (2 * H)
  generalize hb : r - r % (2 * H) = b at *
  have hb2 : b = 2 * H * (r / (2 * H)) := by omega
  have hbm2 : b % (2 * H) = 0 := by rw [hb2]; exact Nat.mul_mod_right _ _
  have hbm : b % H = 0 := by rw [hb2, Nat.mul_assoc, Nat.mul_left_comm]; exact Nat.mul_mod_right _ _
  have hbn : b + 2 * H ≤ n := by
    have a2 := Nat.div_add_mod n (2 * H)
    rw [hn] at a2
    have a3 : r / (2 * H) < n / (2 * H) := by
      apply Nat.lt_of_not_le
      intro z
      have := Nat.mul_le_mul_left (2 * H) z
      omega
    have a4 := Nat.mul_le_mul_left (2 * H) (Nat.succ_le_of_lt a3)
    rw [Nat.mul_succ] at a4
    omega
  generalize hsv : r % (2 * H) = s at *
  rw [h r q hr (by show q < t - r % (2 * H); rw [hsv]; omega)]
  unfold jrw
  rw [hsv, hb]
  unfold jrow
  obtain ⟨c1, c2⟩ := blk hbm (show s / 2 < H by omega)
  obtain ⟨c3, c4⟩ := blk (show (b + H) % H = 0 by rw [Nat.add_mod_right]; exact hbm) (show s / 2 < H by omega)
  have k1 := hk (b + s / 2) q (by omega) (by rw [hH, c1]; omega)
  have k2 := hk (b + H + s / 2) (q + (s - s / 2)) (by omega) (by rw [hH, c3]; omega)
  rw [hH] at k1 k2
  rw [c1, show b + s / 2 - s / 2 = b by omega] at k1
  rw [c3, show b + H + s / 2 - s / 2 = b + H by omega] at k2
  rw [k1, show (b + H + s / 2) * 48 + s - s / 2 + q = (b + H + s / 2) * 48 + (q + (s - s / 2)) by omega, k2]
  unfold tsum
  rw [e2, hH, show 2 * H = H + H by omega, sm_split]
  congr 1
  · apply sm_cong
    intro c hc
    rw [tof, hH, if_neg (by omega)]
  · apply sm_cong
    intro c hc
    rw [tof, hH, if_pos (by omega), show H + c - H = c by omega, show b + (H + c) = b + H + c by omega, show q + (s - s / 2 + tof k (s / 2) c) = q + (s - s / 2) + tof k (s / 2) c by omega]
/-- the line sum by the class's masks -/
def lnX (mk : Nat → Bool) (pw : Nat → Nat) (K n d q : Nat) : Nat := lin mk pw n (oby K n false d) q
def lnXL (mk : Nat → Bool) (pw : Nat → Nat) (K n d q : Nat) : Int64 := (nI (lnX mk pw K n d q)).toInt64
theorem tree_K {mk : Nat → Bool} {pw su : Nat → Nat} {n t K : Nat} (hn : n = 2 ^ K) (h : treeP mk pw n t K su) (d q : Nat) (hd : d < n) (hq : q + d < t) : su (d * 48 + q) = lnX mk pw K n d q := by
  have e : d % 2 ^ K = d := Nat.mod_eq_of_lt (by rw [← hn]; exact hd)
  rw [h d q hd (by rw [e]; exact hq), e, Nat.sub_self]
  unfold tsum lnX lin
  rw [← hn]
  apply sm_cong
  intro c hc
  rw [Nat.zero_add]
  rfl
/-- what fresh lines are -/
def LnOK (mk : Nat → Bool) (pw : Nat → Nat) (K n t : Nat) (su : Nat → Nat) (tot spr : Nat → Int64) : Prop :=
  (∀ d q, d < n → q + d < t → su (d * 48 + q) = lnX mk pw K n d q) ∧ (∀ d, d < n → tot d = smL (lnXL mk pw K n d) (t - d)) ∧ ∀ d, d < n → spr d = scV (nI (t - d)).toInt64 (smL (lnXL mk pw K n d) (t - d)) (smL (sqL (lnXL mk pw K n d)) (t - d))
theorem smL_cong {f g : Nat → Int64} : ∀ {k : Nat}, (∀ i, i < k → f i = g i) → smL f k = smL g k
  | 0, _ => rfl
  | k + 1, h => by
    show smL f k + f k = smL g k + g k
    rw [smL_cong (fun i hi => h i (by omega)), h k (by omega)]
theorem lp_refJoin {E : ET} {G : GT} (O : OKG E G cX2_refresh RX2 (rmL 4) []) (hN : nLG G = 3) {ad : Nat → Nat} {n t dr : Nat} {pw pe : Nat → Nat} {mk : Nat → Bool} {len : Nat} {cod : Nat → Nat} {fr : Bool} {ls lc u v : Nat} {su sp : Nat → Nat} {tot spr : Nat → Int64} {mm : Nat} {fs fc fw : Nat → Nat} {sc : Nat → Int64} {fe : Nat → Nat} {K : Nat} (hst : E.1.stackTraces = false) (hn : n = 2 ^ K) (hK4 : K ≤ 4) (hls : ls = n) (hlc : lc = t) (ht : t ≤ 48) (kk : ∀ u v su sp, treeP mk pw n t K su → V E G 0 0 51 [(0, .ref (ad 3))] [] (WX E ad n t dr pw pe mk len cod fr ls lc u v su sp tot spr mm fs fc fw sc fe)) : ∀ j k b : Nat, ∀ u v su sp, k ≤ K → b = 2 ^ k → treeP mk pw n t k su → j = K - k → V E G 0 0 31 [(0, .ref (ad 3)), (2, .int (nI b))] [] (WX E ad n t dr pw pe mk len cod fr ls lc u v su sp tot spr mm fs fc fw sc fe) := by
  have hn16 : n ≤ 16 := by rw [hn]; exact Nat.pow_le_pow_right (n := 2) (i := K) (j := 4) (by decide) hK4
  intro j
  induction j using Nat.strongRecOn with
  | _ j ih =>
    intro k b u v su sp hk hb htr hj
    have hb16 : b ≤ n := by rw [hb, hn]; exact Nat.pow_le_pow_right (by decide) hk
    refine v_iload_n O dX2_refresh_31 rfl ?_
    refine v_aload_n O dX2_refresh_32 rfl ?_
    refine v_get O dX2_refresh_33 flX2_15 3 rfl rfl ?_
    refine v_icmpN_ge (tgt := 51) O dX2_refresh_36 (by decide) (by omega) (by omega) (fun h => ?_) (fun h => ?_)
    · have e : k = K := by
        rcases Nat.lt_or_ge k K with g | g
        · have := Nat.pow_lt_pow_right (a := 2) (m := k) (n := K) (by decide) g
          omega
        · omega
      subst e
      refine v_ord [0] ?_
      exact kk u v su sp htr
    · have hkK : k < K := by
        rcases Nat.lt_or_ge k K with g | g
        · exact g
        · have : k = K := by omega
          subst this
          omega
      have hdv : n % (2 * 2 ^ k) = 0 := by
        rw [hn, show 2 * 2 ^ k = 2 ^ (k + 1) by rw [Nat.pow_succ, Nat.mul_comm]]
        exact Nat.mod_eq_zero_of_dvd (Nat.pow_dvd_pow 2 (by omega))
      refine v_aload_n O dX2_refresh_39 rfl ?_
      refine v_iload_n O dX2_refresh_40 rfl ?_
      refine v_callV (mc := 0) (ms := 0) O dX2_refresh_41 lkX2_52 (x_joinBlocks hst b (by omega) (by omega) hb (by rw [hls, hb]; exact hdv)) 3 rfl rfl rfl rfl rfl (fun r9 u9 h9 => ?_) kx_no
      obtain ⟨rfl, sp', hr, rfl⟩ := h9
      refine v_iload_n O dX2_refresh_44 rfl ?_
      refine v_iconst (v := nI 2) O dX2_refresh_45 (by decide) ?_
      refine v_imulN O dX2_refresh_46 ?_
      refine v_istore_n O dX2_refresh_47 (by rw [hN]; decide) ?_
      refine v_goto (tgt := 31) O dX2_refresh_48 (by decide) ?_
      refine v_ord [0, 2] ?_
      refine ih (j - 1) (by omega) (k + 1) (b * 2) v u sp' su (by omega) (by rw [hb, Nat.pow_succ]) ?_ (by omega)
      refine tree_s hdv htr ?_
      rw [hls, hlc, hb] at hr
      exact hr
theorem lp_refMeas {E : ET} {G : GT} (O : OKG E G cX2_refresh RX2 (rmL 4) []) (hN : nLG G = 3) {ad : Nat → Nat} {n t dr : Nat} {pw pe : Nat → Nat} {mk : Nat → Bool} {len : Nat} {cod : Nat → Nat} {fr : Bool} {ls lc u v : Nat} {su sp : Nat → Nat} {tot spr : Nat → Int64} {mm : Nat} {fs fc fw : Nat → Nat} {sc : Nat → Int64} {fe : Nat → Nat} (hst : E.1.stackTraces = false) (hls : ls = n) (hn : n ≤ 16) (hlc : lc ≤ 48) (kk : ∀ tot spr, (∀ d, d < n → tot d = smL (rowL su d) (lc - d) ∧ spr d = scV (nI (lc - d)).toInt64 (smL (rowL su d) (lc - d)) (smL (sqL (rowL su d)) (lc - d))) → V E G 0 0 72 [(0, .ref (ad 3))] [] (WX E ad n t dr pw pe mk len cod fr ls lc u v su sp tot spr mm fs fc fw sc fe)) : ∀ j c : Nat, ∀ tot spr, c ≤ n → (∀ d, d < c → tot d = smL (rowL su d) (lc - d) ∧ spr d = scV (nI (lc - d)).toInt64 (smL (rowL su d) (lc - d)) (smL (sqL (rowL su d)) (lc - d))) → j = n - c → V E G 0 0 53 [(0, .ref (ad 3)), (2, .int (nI c))] [] (WX E ad n t dr pw pe mk len cod fr ls lc u v su sp tot spr mm fs fc fw sc fe) := by
  intro j
  induction j using Nat.strongRecOn with
  | _ j ih =>
    intro c tot spr hc hd hj
    refine v_iload_n O dX2_refresh_53 rfl ?_
    refine v_aload_n O dX2_refresh_54 rfl ?_
    refine v_get O dX2_refresh_55 flX2_15 3 rfl rfl ?_
    refine v_icmpN_ge (tgt := 72) O dX2_refresh_58 (by decide) (by omega) (by omega) (fun h => ?_) (fun h => ?_)
    · have e : c = n := by omega
      subst e
      refine v_ord [0] ?_
      exact kk tot spr hd
    · refine v_aload_n O dX2_refresh_61 rfl ?_
      refine v_iload_n O dX2_refresh_62 rfl ?_
      refine v_V0 O dX2_refresh_63 lkX2_56 (x_measure hst c (by omega) hlc) 3 rfl rfl rfl rfl rfl (by first | exact hkc | exact Nat.zero_le _) (by first | exact hks | exact Nat.zero_le _) ?_
      refine v_iincN (b := 1) O dX2_refresh_66 rfl (by decide) (by rw [hN]; decide) ?_
      refine v_goto (tgt := 53) O dX2_refresh_69 (by decide) ?_
      refine v_ord [0, 2] ?_
      refine ih (j - 1) (by omega) (c + 1) _ _ (by omega) (fun d hd2 => ?_) (by omega)
      rcases Nat.lt_or_ge d c with g | g
      · rw [pk_uLn (by omega), pk_uLn (by omega)]
        exact hd d g
      · rw [show d = c by omega, pk_uLs, pk_uLs]
        exact ⟨rfl, rfl⟩
theorem x_refresh {E : ET} {ad : Nat → Nat} {n t dr : Nat} {pw pe : Nat → Nat} {mk : Nat → Bool} {len : Nat} {cod : Nat → Nat} {fr : Bool} {ls lc u v : Nat} {su sp : Nat → Nat} {tot spr : Nat → Int64} {mm : Nat} {fs fc fw : Nat → Nat} {sc : Nat → Int64} {fe : Nat → Nat} {K : Nat} (hst : E.1.stackTraces = false) (hK : 1 ≤ K) (hK4 : K ≤ 4) (hn : n = 2 ^ K) (ht : t ≤ 48) (hfr : fr = true → ls = n ∧ lc = t ∧ LnOK mk pw K n t su tot spr) : Ctr E yX2_refresh cdX2_refresh (rmL 4) [.ref (ad 3), .ref (ad 1)] (WX E ad n t dr pw pe mk len cod fr ls lc u v su sp tot spr mm fs fc fw sc fe) (fun r w' => r = none ∧ ∃ u v su sp tot spr, LnOK mk pw K n t su tot spr ∧ w' = (WX E ad n t dr pw pe mk len cod (true) (n) (t) u v su sp tot spr mm fs fc fw sc fe)) noX 0 0 := by
  obtain ⟨g1, g2⟩ := two_le hn hK hK4
  refine ctr_of hst (by decide) (Nat.le_of_ble_eq_true rfl) (fun G O OR hN => ?_)
  have O : OKG E G cX2_refresh RX2 (rmL 4) [] := O
  have hN : nLG G = 3 := hN
  refine v_aload_n O dX2_refresh_0 rfl ?_
  refine v_get O dX2_refresh_1 flX2_9 3 rfl rfl ?_
  refine v_ifB_eq (tgt := 8) O dX2_refresh_4 (by decide) (fun h => ?_) (fun h => ?_)
  · refine v_aload_n O dX2_refresh_8 rfl ?_
    refine v_aload_n O dX2_refresh_9 rfl ?_
    refine v_getN O dX2_refresh_10 flX2_42 1 rfl rfl ?_
    refine v_put (ty := .int) O dX2_refresh_13 flX2_15 ftX2 3 rfl rfl (by decide +kernel) rfl rfl (Nat.le_of_ble_eq_true rfl) ?_
    refine v_aload_n O dX2_refresh_16 rfl ?_
    refine v_aload_n O dX2_refresh_17 rfl ?_
    refine v_getN O dX2_refresh_18 flX2_47 1 rfl rfl ?_
    refine v_put (ty := .int) O dX2_refresh_21 flX2_19 ftX2 3 rfl rfl (by decide +kernel) rfl rfl (Nat.le_of_ble_eq_true rfl) ?_
    refine v_aload_n O dX2_refresh_24 rfl ?_
    refine v_aload_n O dX2_refresh_25 rfl ?_
    refine v_w (w' := (WX E ad n t dr pw pe mk len cod fr (n) (t) u v su sp tot spr mm fs fc fw sc fe)) rfl ?_
    refine v_callV (mc := 0) (ms := 0) O dX2_refresh_26 lkX2_48 (x_copyPowers hst g2 ht) 3 rfl rfl rfl rfl rfl (fun r9 u9 h9 => ?_) kx_no
    obtain ⟨rfl, su, hr, rfl⟩ := h9
    refine v_iconst (v := nI 1) O dX2_refresh_29 (by decide) ?_
    refine v_istore_n O dX2_refresh_30 (by rw [hN]; decide) ?_
    refine v_ord [0, 2] ?_
    refine lp_refJoin (u := u) (v := v) (su := su) (sp := sp) O hN hst hn hK4 rfl rfl ht ?_ K 0 1 u v su sp (by omega) rfl (tree_0 hr) (by omega)
    intro u v su sp htr
    refine v_iconst (v := nI 0) O dX2_refresh_51 (by decide) ?_
    refine v_istore_n O dX2_refresh_52 (by rw [hN]; decide) ?_
    refine v_ord [0, 2] ?_
    refine lp_refMeas (tot := tot) (spr := spr) O hN hst rfl g2 ht ?_ n 0 tot spr (by omega) (fun d hd => by omega) (by omega)
    intro tot spr hm
    have e1 : ∀ d, d < n → ∀ q, q < t - d → rowL su d q = lnXL mk pw K n d q := fun d hd q hq => by
      unfold rowL lnXL
      rw [tree_K hn htr d q hd (by omega)]
    refine v_aload_n O dX2_refresh_72 rfl ?_
    refine v_iconst (v := bI true) O dX2_refresh_73 (by decide) ?_
    refine v_put (ty := .boolean) O dX2_refresh_74 flX2_9 ftX2 3 rfl rfl (by decide +kernel) (by decide) rfl (Nat.le_of_ble_eq_true rfl) ?_
    exact v_return O OR dX2_refresh_77 (⟨rfl, u, v, su, sp, tot, spr, ⟨fun d q hd hq => tree_K hn htr d q hd hq, fun d hd => by rw [(hm d hd).1, smL_cong (e1 d hd)], fun d hd => by rw [(hm d hd).2, smL_cong (e1 d hd), smL_cong (fun i hi => show sqL (rowL su d) i = sqL (lnXL mk pw K n d) i by unfold sqL; rw [e1 d hd i hi])]⟩, rfl⟩) (Nat.le_of_ble_eq_true rfl) (Nat.le_of_ble_eq_true rfl)
  · obtain ⟨f1, f2, f3⟩ := hfr h
    subst f1; subst f2; subst h
    exact v_return O OR dX2_refresh_7 (⟨rfl, u, v, su, sp, tot, spr, f3, rfl⟩) (Nat.le_of_ble_eq_true rfl) (Nat.le_of_ble_eq_true rfl)
theorem lp_sumOfBox {E : ET} {G : GT} (O : OKG E G cX2_sumOfBox RX2 (rmL 2) []) (hN : nLG G = 6) {ad : Nat → Nat} {n t dr : Nat} {pw pe : Nat → Nat} {mk : Nat → Bool} {len : Nat} {cod : Nat → Nat} {fr : Bool} {ls lc u v : Nat} {su sp : Nat → Nat} {tot spr : Nat → Int64} {mm : Nat} {fs fc fw : Nat → Nat} {sc : Nat → Int64} {fe : Nat → Nat} {d q wd : Nat} (hst : E.1.stackTraces = false) (hd : d < 16) (hq : q + wd ≤ 48) (kk : V E G 0 0 32 [(4, .int (nI (sm (fun i => su (d * 48 + (q + i))) wd)))] [] (WX E ad n t dr pw pe mk len cod fr ls lc u v su sp tot spr mm fs fc fw sc fe)) : ∀ j i : Nat, i ≤ wd → j = wd - i → V E G 0 0 6 [(0, .ref (ad 3)), (1, .int (nI d)), (2, .int (nI q)), (3, .int (nI wd)), (4, .int (nI (sm (fun i => su (d * 48 + (q + i))) i))), (5, .int (nI (q + i)))] [] (WX E ad n t dr pw pe mk len cod fr ls lc u v su sp tot spr mm fs fc fw sc fe) := by
  intro j
  induction j using Nat.strongRecOn with
  | _ j ih =>
    intro i hi hj
    refine v_iload O dX2_sumOfBox_6 rfl ?_
    refine v_iload_n O dX2_sumOfBox_8 rfl ?_
    refine v_iload_n O dX2_sumOfBox_9 rfl ?_
    refine v_iaddN O dX2_sumOfBox_10 ?_
    refine v_icmpN_ge (tgt := 32) O dX2_sumOfBox_11 (by decide) (by omega) (by omega) (fun h => ?_) (fun h => ?_)
    · have e : i = wd := by omega
      subst e
      refine v_ord [4] ?_
      exact kk
    · refine v_iload O dX2_sumOfBox_14 rfl ?_
      refine v_aload_n O dX2_sumOfBox_16 rfl ?_
      refine v_iload_n O dX2_sumOfBox_17 rfl ?_
      refine v_iload O dX2_sumOfBox_18 rfl ?_
      refine v_V1 O dX2_sumOfBox_20 lkX2_74 (x_sumAt hst d (q + i) hd (by omega)) 3 rfl rfl rfl rfl rfl (by first | exact hkc | exact Nat.zero_le _) (by first | exact hks | exact Nat.zero_le _) ?_
      refine v_iaddN O dX2_sumOfBox_23 ?_
      refine v_istore O dX2_sumOfBox_24 (by rw [hN]; decide) ?_
      refine v_iincN (b := 1) O dX2_sumOfBox_26 rfl (by decide) (by rw [hN]; decide) ?_
      refine v_goto (tgt := 6) O dX2_sumOfBox_29 (by decide) ?_
      refine v_ord [0, 1, 2, 3, 4, 5] ?_
      exact ih (j - 1) (by omega) (i + 1) (by omega) (by omega)
theorem x_sumOfBox {E : ET} {ad : Nat → Nat} {n t dr : Nat} {pw pe : Nat → Nat} {mk : Nat → Bool} {len : Nat} {cod : Nat → Nat} {fr : Bool} {ls lc u v : Nat} {su sp : Nat → Nat} {tot spr : Nat → Int64} {mm : Nat} {fs fc fw : Nat → Nat} {sc : Nat → Int64} {fe : Nat → Nat} (hst : E.1.stackTraces = false) (d q wd : Nat) (hd : d < 16) (hq : q + wd ≤ 48) : Ctr E yX2_sumOfBox cdX2_sumOfBox (rmL 2) [.ref (ad 3), .int (nI d), .int (nI q), .int (nI wd)] (WX E ad n t dr pw pe mk len cod fr ls lc u v su sp tot spr mm fs fc fw sc fe) (pR (some (.int (nI (sm (fun i => su (d * 48 + (q + i))) wd)))) (WX E ad n t dr pw pe mk len cod fr ls lc u v su sp tot spr mm fs fc fw sc fe)) noX 0 0 := by
  refine ctr_of hst (by decide) (Nat.le_of_ble_eq_true rfl) (fun G O OR hN => ?_)
  have O : OKG E G cX2_sumOfBox RX2 (rmL 2) [] := O
  have hN : nLG G = 6 := hN
  refine v_iconst (v := nI 0) O dX2_sumOfBox_0 (by decide) ?_
  refine v_istore O dX2_sumOfBox_1 (by rw [hN]; decide) ?_
  refine v_iload_n O dX2_sumOfBox_3 rfl ?_
  refine v_istore O dX2_sumOfBox_4 (by rw [hN]; decide) ?_
  refine v_ord [0, 1, 2, 3, 4, 5] ?_
  refine lp_sumOfBox O hN hst hd hq ?_ wd 0 (by omega) (by omega)
  refine v_iload O dX2_sumOfBox_32 rfl ?_
  exact v_ireturn O OR dX2_sumOfBox_34 (⟨rfl, rfl⟩) (Nat.le_of_ble_eq_true rfl) (Nat.le_of_ble_eq_true rfl)
/-- the class's score: excess and divisor -/
def scX (N S Vv : Int64) (b : Int64) (wd : Nat) : Int64 := if 0 < N * b - (nI wd).toInt64 * S ∧ 0 < (nI wd).toInt64 * Vv then 1000 * (N * b - (nI wd).toInt64 * S) * (N * b - (nI wd).toInt64 * S) / ((nI wd).toInt64 * Vv) else 0
theorem x_scoreOf {E : ET} {ad : Nat → Nat} {n t dr : Nat} {pw pe : Nat → Nat} {mk : Nat → Bool} {len : Nat} {cod : Nat → Nat} {fr : Bool} {ls lc u v : Nat} {su sp : Nat → Nat} {tot spr : Nat → Int64} {mm : Nat} {fs fc fw : Nat → Nat} {sc : Nat → Int64} {fe : Nat → Nat} (hst : E.1.stackTraces = false) (hlc : lc ≤ 48) (d wd : Nat) (b : Int64) (hd : d < 16) : Ctr E yX2_scoreOf cdX2_scoreOf (rmL 2) [.ref (ad 3), .int (nI d), .int (nI wd), .long b] (WX E ad n t dr pw pe mk len cod fr ls lc u v su sp tot spr mm fs fc fw sc fe) (pR (some (.long (scX (nI (lc - d)).toInt64 (tot d) (spr d) b wd))) (WX E ad n t dr pw pe mk len cod fr ls lc u v su sp tot spr mm fs fc fw sc fe)) noX 0 0 := by
  refine ctr_of hst (by decide) (Nat.le_of_ble_eq_true rfl) (fun G O OR hN => ?_)
  have O : OKG E G cX2_scoreOf RX2 (rmL 2) [] := O
  have hN : nLG G = 9 := hN
  refine v_aload_n O dX2_scoreOf_0 rfl ?_
  refine v_iload_n O dX2_scoreOf_1 rfl ?_
  refine v_V1 O dX2_scoreOf_2 lkX2_70 (x_linesOf hst hlc d hd) 3 rfl rfl rfl rfl rfl (by first | exact hkc | exact Nat.zero_le _) (by first | exact hks | exact Nat.zero_le _) ?_
  refine v_i2l O dX2_scoreOf_5 ?_
  refine v_lload_n O dX2_scoreOf_6 rfl ?_
  refine v_lmul O dX2_scoreOf_7 ?_
  refine v_iload_n O dX2_scoreOf_8 rfl ?_
  refine v_i2l O dX2_scoreOf_9 ?_
  refine v_aload_n O dX2_scoreOf_10 rfl ?_
  refine v_get O dX2_scoreOf_11 flX2_29 3 rfl rfl ?_
  refine v_iload_n O dX2_scoreOf_14 rfl ?_
  refine v_lald O dX2_scoreOf_15 9 rfl (by decide) (by omega) ?_
  refine v_lmul O dX2_scoreOf_16 ?_
  refine v_lsub O dX2_scoreOf_17 ?_
  refine v_lstore O dX2_scoreOf_18 (by rw [hN]; decide) ?_
  refine v_iload_n O dX2_scoreOf_20 rfl ?_
  refine v_i2l O dX2_scoreOf_21 ?_
  refine v_aload_n O dX2_scoreOf_22 rfl ?_
  refine v_get O dX2_scoreOf_23 flX2_33 3 rfl rfl ?_
  refine v_iload_n O dX2_scoreOf_26 rfl ?_
  refine v_lald O dX2_scoreOf_27 10 rfl (by decide) (by omega) ?_
  refine v_lmul O dX2_scoreOf_28 ?_
  refine v_lstore O dX2_scoreOf_29 (by rw [hN]; decide) ?_
  refine v_lload O dX2_scoreOf_31 rfl ?_
  refine v_lconst (v := 0) O dX2_scoreOf_33 (by decide) ?_
  refine v_lcmp O dX2_scoreOf_34 ?_
  have key : ¬ (0 < (nI (lc - d)).toInt64 * b - (nI wd).toInt64 * tot d ∧ 0 < (nI wd).toInt64 * spr d) → ∀ lv, V E G 0 0 45 lv [] (WX E ad n t dr pw pe mk len cod fr ls lc u v su sp tot spr mm fs fc fw sc fe) := by
    intro hx lv
    refine v_lconst (v := 0) O dX2_scoreOf_45 (by decide) ?_
    exact v_lreturn O OR dX2_scoreOf_46 (⟨by unfold scX; rw [if_neg hx], rfl⟩) (Nat.le_of_ble_eq_true rfl) (Nat.le_of_ble_eq_true rfl)
  refine v_ifC_le (tgt := 45) O dX2_scoreOf_35 (by decide) (fun h => ?_) (fun h => ?_)
  · exact key (fun z => le0_64.mp h z.1) _
  · have h : 0 < (nI (lc - d)).toInt64 * b - (nI wd).toInt64 * tot d := Classical.not_not.mp (fun z => h (le0_64.mpr z))
    refine v_lload O dX2_scoreOf_38 rfl ?_
    refine v_lconst (v := 0) O dX2_scoreOf_40 (by decide) ?_
    refine v_lcmp O dX2_scoreOf_41 ?_
    refine v_ifC_gt (tgt := 47) O dX2_scoreOf_42 (by decide) (fun h2 => ?_) (fun h2 => ?_)
    · refine v_ldc2 O dX2_scoreOf_47 clX2_77 ?_
      refine v_lload O dX2_scoreOf_50 rfl ?_
      refine v_lmul O dX2_scoreOf_52 ?_
      refine v_lload O dX2_scoreOf_53 rfl ?_
      refine v_lmul O dX2_scoreOf_55 ?_
      refine v_lload O dX2_scoreOf_56 rfl ?_
      refine v_ldiv O dX2_scoreOf_58 (fun z => by rw [z] at h2; exact absurd h2 (by decide)) ?_
      exact v_lreturn O OR dX2_scoreOf_59 (⟨by unfold scX; rw [if_pos ⟨h, h2⟩], rfl⟩) (Nat.le_of_ble_eq_true rfl) (Nat.le_of_ble_eq_true rfl)
    · exact key (fun z => h2 z.2) _
