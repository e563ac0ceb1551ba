/-! the law's loop and its head -/
theorem and31 (x : Int32) : ∃ c : Nat, c < 32 ∧ x &&& nI 31 = nI c := by
  have h : (x &&& nI 31).toBitVec = x.toBitVec &&& 31#32 := rfl
  refine ⟨(x &&& nI 31).toBitVec.toNat, ?_, ?_⟩
  · rw [h, BitVec.toNat_and]
    have := Nat.and_le_right (n := x.toBitVec.toNat) (m := (31#32).toNat)
    have e : (31#32).toNat = 31 := rfl
    omega
  · apply Int32.toBitVec_inj.mp
    show _ = BitVec.ofNat 32 _
    rw [BitVec.ofNat_toNat, BitVec.setWidth_eq]
section LP
variable {E : ET} {G : GT} {tb : List ExceptionTableEntry}
theorem v_swap {k n pc : Nat} {lv : List (Nat × Value)} {st : List Value} {w1 w2 w3 : va_W} (kk : V E G k n pc lv st (w2 ++ (w1 ++ w3))) : V E G k n pc lv st ((w1 ++ w2) ++ w3) := by
  obtain ⟨p, R, s, m, args, below, meth, c, Q, A, nL, e⟩ := G
  intro H locs ls hl hP hD hS
  obtain ⟨p1, p3⟩ := P_app.mp hP
  obtain ⟨p1, p2⟩ := P_app.mp p1
  obtain ⟨d1, d3, e1⟩ := D_app.mp hD
  obtain ⟨d1, d2, e2⟩ := D_app.mp d1
  refine kk H locs ls hl (P_app.mpr ⟨p2, P_app.mpr ⟨p1, p3⟩⟩) (D_app.mpr ⟨d2, D_app.mpr ⟨d1, d3, fun p hp q hq => e1 p (List.mem_append_left _ hp) q hq⟩, fun p hp q hq => ?_⟩) hS
  rcases List.mem_append.mp hq with h | h
  · exact fun e => e2 q h p hp e.symm
  · exact e1 p (List.mem_append_right _ hp) q h
theorem lawLoop (O : OKG E G cL_law RL room_1 tb) (hst : E.1.stackTraces = false) (hN : nLG G = 9) {b L : Nat} {xs : Nat → Int32} (hX : scrG G b L xs) (hL : L ≤ 2048) {ax am : Nat → Nat} {o o2 : Nat} (fin : ∀ k n lv w, k ≤ 1069 → n ≤ 11774 → V E G k n 1550 lv [.int 1] w) : ∀ r j, L - 4 * j = r → 4 * j ≤ L → ∀ (f : Nat → Int64) (g : Nat → UInt64) (th : Nat) (wx wm : va_W), REL E ax am th wx wm → V E G (29 + j) (3486 + 6 * j) 28 (lvL b (ax 0) (am 0) o o2 j) [] (wm ++ (wx ++ oW E o f o2 g)) := by
  intro r
  induction r using Nat.strongRecOn with
  | _ r ih =>
    intro j hr hjL f g th wx wm R
    refine v_iload O dL_law_28 rfl ?_
    refine v_aload_n O dL_law_30 rfl ?_
    refine v_slen O hX dL_law_31 ?_
    refine v_iconst (v := nI 4) O dL_law_32 (by decide) ?_
    refine v_isub O dL_law_33 ?_
    refine v_icmp_gt (tgt := 1549) O dL_law_34 (by decide) (fun _ => ?_) (fun h => ?_)
    · refine v_iconst (v := 1) O dL_law_1549 (by decide) ?_
      exact fin _ _ _ _ (by omega) (by omega)
    · have h4 : 4 * j + 4 ≤ L := by
        rw [fa_lt, pk_sub_toInt (by omega) (by omega), nI_toInt (by omega)] at h
        omega
      refine v_aload_n O dL_law_37 rfl ?_
      refine v_iload O dL_law_38 rfl ?_
      refine v_sld O hX hL (show 4 * j < L by omega) dL_law_40 ?_
      refine v_bipush (v := nI 31) O dL_law_41 (by decide) ?_
      refine v_iand O dL_law_43 ?_
      have tail : ∀ (f : Nat → Int64) (g : Nat → UInt64) (th : Nat) (wx wm : va_W), REL E ax am th wx wm → V E G (29 + j + 1) (3486 + 6 * j + 6) 1543 (lvL b (ax 0) (am 0) o o2 j) [] (wm ++ (wx ++ oW E o f o2 g)) := by
        intro f g th wx wm R
        refine v_iincN (a := 4 * j) (b := 4) O dL_law_1543 rfl (by decide) (by rw [hN]; decide) ?_
        refine v_goto (tgt := 28) O dL_law_1546 (by decide) ?_
        refine v_ord [0, 1, 2, 3, 4, 5] ?_
        have h9 := ih (L - 4 * (j + 1)) (by omega) (j + 1) rfl (by omega) f g th wx wm R
        rw [show 29 + (j + 1) = 29 + j + 1 by omega, show 3486 + 6 * (j + 1) = 3486 + 6 * j + 6 by omega] at h9
        exact h9
      obtain ⟨c, hc, e⟩ := and31 (xs (4 * j))
      rw [e]
      by_cases hc2 : 23 ≤ c
      · refine v_tableOut (tgt := 1543) O dL_law_44 (Or.inr ?_) (by decide) ?_
        · rw [nI_toInt (by omega)]
          omega
        · exact v_widen (by omega) (by omega) (tail f g th wx wm R)
      · have h9 : c = 0 ∨ c = 1 ∨ c = 2 ∨ c = 3 ∨ c = 4 ∨ c = 5 ∨ c = 6 ∨ c = 7 ∨ c = 8 ∨ c = 9 ∨ c = 10 ∨ c = 11 ∨ c = 12 ∨ c = 13 ∨ c = 14 ∨ c = 15 ∨ c = 16 ∨ c = 17 ∨ c = 18 ∨ c = 19 ∨ c = 20 ∨ c = 21 ∨ c = 22 := by omega
        rcases h9 with rfl | rfl | rfl | rfl | rfl | rfl | rfl | rfl | rfl | rfl | rfl | rfl | rfl | rfl | rfl | rfl | rfl | rfl | rfl | rfl | rfl | rfl | rfl
        · exact v_tableIn (tgt := 152) O dL_law_44 (by decide) (by decide) rfl (by decide) (b_setChannels O hst hN hX hL R h4 (by omega) (by omega) tail)
        · exact v_tableIn (tgt := 208) O dL_law_44 (by decide) (by decide) rfl (by decide) (b_setPending O hst hN hX hL R h4 (by omega) (by omega) tail)
        · exact v_tableIn (tgt := 276) O dL_law_44 (by decide) (by decide) rfl (by decide) (b_advance O hst hN hX hL R h4 (by omega) (by omega) tail)
        · exact v_tableIn (tgt := 289) O dL_law_44 (by decide) (by decide) rfl (by decide) (b_append O hst hN hX hL R h4 (by omega) (by omega) tail)
        · exact v_tableIn (tgt := 345) O dL_law_44 (by decide) (by decide) rfl (by decide) (b_clearInput O hst hN hX hL R h4 (by omega) (by omega) tail)
        · exact v_tableIn (tgt := 358) O dL_law_44 (by decide) (by decide) rfl (by decide) (b_firstError O hst hN hX hL R h4 (by omega) (by omega) tail)
        · exact v_tableIn (tgt := 371) O dL_law_44 (by decide) (by decide) rfl (by decide) (b_load O hst hN hX hL R h4 (by omega) (by omega) tail)
        · exact v_tableIn (tgt := 415) O dL_law_44 (by decide) (by decide) rfl (by decide) (b_inject O hst hN hX hL R h4 (by omega) (by omega) tail)
        · exact v_tableIn (tgt := 495) O dL_law_44 (by decide) (by decide) rfl (by decide) (b_power O hst hN hX hL R h4 (by omega) (by omega) tail)
        · exact v_tableIn (tgt := 563) O dL_law_44 (by decide) (by decide) rfl (by decide) (b_count O hst hN hX hL R h4 (by omega) (by omega) tail)
        · exact v_tableIn (tgt := 619) O dL_law_44 (by decide) (by decide) rfl (by decide) (b_setMasked O hst hN hX hL R h4 (by omega) (by omega) tail)
        · exact v_tableIn (tgt := 710) O dL_law_44 (by decide) (by decide) rfl (by decide) (b_channelSum O hst hN hX hL R h4 (by omega) (by omega) tail)
        · exact v_tableIn (tgt := 766) O dL_law_44 (by decide) (by decide) rfl (by decide) (b_strike O hst hN hX hL R h4 (by omega) (by omega) tail)
        · exact v_tableIn (tgt := 822) O dL_law_44 (by decide) (by decide) rfl (by decide) (b_offset O hst hN hX hL R h4 (by omega) (by omega) tail)
        · exact v_tableIn (tgt := 918) O dL_law_44 (by decide) (by decide) rfl (by decide) (b_bend O hst hN hX hL R h4 (by omega) (by omega) tail)
        · exact v_tableIn (tgt := 974) O dL_law_44 (by decide) (by decide) rfl (by decide) (b_lineSum O hst hN hX hL R h4 (by omega) (by omega) tail)
        · exact v_tableIn (tgt := 1070) O dL_law_44 (by decide) (by decide) rfl (by decide) (b_mean O hst hN hX hL R h4 (by omega) (by omega) tail)
        · exact v_tableIn (tgt := 1147) O dL_law_44 (by decide) (by decide) rfl (by decide) (b_boxSum O hst hN hX hL R h4 (by omega) (by omega) tail)
        · exact v_tableIn (tgt := 1227) O dL_law_44 (by decide) (by decide) rfl (by decide) (b_score O hst hN hX hL R h4 (by omega) (by omega) tail)
        · exact v_tableIn (tgt := 1306) O dL_law_44 (by decide) (by decide) rfl (by decide) (b_find O hst hN hX hL R h4 (by omega) (by omega) tail)
        · exact v_tableIn (tgt := 1406) O dL_law_44 (by decide) (by decide) rfl (by decide) (b_candidate O hst hN hX hL R h4 (by omega) (by omega) tail)
        · exact v_tableIn (tgt := 1473) O dL_law_44 (by decide) (by decide) rfl (by decide) (b_candidateAt O hst hN hX hL R h4 (by omega) (by omega) tail)
        · exact v_tableIn (tgt := 1529) O dL_law_44 (by decide) (by decide) rfl (by decide) (b_digest O hst hN hX hL R h4 (by omega) (by omega) tail)
theorem rel_0 {E : ET} {ax am : Nat → Nat} {u v : Nat} : REL E ax am 0 (WX E ax 4 0 0 (fun _ => 0) (fun _ => 0) (fun _ => false) 0 (fun _ => 0) false 0 0 u v (fun _ => 0) (fun _ => 0) (fun _ => 0) (fun _ => 0) 0 (fun _ => 0) (fun _ => 0) (fun _ => 0) (fun _ => 0) (fun _ => 0)) (WM E am 0 4 0 0 0 (fun _ => 0) (fun _ => 0) 0 (fun _ => 0) 0 (fun _ => 0) (fun _ => 0) (fun _ => 0) (fun _ => 0) (fun _ => 0) 0 0 0 0) :=
  rel_mk (K := 2) (FX := (fun _ => 0, fun _ => 0, fun _ => 0, fun _ => 0)) (FM := (fun _ => 0, fun _ => 0, fun _ => 0, fun _ => 0)) ⟨⟨by decide, by decide, by decide, by decide⟩, fun j => ⟨Nat.zero_le _, fun _ => rfl⟩, ⟨by decide, fun j hj => absurd hj (Nat.not_lt_zero _)⟩, ⟨by decide, fun k hk => absurd hk (Nat.not_lt_zero _), fun k hk => absurd hk (Nat.not_lt_zero _)⟩, ⟨fun j => Nat.zero_le _, fun j => Nat.zero_le _, fun c q _ _ => rfl⟩, ⟨by decide, fun c _ => (mb_0 c).symm, fun c _ => mb_0 c⟩, fun h => by cases h⟩
theorem lawHead (O : OKG E G cL_law RL room_1 tb) (hst : E.1.stackTraces = false) (hN : nLG G = 9) {b L : Nat} {xs : Nat → Int32} (hX : scrG G b L xs) (hL : L ≤ 2048) (fin : ∀ k n lv w, k ≤ 1069 → n ≤ 11774 → V E G k n 1550 lv [.int 1] w) : V E G 0 0 0 [(0, .ref b)] [] [] := by
  refine v_newobj (ci := 4) (N := 4) (T := TX4) (C := RX4) (fs := [.null, .null, .null, .null]) O dL_law_0 rfl uwX4 tyX4 tyX4_ok cnL_8 isX4 inX4 z_X4 (Nat.le_of_ble_eq_true rfl) (Nat.le_of_ble_eq_true rfl) (fun a => ?_)
  refine v_dup O dL_law_3 rfl ?_
  refine v_cv (w' := [] ++ ([(a, .inr (4, [.null, .null, .null, .null]))] ++ [])) ?_
  refine v_callIJ (As := []) (st := [.ref a]) O dL_law_4 lkIL_82 (i_X4 (a := a) hst) rfl rfl ⟨rfl, rfl, by decide, by decide, Nat.le_of_ble_eq_true rfl, Nat.le_of_ble_eq_true rfl⟩ (fun r w h => ?_) (fun _ _ h => False.elim h)
  obtain ⟨rfl, ax, u, v, rfl, rfl⟩ := h
  refine v_astore_n O dL_law_7 (by rw [hN]; decide) ?_
  refine v_newobj (ci := 5) (N := 19) (T := TX5) (C := RX5) (fs := [.int 0, .int 0, .int 0, .int 0, .int 0, .null, .null, .int 0, .null, .int 0, .null, .null, .null, .null, .null, .long 0, .long 0, .long 0, .long 0]) O dL_law_8 rfl uwX5 tyX5 tyX5_ok cnL_83 isX5 inX5 z_X5 (Nat.le_of_ble_eq_true rfl) (Nat.le_of_ble_eq_true rfl) (fun a2 => ?_)
  refine v_dup O dL_law_11 rfl ?_
  refine v_w (w' := WX E ax 4 0 0 (fun _ => 0) (fun _ => 0) (fun _ => false) 0 (fun _ => 0) false 0 0 u v (fun _ => 0) (fun _ => 0) (fun _ => 0) (fun _ => 0) 0 (fun _ => 0) (fun _ => 0) (fun _ => 0) (fun _ => 0) (fun _ => 0) ++ ([(a2, .inr (5, [.int 0, .int 0, .int 0, .int 0, .int 0, .null, .null, .int 0, .null, .int 0, .null, .null, .null, .null, .null, .long 0, .long 0, .long 0, .long 0]))] ++ [])) (by simp) ?_
  refine v_callIJ (As := []) (st := [.ref a2]) O dL_law_12 lkIL_85 (i_X5 (a := a2) hst) rfl rfl ⟨rfl, rfl, by decide, by decide, Nat.le_of_ble_eq_true rfl, Nat.le_of_ble_eq_true rfl⟩ (fun r w h => ?_) (fun _ _ h => False.elim h)
  obtain ⟨rfl, q1, q2, q3, q4, q5, q6, q7, q8, rfl⟩ := h
  refine v_astore_n O dL_law_15 (by rw [hN]; decide) ?_
  refine v_iconst (v := nI 1) O dL_law_16 (by decide) ?_
  refine v_newarr (N := 1) (ty := .long) (a0 := (1, .inr (.inl (fun _ => 0)))) O dL_law_17 1 rfl rfl arr_long (fun _ _ h => h) (fun cA => rfl) (by decide) (by decide) (Nat.le_of_ble_eq_true rfl) (Nat.le_of_ble_eq_true rfl) (fun o => ?_)
  refine v_astore_n O dL_law_19 (by rw [hN]; decide) ?_
  refine v_iconst (v := nI 1) O dL_law_20 (by decide) ?_
  refine v_newarr (N := 1) (ty := .double) (a0 := (1, .inr (.inr (.inr (.inl (fun _ => 0)))))) O dL_law_21 3 rfl rfl arr_double (fun _ _ h => h) (fun cA => rfl) (by decide) (by decide) (Nat.le_of_ble_eq_true rfl) (Nat.le_of_ble_eq_true rfl) (fun o2 => ?_)
  refine v_astore O dL_law_23 (by rw [hN]; decide) ?_
  refine v_iconst (v := nI 0) O dL_law_25 (by decide) ?_
  refine v_istore O dL_law_26 (by rw [hN]; decide) ?_
  refine v_w (w' := (WX E ax 4 0 0 (fun _ => 0) (fun _ => 0) (fun _ => false) 0 (fun _ => 0) false 0 0 u v (fun _ => 0) (fun _ => 0) (fun _ => 0) (fun _ => 0) 0 (fun _ => 0) (fun _ => 0) (fun _ => 0) (fun _ => 0) (fun _ => 0) ++ WM E (adM a2 q1 q2 q3 q4 q5 q6 q7 q8) 0 4 0 0 0 (fun _ => 0) (fun _ => 0) 0 (fun _ => 0) 0 (fun _ => 0) (fun _ => 0) (fun _ => 0) (fun _ => 0) (fun _ => 0) 0 0 0 0) ++ oW E o (fun _ => 0) o2 (fun _ => 0)) rfl ?_
  refine v_swap ?_
  refine v_ord [0, 1, 2, 3, 4, 5] ?_
  exact lawLoop (ax := ax) (am := adM a2 q1 q2 q3 q4 q5 q6 q7 q8) (o := o) (o2 := o2) O hst hN hX hL fin (L - 4 * 0) 0 rfl (by omega) (fun _ => 0) (fun _ => 0) 0 _ _ (rel_0 (u := u) (v := v))
end LP
