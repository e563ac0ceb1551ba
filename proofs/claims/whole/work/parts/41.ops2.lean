theorem opV_frs {E : ET} {yX : MethodName} {cX : Cond} {yM : MethodName} {cM : Cond} {ax am : Nat → Nat} {as : List Value} {v9 : Value} {wx wm : va_W} {a b : Nat} {K n t dr : Nat} {pe : Nat → Nat} {len : Nat} {cod : Nat → Nat} {mm : Nat} {pX : Nat → Nat} {mk : Nat → Bool} {fr : Bool} {ls lc : Nat} {su : Nat → Nat} {tot spr : Nat → Int64} {FX : FA} {fe : Nat → Nat} {ms : Nat} {pM : Nat → Nat} {FM : FA} {li : Nat → Nat} {lm l1 lq hs : Int64} (I : Inv K n t pe len cod mm pX mk fr ls lc su tot spr FX ms pM FM)
    (CX : Ctr E yX cX (rmL a) (.ref (ax 0) :: as) wx (fun r w' => r = some v9 ∧ Frs E ax K n t dr pX pe mk len cod mm FX.1 FX.2.1 FX.2.2.1 FX.2.2.2 fe w') noX 0 0) (CM : Ctr E yM cM (rmL b) (.ref (am 0) :: as) wm (pR (some v9) (WM E am 0 n t dr ms pe pM len cod mm FM.1 FM.2.1 FM.2.2.1 FM.2.2.2 li lm l1 lq hs)) noX 0 0) (ha : a ≤ 8) (hb : b ≤ 8) : OpV E yX cX yM cM ax am as v9 wx wm :=
  ⟨rmL a, _, rmL b, _, goodL ha, goodL hb, CX, CM, fun _ _ h => h.1, fun _ _ h => h.1, fun r u r' u' h h' => by
    obtain ⟨-, u1, v1, su1, sp1, tot1, spr1, LN, rfl⟩ := h
    obtain ⟨-, rfl⟩ := h'
    obtain ⟨i1, i2, i3, i4, i5, i6, -⟩ := I
    exact rel_mk (FX := FX) (FM := FM) (K := K) ⟨i1, i2, i3, i4, i5, i6, fun _ => ⟨rfl, rfl, LN⟩⟩⟩
theorem bst_cong {mk mk' : Nat → Bool} {f f' : Nat → Nat} : ∀ {k : Nat}, (∀ c, c < k → mk c = mk' c ∧ f c = f' c) → bst mk f k = bst mk' f' k
  | 0, _ => rfl
  | k + 1, h => by
    have i1 := bst_cong (k := k) (fun c hc => h c (by omega))
    obtain ⟨h1, h2⟩ := h k (by omega)
    simp only [bst]
    rw [← h1, ← i1]
    cases hb : bst mk f k with
    | none => rfl
    | some b =>
      have hlt := bst_lt hb
      show (if mk k = true then some b else if f b < f k then some k else some b) = (if mk k = true then some b else if f' b < f' k then some k else some b)
      rw [← h2, ← (h b (by omega)).2]
theorem st_eq {n ms : Nat} {mk : Nat → Bool} {f f' : Nat → Nat} (hf : ∀ c, c < n → f c = f' c) (hmk : ∀ c, c < n → mk c = mb ms c) (hmk0 : ∀ c, n ≤ c → mb ms c = false) : ∀ k, (∀ c, c < n → (stX f n mk k).1 c = mb (stM f' n ms k).1 c) ∧ (∀ c, n ≤ c → mb (stM f' n ms k).1 c = false) ∧ (stX f n mk k).2 = (stM f' n ms k).2 ∧ (stM f' n ms k).1 ||| (stM f' n ms k).2 = (stM f' n ms k).1
  | 0 => ⟨hmk, hmk0, rfl, Nat.or_zero _⟩
  | k + 1 => by
    obtain ⟨i1, i2, i3, i4⟩ := st_eq hf hmk hmk0 k
    have b1 := bst_cong (mk := (stX f n mk k).1) (mk' := mb (stM f' n ms k).1) (f := f) (f' := f') (k := n) (fun c hc => ⟨i1 c hc, hf c hc⟩)
    simp only [stX, stM]
    rw [← b1]
    cases hb : bst (stX f n mk k).1 f n with
    | none =>
      simp only [bpw, Nat.or_zero]
      rw [i4]
      exact ⟨i1, i2, i3, i4⟩
    | some b =>
      have hlt := bst_lt hb
      simp only [bpw]
      rw [← Nat.or_assoc, i4]
      refine ⟨fun c hc => ?_, fun c hc => ?_, by rw [i3], ?_⟩
      · rw [mb_or]
        simp only [va_up]
        by_cases e : c = b
        · simp [e]
        · rw [if_neg e, i1 c hc]
          simp [Ne.symm e]
      · rw [mb_or, i2 c hc]
        simp
        omega
      · apply Nat.eq_of_testBit_eq
        intro i
        have h9 := congrArg (fun z => z.testBit i) i4
        simp only [Nat.testBit_or] at h9 ⊢
        revert h9
        cases (stM f' n ms k).1.testBit i <;> cases (stM f' n ms k).2.testBit i <;> cases (2 ^ b).testBit i <;> simp
theorem chs_lt {pw : Nat → Nat} {t : Nat} (hp : ∀ j, pw j ≤ 9999) (ht : t ≤ 48) (c : Nat) : chs pw c t < 2 ^ 30 := by
  have := sm_le (f := fun q => pw (q * 16 + c)) (c := 9999) (k := t) (fun i _ => hp _)
  unfold chs
  omega
theorem op_strike {E : ET} {ax am : Nat → Nat} {th : Nat} {wx wm : va_W} (hst : E.1.stackTraces = false) (R : REL E ax am th wx wm) (x : Int32) : (∃ v9 : Int32, OpV E yX4_strike cdX4_strike yX5_strike cdX5_strike ax am [.int x] (.int v9) wx wm) ∨ OpX E yX4_strike cdX4_strike yX5_strike cdX5_strike ax am [.int x] sIAE 1 (.int (nI 0)) wx wm := by
  obtain ⟨K, n, t, dr, pe, len, cod, mm, pX, mk, fr, ls, lc, u, v, su, sp, tot, spr, FX, fe, ms, pM, FM, li, lm, l1, lq, hs, rfl, rfl, I⟩ := R
  have I0 := I
  obtain ⟨⟨hK1, hK4, hn, ht⟩, hpe, ⟨hlen, hcod⟩, ⟨hmm, hcd, hF⟩, ⟨hX, hM, hXM⟩, ⟨hms, hmk, hmk0⟩, hfr⟩ := I
  obtain ⟨hn2, hn16⟩ := n_K hK1 hK4 hn
  by_cases hx : nI 0 ≤ x ∧ x ≤ nI n
  · obtain ⟨many, -, hmany, rfl⟩ := rng_of (by omega) (by omega) hx
    obtain ⟨s1, s2, s3, s4⟩ := st_eq (f := fun c => chs pX c t) (f' := fun c => chs pM c t) (fun c hc => chs_eq hXM hc) hmk hmk0 many
    have CX := k_strike (E := E) (ad := ax) (n := n) (t := t) (dr := dr) (pw := pX) (pe := pe) (mk := mk) (len := len) (cod := cod) (fr := fr) (ls := ls) (lc := lc) (u := u) (v := v) (su := su) (sp := sp) (tot := tot) (spr := spr) (mm := mm) (fs := FX.1) (fc := FX.2.1) (fw := FX.2.2.1) (sc := FX.2.2.2) (fe := fe) hst hn16 ht (chs_lt hX ht) many hmany
    rw [s3] at CX
    exact Or.inl ⟨_, opV_of CX (m_strike hst hn16 ht hM (chs_lt hM ht) hms many hmany) (rel_mk (FX := FX) (FM := FM) (K := K) ⟨⟨hK1, hK4, hn, ht⟩, hpe, ⟨hlen, hcod⟩, ⟨by omega, fun k hk => absurd hk (Nat.not_lt_zero _), fun k hk => absurd hk (Nat.not_lt_zero _)⟩, ⟨hX, hM, hXM⟩, ⟨(stM_lt hn16 hms many).1, s1, s2⟩, fun h => by cases h⟩) (by decide) (by decide)⟩
  · exact Or.inr (opX_of (kx_strike hst hn16 x hx) (mx_strike hst x hx) (rel_mk (FX := FX) (FM := FM) I0) (by decide) (by decide))
theorem op_lineSum {E : ET} {ax am : Nat → Nat} {th : Nat} {wx wm : va_W} (hst : E.1.stackTraces = false) (R : REL E ax am th wx wm) (x1 x2 : Int32) (s : Bool) : (∃ v9 : Int32, OpV E yX4_lineSum cdX4_lineSum yX5_lineSum cdX5_lineSum ax am [.int x1, .int x2, .int (bI s)] (.int v9) wx wm) ∨ OpX E yX4_lineSum cdX4_lineSum yX5_lineSum cdX5_lineSum ax am [.int x1, .int x2, .int (bI s)] sIOB 1 (.int (nI 0)) wx wm := by
  obtain ⟨K, n, t, dr, pe, len, cod, mm, pX, mk, fr, ls, lc, u, v, su, sp, tot, spr, FX, fe, ms, pM, FM, li, lm, l1, lq, hs, rfl, rfl, I⟩ := R
  have I0 := I
  obtain ⟨⟨hK1, hK4, hn, ht⟩, hpe, ⟨hlen, hcod⟩, ⟨hmm, hcd, hF⟩, ⟨hX, hM, hXM⟩, ⟨hms, hmk, hmk0⟩, hfr⟩ := I
  obtain ⟨hn2, hn16⟩ := n_K hK1 hK4 hn
  cases hx : bxB n t x1 x2 1 with
  | false => exact Or.inr (opX_of (kx_lineSum hst hn16 ht x1 x2 s hx) (mx_lineSum hst hn16 ht x1 x2 s hx) (rel_mk (FX := FX) (FM := FM) I0) (by decide) (by decide))
  | true =>
    obtain ⟨d, q, hd, rfl, rfl, hq⟩ := bxB_of hn16 hx
    cases s with
    | true =>
      have CX := k_lineSumS (E := E) (ad := ax) (n := n) (t := t) (dr := dr) (pw := pX) (pe := pe) (mk := mk) (len := len) (cod := cod) (fr := fr) (ls := ls) (lc := lc) (u := u) (v := v) (su := su) (sp := sp) (tot := tot) (spr := spr) (mm := mm) (fs := FX.1) (fc := FX.2.1) (fw := FX.2.2.1) (sc := FX.2.2.2) (fe := fe) hst hK1 hK4 hn ht d q hd hq
      rw [ln_eq hn2 hXM hmk hq] at CX
      exact Or.inl ⟨_, opV_of CX (m_lineSum hst hK1 hK4 hn hms ht d q true hd hq) (rel_mk (FX := FX) (FM := FM) I0) (by decide) (by decide)⟩
    | false =>
      have CX := k_lineSum (E := E) (ad := ax) (n := n) (t := t) (dr := dr) (pw := pX) (pe := pe) (mk := mk) (len := len) (cod := cod) (fr := fr) (ls := ls) (lc := lc) (u := u) (v := v) (su := su) (sp := sp) (tot := tot) (spr := spr) (mm := mm) (fs := FX.1) (fc := FX.2.1) (fw := FX.2.2.1) (sc := FX.2.2.2) (fe := fe) hst hK1 hK4 hn ht hfr d q hd hq
      rw [ln_eq hn2 hXM hmk hq] at CX
      exact Or.inl ⟨_, opV_frs I0 CX (m_lineSum hst hK1 hK4 hn hms ht d q false hd hq) (by decide) (by decide)⟩
theorem lnq {K n t : Nat} {mk : Nat → Bool} {pX pM : Nat → Nat} {ms : Nat} (hn2 : 2 ≤ n) (hXM : ∀ c q, c < n → q < t → pX (q * 16 + c) = pM (q * 16 + c)) (hmk : ∀ c, c < n → mk c = mb ms c) {d q : Nat} (hq : q < t - d) : lnX mk pX K n d q = lnN ms pM K n d q := ln_eq hn2 hXM hmk (by omega)
theorem lnS {K n t : Nat} {mk : Nat → Bool} {pX pM : Nat → Nat} {ms : Nat} (hn2 : 2 ≤ n) (hXM : ∀ c q, c < n → q < t → pX (q * 16 + c) = pM (q * 16 + c)) (hmk : ∀ c, c < n → mk c = mb ms c) (d : Nat) : smL (lnXL mk pX K n d) (t - d) = smL (lnL ms pM K n d) (t - d) := smL_cong (fun i hi => by simp only [lnXL, lnL]; rw [lnq hn2 hXM hmk hi])
theorem lnQ {K n t : Nat} {mk : Nat → Bool} {pX pM : Nat → Nat} {ms : Nat} (hn2 : 2 ≤ n) (hXM : ∀ c q, c < n → q < t → pX (q * 16 + c) = pM (q * 16 + c)) (hmk : ∀ c, c < n → mk c = mb ms c) (d : Nat) : smL (sqL (lnXL mk pX K n d)) (t - d) = smL (sqL (lnL ms pM K n d)) (t - d) := smL_cong (fun i hi => by simp only [sqL, lnXL, lnL]; rw [lnq hn2 hXM hmk hi])
theorem lnB {K n t : Nat} {mk : Nat → Bool} {pX pM : Nat → Nat} {ms : Nat} (hn2 : 2 ≤ n) (hXM : ∀ c q, c < n → q < t → pX (q * 16 + c) = pM (q * 16 + c)) (hmk : ∀ c, c < n → mk c = mb ms c) {d q wd : Nat} (hq : q + wd ≤ t - d) : sm (fun i => lnX mk pX K n d (q + i)) wd = sm (fun i => lnN ms pM K n d (q + i)) wd := sm_cong (fun i hi => lnq hn2 hXM hmk (by omega))
theorem smL_bd {f : Nat → Int64} {B : Nat} (hB : B * 48 < 2 ^ 62) : ∀ k, k ≤ 48 → (∀ i, i < k → 0 ≤ (f i).toInt ∧ (f i).toInt ≤ B) → 0 ≤ (smL f k).toInt ∧ (smL f k).toInt ≤ (k * B : Nat)
  | 0, _, _ => by
    show 0 ≤ (0 : Int64).toInt ∧ (0 : Int64).toInt ≤ ((0 * B : Nat) : Int)
    rw [show (0 : Int64).toInt = 0 by decide]
    omega
  | k + 1, hk, h => by
    obtain ⟨i1, i2⟩ := smL_bd hB k (by omega) (fun i hi => h i (by omega))
    obtain ⟨j1, j2⟩ := h k (by omega)
    have e : (k + 1) * B = k * B + B := Nat.succ_mul k B
    have e2 : k * B ≤ 48 * B := Nat.mul_le_mul_right B (by omega)
    have e3 : (smL f (k + 1)).toInt = (smL f k).toInt + (f k).toInt := fb_addL (by omega) (by omega)
    rw [e3, e]
    omega
theorem lnL_int {ms : Nat} {pM : Nat → Nat} {K n d q : Nat} (hM : ∀ j, pM j ≤ 9999) (hn : n ≤ 16) : 0 ≤ (lnL ms pM K n d q).toInt ∧ (lnL ms pM K n d q).toInt ≤ (159984 : Nat) := by
  have h := lin_le (mk := mb ms) (off := oby K n false d) (q := q) hM hn
  simp only [lnL]
  rw [Int32.toInt_toInt64, nI_toInt (by unfold lnN; omega)]
  unfold lnN
  omega
theorem sqL_int {ms : Nat} {pM : Nat → Nat} {K n d q : Nat} (hM : ∀ j, pM j ≤ 9999) (hn : n ≤ 16) : 0 ≤ (sqL (lnL ms pM K n d) q).toInt ∧ (sqL (lnL ms pM K n d) q).toInt ≤ (25594880256 : Nat) := by
  obtain ⟨h1, h2⟩ := lnL_int (ms := ms) (K := K) (d := d) (q := q) hM hn
  generalize hx : lnL ms pM K n d q = x at h1 h2
  have h3 : 0 ≤ x.toInt * x.toInt := Int.mul_nonneg h1 h1
  have h4 : x.toInt * x.toInt ≤ 159984 * 159984 := Int.mul_le_mul h2 h2 h1 (by decide)
  simp only [sqL]
  rw [hx, fb_mulL (by omega) (by omega)]
  omega
/-- the spread lies far from the ends -/
theorem VV_bd {ms : Nat} {pM : Nat → Nat} {K n t d : Nat} (hM : ∀ j, pM j ≤ 9999) (hn : n ≤ 16) (ht : t ≤ 48) : -(2 ^ 50 : Int) ≤ (VV ms pM K n t d).toInt ∧ (VV ms pM K n t d).toInt ≤ 2 ^ 50 := by
  obtain ⟨s1, s2⟩ := smL_bd (f := lnL ms pM K n d) (B := 159984) (by decide) (t - d) (by omega) (fun i _ => lnL_int hM hn)
  obtain ⟨q1, q2⟩ := smL_bd (f := sqL (lnL ms pM K n d)) (B := 25594880256) (by decide) (t - d) (by omega) (fun i _ => sqL_int hM hn)
  have hN : ((nI (t - d)).toInt64).toInt = (t - d : Nat) := by rw [Int32.toInt_toInt64, nI_toInt (by omega)]
  simp only [VV, scV]
  generalize smL (lnL ms pM K n d) (t - d) = S at s1 s2
  generalize smL (sqL (lnL ms pM K n d)) (t - d) = Q at q1 q2
  generalize (nI (t - d)).toInt64 = N at hN
  have b1 : S.toInt ≤ 7679232 := by omega
  have b2 : Q.toInt ≤ 1228554252288 := by omega
  have n1 : 0 ≤ N.toInt := by omega
  have n2 : N.toInt ≤ 48 := by omega
  have p1 : 0 ≤ N.toInt * Q.toInt := Int.mul_nonneg n1 q1
  have p2 : N.toInt * Q.toInt ≤ 48 * 1228554252288 := Int.mul_le_mul n2 b2 q1 (by decide)
  have p3 : 0 ≤ S.toInt * S.toInt := Int.mul_nonneg s1 s1
  have p4 : S.toInt * S.toInt ≤ 7679232 * 7679232 := Int.mul_le_mul b1 b1 s1 (by decide)
  have e1 : (N * Q).toInt = N.toInt * Q.toInt := fb_mulL (by omega) (by omega)
  have e2 : (S * S).toInt = S.toInt * S.toInt := fb_mulL (by omega) (by omega)
  have e3 : (N * Q - S * S).toInt = (N * Q).toInt - (S * S).toInt := fb_subL (by omega) (by omega)
  rw [e3, e1, e2]
  omega
theorem wV_int {V : Int64} {wd : Nat} (hw : wd ≤ 8) (h1 : -(2 ^ 50 : Int) ≤ V.toInt) (h2 : V.toInt ≤ 2 ^ 50) : ((nI wd).toInt64 * V).toInt = wd * V.toInt := by
  have e : ((nI wd).toInt64).toInt = wd := by rw [Int32.toInt_toInt64, nI_toInt (by omega)]
  have hc : wd = 0 ∨ wd = 1 ∨ wd = 2 ∨ wd = 3 ∨ wd = 4 ∨ wd = 5 ∨ wd = 6 ∨ wd = 7 ∨ wd = 8 := by omega
  rw [fb_mulL, e] <;> rw [e] <;> rcases hc with rfl | rfl | rfl | rfl | rfl | rfl | rfl | rfl | rfl <;> omega
theorem wV_pos {V : Int64} {wd : Nat} (hw1 : 1 ≤ wd) (hw : wd ≤ 8) (h1 : -(2 ^ 50 : Int) ≤ V.toInt) (h2 : V.toInt ≤ 2 ^ 50) : 0 < (nI wd).toInt64 * V ↔ 0 < V := by
  rw [fa_lt64, fa_lt64, wV_int hw h1 h2, show (0 : Int64).toInt = 0 by decide]
  have hc : wd = 1 ∨ wd = 2 ∨ wd = 3 ∨ wd = 4 ∨ wd = 5 ∨ wd = 6 ∨ wd = 7 ∨ wd = 8 := by omega
  rcases hc with rfl | rfl | rfl | rfl | rfl | rfl | rfl | rfl <;> omega
theorem hz_of {ms : Nat} {pM : Nat → Nat} {K n t d wd : Nat} (hM : ∀ j, pM j ≤ 9999) (hn : n ≤ 16) (ht : t ≤ 48) (hw1 : 1 ≤ wd) (hw : wd ≤ 8) (h : 0 < VV ms pM K n t d) : ¬ (nI wd).toInt64 * VV ms pM K n t d = 0 := by
  obtain ⟨h1, h2⟩ := VV_bd (ms := ms) (K := K) (d := d) hM hn ht
  intro e
  have := (wV_pos hw1 hw h1 h2).mpr h
  rw [e] at this
  exact absurd this (by decide)
theorem scX_eq {N S Q : Int64} {b wd : Nat} (hw1 : 1 ≤ wd) (hw : wd ≤ 8) (h1 : -(2 ^ 50 : Int) ≤ (scV N S Q).toInt) (h2 : (scV N S Q).toInt ≤ 2 ^ 50) : scX N S (scV N S Q) (nI b).toInt64 wd = scr N S Q b wd := by
  unfold scX scr
  by_cases h : 0 < scE N S b wd ∧ 0 < scV N S Q
  · rw [if_pos h, if_pos ⟨h.1, (wV_pos hw1 hw h1 h2).mpr h.2⟩]
    rfl
  · rw [if_neg h, if_neg (fun c => h ⟨c.1, (wV_pos hw1 hw h1 h2).mp c.2⟩)]
theorem op_boxSum {E : ET} {ax am : Nat → Nat} {th : Nat} {wx wm : va_W} (hst : E.1.stackTraces = false) (R : REL E ax am th wx wm) (x1 x2 x3 : Int32) : (∃ v9 : Int32, OpV E yX4_boxSum cdX4_boxSum yX5_boxSum cdX5_boxSum ax am [.int x1, .int x2, .int x3] (.int v9) wx wm) ∨ OpX E yX4_boxSum cdX4_boxSum yX5_boxSum cdX5_boxSum ax am [.int x1, .int x2, .int x3] sIAE 1 (.int (nI 0)) wx wm ∨ OpX E yX4_boxSum cdX4_boxSum yX5_boxSum cdX5_boxSum ax am [.int x1, .int x2, .int x3] sIOB 2 (.int (nI 0)) wx wm := by
  obtain ⟨K, n, t, dr, pe, len, cod, mm, pX, mk, fr, ls, lc, u, v, su, sp, tot, spr, FX, fe, ms, pM, FM, li, lm, l1, lq, hs, rfl, rfl, I⟩ := R
  have I0 := I
  obtain ⟨⟨hK1, hK4, hn, ht⟩, hpe, ⟨hlen, hcod⟩, ⟨hmm, hcd, hF⟩, ⟨hX, hM, hXM⟩, ⟨hms, hmk, hmk0⟩, hfr⟩ := I
  obtain ⟨hn2, hn16⟩ := n_K hK1 hK4 hn
  by_cases h3 : nI 1 ≤ x3 ∧ x3 ≤ nI 8
  · obtain ⟨wd, w1, w2, rfl⟩ := rng_of (by decide) (by decide) h3
    cases hx : bxB n t x1 x2 wd with
    | false => exact Or.inr (Or.inr (opX_of (kx_boxSum2 hst hn16 ht x1 x2 wd w1 w2 hx) (mx_boxSum2 hst hn16 ht x1 x2 wd w1 w2 hx) (rel_mk (FX := FX) (FM := FM) I0) (by decide) (by decide)))
    | true =>
      obtain ⟨d, q, hd, rfl, rfl, hq⟩ := bxB_of hn16 hx
      have CX := k_boxSum (E := E) (ad := ax) (n := n) (t := t) (dr := dr) (pw := pX) (pe := pe) (mk := mk) (len := len) (cod := cod) (fr := fr) (ls := ls) (lc := lc) (u := u) (v := v) (su := su) (sp := sp) (tot := tot) (spr := spr) (mm := mm) (fs := FX.1) (fc := FX.2.1) (fw := FX.2.2.1) (sc := FX.2.2.2) (fe := fe) hst hK1 hK4 hn ht hfr d q wd hd w1 w2 hq
      rw [lnB hn2 hXM hmk hq] at CX
      exact Or.inl ⟨_, opV_frs I0 CX (m_boxSum hst hK1 hK4 hn hms ht d q wd hd w1 w2 hq) (by decide) (by decide)⟩
  · exact Or.inr (Or.inl (opX_of (kx_boxSum1 hst x1 x2 x3 h3) (mx_boxSum1 hst x1 x2 x3 h3) (rel_mk (FX := FX) (FM := FM) I0) (by decide) (by decide)))
theorem op_score {E : ET} {ax am : Nat → Nat} {th : Nat} {wx wm : va_W} (hst : E.1.stackTraces = false) (R : REL E ax am th wx wm) (x1 x2 x3 : Int32) : (∃ v9 : Int64, OpV E yX4_score cdX4_score yX5_score cdX5_score ax am [.int x1, .int x2, .int x3] (.long v9) wx wm) ∨ OpX E yX4_score cdX4_score yX5_score cdX5_score ax am [.int x1, .int x2, .int x3] sIAE 1 (.long 0) wx wm ∨ OpX E yX4_score cdX4_score yX5_score cdX5_score ax am [.int x1, .int x2, .int x3] sIOB 2 (.long 0) wx wm := by
  obtain ⟨K, n, t, dr, pe, len, cod, mm, pX, mk, fr, ls, lc, u, v, su, sp, tot, spr, FX, fe, ms, pM, FM, li, lm, l1, lq, hs, rfl, rfl, I⟩ := R
  have I0 := I
  obtain ⟨⟨hK1, hK4, hn, ht⟩, hpe, ⟨hlen, hcod⟩, ⟨hmm, hcd, hF⟩, ⟨hX, hM, hXM⟩, ⟨hms, hmk, hmk0⟩, hfr⟩ := I
  obtain ⟨hn2, hn16⟩ := n_K hK1 hK4 hn
  by_cases h3 : nI 1 ≤ x3 ∧ x3 ≤ nI 8
  · obtain ⟨wd, w1, w2, rfl⟩ := rng_of (by decide) (by decide) h3
    cases hx : bxB n t x1 x2 wd with
    | false => exact Or.inr (Or.inr (opX_of (kx_score2 hst hn16 ht x1 x2 wd w1 w2 hx) (mx_score2 hst hn16 ht x1 x2 wd w1 w2 hx) (rel_mk (FX := FX) (FM := FM) I0) (by decide) (by decide)))
    | true =>
      obtain ⟨d, q, hd, rfl, rfl, hq⟩ := bxB_of hn16 hx
      obtain ⟨v1, v2⟩ := VV_bd (ms := ms) (K := K) (d := d) hM hn16 ht
      have CX := k_score (E := E) (ad := ax) (n := n) (t := t) (dr := dr) (pw := pX) (pe := pe) (mk := mk) (len := len) (cod := cod) (fr := fr) (ls := ls) (lc := lc) (u := u) (v := v) (su := su) (sp := sp) (tot := tot) (spr := spr) (mm := mm) (fs := FX.1) (fc := FX.2.1) (fw := FX.2.2.1) (sc := FX.2.2.2) (fe := fe) hst hK1 hK4 hn ht hfr d q wd hd w1 w2 hq
      rw [lnB hn2 hXM hmk hq, lnS hn2 hXM hmk d, lnQ hn2 hXM hmk d, scX_eq w1 w2 v1 v2] at CX
      exact Or.inl ⟨_, opV_frs I0 CX (m_score hst hK1 hK4 hn hms ht d q wd hd w1 w2 hq (hz_of hM hn16 ht w1 w2)) (by decide) (by decide)⟩
  · exact Or.inr (Or.inl (opX_of (kx_score1 hst x1 x2 x3 h3) (mx_score1 hst x1 x2 x3 h3) (rel_mk (FX := FX) (FM := FM) I0) (by decide) (by decide)))
theorem mxC_cong {mk mk' : Nat → Bool} {pw pw' pe : Nat → Nat} {t : Nat} {h : Int64} : ∀ {k : Nat}, (∀ c, c < k → mk c = mk' c ∧ chs pw c t = chs pw' c t) → mxC mk pw pe t h k = mxC mk' pw' pe t h k
  | 0, _ => rfl
  | k + 1, hh => by
    simp only [mxC]
    rw [mxC_cong (k := k) (fun c hc => hh c (by omega)), (hh k (by omega)).1, (hh k (by omega)).2]
theorem mxK_row {pw : Nat → Nat} {n q : Nat} {h : Int64} (hn : n ≤ 16) : ∀ j, j ≤ 16 → mxK pw n h (16 * q + j) = mxL (fun c => pw (q * 16 + c)) (mxK pw n h (16 * q)) (min j n)
  | 0, _ => by rw [Nat.zero_min]; rfl
  | j + 1, hj => by
    show (if (16 * q + j) % 16 < n then mx (mxK pw n h (16 * q + j)) (nI (pw (16 * q + j))).toInt64 else mxK pw n h (16 * q + j)) = _
    rw [show (16 * q + j) % 16 = j by omega, mxK_row hn j (by omega)]
    by_cases e : j < n
    · rw [if_pos e, Nat.min_eq_left (by omega), Nat.min_eq_left (by omega)]
      show mx _ _ = mx _ (nI (pw (q * 16 + j))).toInt64
      rw [show 16 * q + j = q * 16 + j by omega]
    · rw [if_neg e, Nat.min_eq_right (by omega), Nat.min_eq_right (by omega)]
theorem mxK_cols {pw pw' : Nat → Nat} {n : Nat} {h : Int64} (hn : n ≤ 16) : ∀ t, (∀ c q, c < n → q < t → pw (q * 16 + c) = pw' (q * 16 + c)) → mxCols pw n h t = mxK pw' n h (16 * t)
  | 0, _ => rfl
  | t + 1, hh => by
    have h1 := mxK_row (pw := pw') (q := t) (h := h) hn 16 (Nat.le_refl _)
    rw [show 16 * (t + 1) = 16 * t + 16 by omega, h1, Nat.min_eq_right hn, ← mxK_cols hn t (fun c q hc hq => hh c q hc (by omega))]
    exact mxL_cong (fun c hc => hh c t hc (by omega))
theorem mxT_cand {FX FM : FA} {dr : Nat} {h : Int64} : ∀ m, sameF m FX FM → mxCand FX.1 FX.2.1 FX.2.2.1 FX.2.2.2 dr h m = mxT FM.1 FM.2.1 FM.2.2.1 FM.2.2.2 dr h (5 * m)
  | 0, _ => rfl
  | m + 1, hF => by
    have i := mxT_cand (dr := dr) (h := h) m (fun j hj => hF j (by omega))
    have e : ∀ j, j < 5 → tld FM.1 FM.2.1 FM.2.2.1 FM.2.2.2 dr ((5 * m + j) / 5) ((5 * m + j) % 5) = tld FX.1 FX.2.1 FX.2.2.1 FX.2.2.2 dr m j := fun j hj => by
      rw [show (5 * m + j) / 5 = m by omega, show (5 * m + j) % 5 = j by omega]
      exact (tld_eq hF (by omega)).symm
    show mxF _ (mxCand FX.1 FX.2.1 FX.2.2.1 FX.2.2.2 dr h m) 5 = mxT _ _ _ _ dr h (5 * m + 1 + 1 + 1 + 1 + 1)
    have e0 := e 0 (by decide)
    have e1 := e 1 (by decide)
    have e2 := e 2 (by decide)
    have e3 := e 3 (by decide)
    have e4 := e 4 (by decide)
    simp only [mxF, mxT]
    rw [i, ← e0, ← e1, ← e2, ← e3, ← e4]
    rfl
theorem op_digest {E : ET} {ax am : Nat → Nat} {th : Nat} {wx wm : va_W} (hst : E.1.stackTraces = false) (R : REL E ax am th wx wm)  : (∃ v9 : Int64, OpV E yX4_digest cdX4_digest yX5_digest cdX5_digest ax am [] (.long v9) wx wm) := by
  obtain ⟨K, n, t, dr, pe, len, cod, mm, pX, mk, fr, ls, lc, u, v, su, sp, tot, spr, FX, fe, ms, pM, FM, li, lm, l1, lq, hs, rfl, rfl, I⟩ := R
  have I0 := I
  obtain ⟨⟨hK1, hK4, hn, ht⟩, hpe, ⟨hlen, hcod⟩, ⟨hmm, hcd, hF⟩, ⟨hX, hM, hXM⟩, ⟨hms, hmk, hmk0⟩, hfr⟩ := I
  obtain ⟨hn2, hn16⟩ := n_K hK1 hK4 hn
  have CX := k_digest (E := E) (ad := ax) (n := n) (t := t) (dr := dr) (pw := pX) (pe := pe) (mk := mk) (len := len) (cod := cod) (fr := fr) (ls := ls) (lc := lc) (u := u) (v := v) (su := su) (sp := sp) (tot := tot) (spr := spr) (mm := mm) (fs := FX.1) (fc := FX.2.1) (fw := FX.2.2.1) (sc := FX.2.2.2) (fe := fe) hst hK1 hK4 hn ht hmm hlen hfr
  have e : dgX K n t dr mk pe pX (lnX mk pX K n) len cod mm FX.1 FX.2.1 FX.2.2.1 FX.2.2.2 = dgst K n t dr ms pe pM len cod mm FM.1 FM.2.1 FM.2.2.1 FM.2.2.2 := by
    simp only [dgX, dgst]
    rw [cnt_eq hn16 hmk hmk0, mxT_cand mm hF, mxK_cols hn16 t hXM, mxC_cong (fun c hc => ⟨hmk c hc, chs_eq hXM hc⟩), mxS_cong (ln' := lnN ms pM K n) (fun d q _ hq => lnq hn2 hXM hmk hq)]
  rw [e] at CX
  exact ⟨_, opV_frs I0 CX (m_digest hst hK1 hK4 hn hms ht hmm hlen) (by decide) (by decide)⟩
theorem m_meanC {E : ET} {ad : Nat → Nat} {th n t dr ms : Nat} {pe pw : Nat → Nat} {len : Nat} {cod : Nat → Nat} {mm : Nat} {fs fc fw : Nat → Nat} {sc : Nat → Int64} {li : Nat → Nat} {lm ls lq hs : Int64} {K : Nat} (hst : E.1.stackTraces = false) (hK : 1 ≤ K) (hK4 : K ≤ 4) (hn : n = 2 ^ K) (hm : ms < 65536) (ht : t ≤ 48) (d : Nat) (hd : d < n) (hnan : 1 ≤ t - d → vf_n64 (FP.ddiv (FP.l2d (smL (lnL ms pw K n d) (t - d))) (FP.i2d (nI (t - d))))) : Ctr E yX5_mean cdX5_mean (rmL 5) [.ref (ad 0), .int (nI d)] (WM E ad th n t dr ms pe pw len cod mm fs fc fw sc li lm ls lq hs) (pR (some (.double (meanV (smL (lnL ms pw K n d) (t - d)) (t - d)))) (WM E ad (0) n t dr ms pe pw len cod mm fs fc fw sc li lm ls lq hs)) noX 0 0 := by
  obtain ⟨g1, g2⟩ := two_le hn hK hK4
  refine ctr_of hst (by decide) (Nat.le_of_ble_eq_true rfl) (fun G O OR hN => ?_)
  have O : OKG E G cX5_mean RX5 (rmL 5) [] := O
  have hN : nLG G = 2 := hN
  refine v_aload_n O dX5_mean_0 rfl ?_
  refine v_aload_n O dX5_mean_1 rfl ?_
  refine v_iload_n O dX5_mean_2 rfl ?_
  refine v_V1 O dX5_mean_3 lkX5_86 (c_isSlope hst g2 (nI d)) 0 rfl rfl rfl rfl rfl (by first | exact hkc | exact Nat.zero_le _) (by first | exact hks | exact Nat.zero_le _) ?_
  refine v_ifB_eq (tgt := 13) O dX5_mean_6 (by decide) (fun h => ?_) (fun h => ?_)
  · rw [inB_nI hd (by omega)] at h; cases h
  · refine v_iconst (v := nI 0) O dX5_mean_9 (by decide) ?_
    refine v_goto (tgt := 14) O dX5_mean_10 (by decide) ?_
    refine v_put (ty := .int) O dX5_mean_14 flX5_39 ftX5 0 rfl rfl (by decide +kernel) rfl rfl (Nat.le_of_ble_eq_true rfl) ?_
    refine v_aload_n O dX5_mean_17 rfl ?_
    refine v_get O dX5_mean_18 flX5_39 0 rfl rfl ?_
    refine v_w (w' := (WM E ad (0) n t dr ms pe pw len cod mm fs fc fw sc li lm ls lq hs)) rfl ?_
    refine v_ifN_gt (tgt := 32) O dX5_mean_21 (by decide) (by omega) (fun h3 => ?_) (fun h3 => ?_)
    · omega
    · refine v_aload_n O dX5_mean_24 rfl ?_
      refine v_iload_n O dX5_mean_25 rfl ?_
      refine v_V1 O dX5_mean_26 lkX5_111 (c_linesOfM hst ht d (by omega)) 0 rfl rfl rfl rfl rfl (by first | exact hkc | exact Nat.zero_le _) (by first | exact hks | exact Nat.zero_le _) ?_
      refine v_ifN_ne (tgt := 36) O dX5_mean_29 (by decide) (by omega) (fun h4 => ?_) (fun h4 => ?_)
      · refine v_aload_n O dX5_mean_36 rfl ?_
        refine v_iload_n O dX5_mean_37 rfl ?_
        refine v_V1 O dX5_mean_38 lkX5_120 (c_sumOfLines hst hK hK4 hn hm ht d hd) 0 rfl rfl rfl rfl rfl (by first | exact hkc | exact Nat.zero_le _) (by first | exact hks | exact Nat.zero_le _) ?_
        refine v_l2d O dX5_mean_41 ?_
        refine v_aload_n O dX5_mean_42 rfl ?_
        refine v_iload_n O dX5_mean_43 rfl ?_
        refine v_V1 O dX5_mean_44 lkX5_111 (c_linesOfM hst ht d (by omega)) 0 rfl rfl rfl rfl rfl (by first | exact hkc | exact Nat.zero_le _) (by first | exact hks | exact Nat.zero_le _) ?_
        refine v_i2d O dX5_mean_47 ?_
        refine v_ddiv O dX5_mean_48 (hnan (by omega)) ?_
        exact v_dreturn O OR dX5_mean_49 (⟨by unfold meanV; rw [if_neg (by omega)], rfl⟩) (Nat.le_of_ble_eq_true rfl) (Nat.le_of_ble_eq_true rfl)
      · refine v_dconst0 O dX5_mean_32 ?_
        refine v_goto (tgt := 49) O dX5_mean_33 (by decide) ?_
        exact v_dreturn O OR dX5_mean_49 (⟨by unfold meanV; rw [if_pos h4], rfl⟩) (Nat.le_of_ble_eq_true rfl) (Nat.le_of_ble_eq_true rfl)
theorem k_meanC {E : ET} {ad : Nat → Nat} {n t dr : Nat} {pw pe : Nat → Nat} {mk : Nat → Bool} {len : Nat} {cod : Nat → Nat} {fr : Bool} {ls lc u v : Nat} {su sp : Nat → Nat} {tot spr : Nat → Int64} {mm : Nat} {fs fc fw : Nat → Nat} {sc : Nat → Int64} {fe : Nat → Nat} {K : Nat} (hst : E.1.stackTraces = false) (hK : 1 ≤ K) (hK4 : K ≤ 4) (hn : n = 2 ^ K) (ht : t ≤ 48) (hfr : fr = true → ls = n ∧ lc = t ∧ LnOK mk pw K n t su tot spr) (d : Nat) (hd : d < n) (hnan : 1 ≤ t - d → vf_n64 (FP.ddiv (FP.l2d (smL (lnXL mk pw K n d) (t - d))) (FP.i2d (nI (t - d))))) : Ctr E yX4_mean cdX4_mean (rmL 5) [.ref (ad 0), .int (nI d)] (WX E ad n t dr pw pe mk len cod fr ls lc u v su sp tot spr mm fs fc fw sc fe) (fun r w' => r = some (.double (meanV (smL (lnXL mk pw K n d) (t - d)) (t - d))) ∧ Frs E ad K n t dr pw pe mk len cod mm fs fc fw sc fe w') noX 0 0 := by
  obtain ⟨g1, g2⟩ := two_le hn hK hK4
  refine ctr_of hst (by decide) (Nat.le_of_ble_eq_true rfl) (fun G O OR hN => ?_)
  have O : OKG E G cX4_mean RX4 (rmL 5) [] := O
  have hN : nLG G = 3 := hN
  refine v_aload_n O dX4_mean_0 rfl ?_
  refine v_iload_n O dX4_mean_1 rfl ?_
  refine v_V0 O dX4_mean_2 lkX4_140 (r_slope hst g2 d hd) 0 rfl rfl rfl rfl rfl (by first | exact hkc | exact Nat.zero_le _) (by first | exact hks | exact Nat.zero_le _) ?_
  refine v_aload_n O dX4_mean_5 rfl ?_
  refine v_get O dX4_mean_6 flX4_26 0 rfl rfl ?_
  refine v_aload_n O dX4_mean_9 rfl ?_
  refine v_get O dX4_mean_10 flX4_10 0 rfl rfl ?_
  refine v_callVN (mc := 0) (ms := 0) O dX4_mean_13 lkX4_152 (x_refresh hst hK hK4 hn ht hfr) 3 rfl rfl rfl rfl rfl (fun r9 u9 h9 => ?_) kx_no
  obtain ⟨rfl, u, v, su, sp, tot, spr, hL, rfl⟩ := h9
  refine v_aload_n O dX4_mean_16 rfl ?_
  refine v_get O dX4_mean_17 flX4_26 0 rfl rfl ?_
  refine v_iload_n O dX4_mean_20 rfl ?_
  refine v_VN1 O dX4_mean_21 lkX4_159 (x_linesOf hst ht d (by omega)) 3 rfl rfl rfl rfl rfl (by first | exact hkc | exact Nat.zero_le _) (by first | exact hks | exact Nat.zero_le _) ?_
  refine v_istore_n O dX4_mean_24 (by rw [hN]; decide) ?_
  refine v_iload_n O dX4_mean_25 rfl ?_
  refine v_iconst (v := nI 1) O dX4_mean_26 (by decide) ?_
  refine v_icmpN_ge (tgt := 32) O dX4_mean_27 (by decide) (by omega) (by omega) (fun h => ?_) (fun h => ?_)
  · refine v_aload_n O dX4_mean_32 rfl ?_
    refine v_get O dX4_mean_33 flX4_26 0 rfl rfl ?_
    refine v_getN O dX4_mean_36 flX4_162 3 rfl rfl ?_
    refine v_iload_n O dX4_mean_39 rfl ?_
    refine v_lald O dX4_mean_40 9 rfl (by decide) (by omega) ?_
    rw [hL.2.1 d hd]
    refine v_l2d O dX4_mean_41 ?_
    refine v_iload_n O dX4_mean_42 rfl ?_
    refine v_i2d O dX4_mean_43 ?_
    refine v_ddiv O dX4_mean_44 (hnan (by omega)) ?_
    exact v_dreturn O OR dX4_mean_45 (⟨by unfold meanV; rw [if_neg (by omega)], u, v, su, sp, tot, spr, hL, rfl⟩) (Nat.le_of_ble_eq_true rfl) (Nat.le_of_ble_eq_true rfl)
  · refine v_dconst0 O dX4_mean_30 ?_
    exact v_dreturn O OR dX4_mean_31 (⟨by unfold meanV; rw [if_pos (by omega)], u, v, su, sp, tot, spr, hL, rfl⟩) (Nat.le_of_ble_eq_true rfl) (Nat.le_of_ble_eq_true rfl)
theorem op_mean {E : ET} {ax am : Nat → Nat} {th : Nat} {wx wm : va_W} (hst : E.1.stackTraces = false) (R : REL E ax am th wx wm) (x : Int32) : (∃ v9 : UInt64, OpV E yX4_mean cdX4_mean yX5_mean cdX5_mean ax am [.int x] (.double v9) wx wm) ∨ OpX E yX4_mean cdX4_mean yX5_mean cdX5_mean ax am [.int x] sIOB 1 (.double 0) wx wm := by
  obtain ⟨K, n, t, dr, pe, len, cod, mm, pX, mk, fr, ls, lc, u, v, su, sp, tot, spr, FX, fe, ms, pM, FM, li, lm, l1, lq, hs, rfl, rfl, I⟩ := R
  have I0 := I
  obtain ⟨⟨hK1, hK4, hn, ht⟩, hpe, ⟨hlen, hcod⟩, ⟨hmm, hcd, hF⟩, ⟨hX, hM, hXM⟩, ⟨hms, hmk, hmk0⟩, hfr⟩ := I
  obtain ⟨hn2, hn16⟩ := n_K hK1 hK4 hn
  cases hx : inB x n with
  | false => exact Or.inr (opX_of (kx_mean hst hn16 x hx) (mx_mean hst hn16 x hx) (rel_mk (FX := FX) (FM := FM) I0) (by decide) (by decide))
  | true =>
    obtain ⟨d, hd, rfl⟩ := inB_of hx
    have CX := k_meanC (E := E) (ad := ax) (n := n) (t := t) (dr := dr) (pw := pX) (pe := pe) (mk := mk) (len := len) (cod := cod) (fr := fr) (ls := ls) (lc := lc) (u := u) (v := v) (su := su) (sp := sp) (tot := tot) (spr := spr) (mm := mm) (fs := FX.1) (fc := FX.2.1) (fw := FX.2.2.1) (sc := FX.2.2.2) (fe := fe) hst hK1 hK4 hn ht hfr d hd (fun h => mean_nan _ h (by omega))
    rw [lnS hn2 hXM hmk d] at CX
    exact Or.inl ⟨_, opV_frs I0 CX (m_meanC hst hK1 hK4 hn hms ht d hd (fun h => mean_nan _ h (by omega))) (by decide) (by decide)⟩
