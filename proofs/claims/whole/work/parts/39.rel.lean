/-! states that belong together -/
theorem sm_le {f : Nat → Nat} {c : Nat} : ∀ {k : Nat}, (∀ i, i < k → f i ≤ c) → sm f k ≤ k * c
  | 0, _ => Nat.zero_le _
  | k + 1, h => by
    have h1 := sm_le (k := k) (fun i hi => h i (by omega))
    have h2 := h k (by omega)
    show sm f k + f k ≤ (k + 1) * c
    rw [Nat.succ_mul]
    omega
theorem lin_cong {mk mk' : Nat → Bool} {pw pw' : Nat → Nat} {n : Nat} {off : Nat → Nat} {q : Nat} (h1 : ∀ c, c < n → mk c = mk' c) (h2 : ∀ c, c < n → pw ((q + off c) * 16 + c) = pw' ((q + off c) * 16 + c)) : lin mk pw n off q = lin mk' pw' n off q :=
  sm_cong (fun c hc => by rw [h1 c hc, h2 c hc])
theorem lin_le {mk : Nat → Bool} {pw : Nat → Nat} {n : Nat} {off : Nat → Nat} {q : Nat} (hp : ∀ j, pw j ≤ 9999) (hn : n ≤ 16) : lin mk pw n off q ≤ 159984 := by
  have h := sm_le (f := fun c => if mk c = true then 0 else pw ((q + off c) * 16 + c)) (c := 9999) (k := n) (fun i _ => by
    split
    · exact Nat.zero_le _
    · exact hp _)
  unfold lin
  omega
theorem rng_of {a b : Nat} {x : Int32} (hab : a ≤ b) (hb : b < 2 ^ 30) (h : nI a ≤ x ∧ x ≤ nI b) : ∃ j : Nat, a ≤ j ∧ j ≤ b ∧ x = nI j := by
  have h1 := (fa_le _ _).mp h.1
  have h2 := (fa_le _ _).mp h.2
  rw [nI_toInt (by omega)] at h1 h2
  obtain ⟨j, hj, rfl⟩ := inR_of (x := x) (n := b + 1) ⟨by omega, by omega⟩
  rw [nI_toInt (by omega)] at h1 h2
  exact ⟨j, by omega, by omega, rfl⟩
def Inv (K n t : Nat) (pe : Nat → Nat) (len : Nat) (cod : Nat → Nat) (mm : Nat) (pX : Nat → Nat) (mk : Nat → Bool) (fr : Bool) (ls lc : Nat) (su : Nat → Nat) (tot spr : Nat → Int64) (FX : FA) (ms : Nat) (pM : Nat → Nat) (FM : FA) : Prop :=
  (1 ≤ K ∧ K ≤ 4 ∧ n = 2 ^ K ∧ t ≤ 48) ∧ (∀ j, pe j ≤ 9999 ∧ (n ≤ j → pe j = 0)) ∧ (len ≤ 64 ∧ ∀ j, j < len → cod j < 128) ∧ (mm ≤ 8 ∧ (∀ k, k < mm → FX.1 k < 16 ∧ FX.2.1 k < 48 ∧ 1 ≤ FX.2.2.1 k ∧ FX.2.2.1 k ≤ 8) ∧ sameF mm FX FM) ∧ ((∀ j, pX j ≤ 9999) ∧ (∀ j, pM j ≤ 9999) ∧ ∀ c q, c < n → q < t → pX (q * 16 + c) = pM (q * 16 + c)) ∧ (ms < 65536 ∧ (∀ c, c < n → mk c = mb ms c) ∧ ∀ c, n ≤ c → mb ms c = false) ∧ (fr = true → ls = n ∧ lc = t ∧ LnOK mk pX K n t su tot spr)
def REL (E : ET) (ax am : Nat → Nat) (th : Nat) (wx wm : va_W) : Prop := ∃ (K n t dr : Nat) (pe : Nat → Nat) (len : Nat) (cod : Nat → Nat) (mm : Nat) (pX : Nat → Nat) (mk : Nat → Bool) (fr : Bool) (ls lc u v : Nat) (su sp : Nat → Nat) (tot spr : Nat → Int64) (FX : FA) (fe : Nat → Nat) (ms : Nat) (pM : Nat → Nat) (FM : FA) (li : Nat → Nat) (lm l1 lq hs : Int64), wx = WX E ax n t dr pX pe mk len cod fr ls lc u v su sp tot spr mm FX.1 FX.2.1 FX.2.2.1 FX.2.2.2 fe ∧ wm = WM E am th n t dr ms pe pM len cod mm FM.1 FM.2.1 FM.2.2.1 FM.2.2.2 li lm l1 lq hs ∧ Inv K n t pe len cod mm pX mk fr ls lc su tot spr FX ms pM FM
theorem rel_mk {E : ET} {ax am : Nat → Nat} {th : Nat} {K n t dr : Nat} {pe : Nat → Nat} {len : Nat} {cod : Nat → Nat} {mm : Nat} {pX : Nat → Nat} {mk : Nat → Bool} {fr : Bool} {ls lc u v : Nat} {su sp : Nat → Nat} {tot spr : Nat → Int64} {FX : FA} {fe : Nat → Nat} {ms : Nat} {pM : Nat → Nat} {FM : FA} {li : Nat → Nat} {lm l1 lq hs : Int64} (I : Inv K n t pe len cod mm pX mk fr ls lc su tot spr FX ms pM FM) : REL E ax am th (WX E ax n t dr pX pe mk len cod fr ls lc u v su sp tot spr mm FX.1 FX.2.1 FX.2.2.1 FX.2.2.2 fe) (WM E am th n t dr ms pe pM len cod mm FM.1 FM.2.1 FM.2.2.1 FM.2.2.2 li lm l1 lq hs) :=
  ⟨K, n, t, dr, pe, len, cod, mm, pX, mk, fr, ls, lc, u, v, su, sp, tot, spr, FX, fe, ms, pM, FM, li, lm, l1, lq, hs, rfl, rfl, I⟩
def OpV (E : ET) (yX : MethodName) (cX : Cond) (yM : MethodName) (cM : Cond) (ax am : Nat → Nat) (as : List Value) (v : Value) (wx wm : va_W) : Prop := ∃ (rx : Room) (PX : Option Value → va_W → Prop) (rm : Room) (PM : Option Value → va_W → Prop), Good rx 0 0 ∧ Good rm 0 0 ∧ Ctr E yX cX rx (.ref (ax 0) :: as) wx PX noX 0 0 ∧ Ctr E yM cM rm (.ref (am 0) :: as) wm PM noX 0 0 ∧ (∀ r u, PX r u → r = some v) ∧ (∀ r u, PM r u → r = some v) ∧ ∀ r u r' u', PX r u → PM r' u' → REL E ax am 0 u u'
def OpX (E : ET) (yX : MethodName) (cX : Cond) (yM : MethodName) (cM : Cond) (ax am : Nat → Nat) (as : List Value) (X : String) (e : Nat) (v0 : Value) (wx wm : va_W) : Prop := ∃ (rx rm : Room) (wm' : va_W), Good rx 1 6 ∧ Good rm 0 0 ∧ Ctr E yX cX rx (.ref (ax 0) :: as) wx noR (pX X wx) 1 6 ∧ Ctr E yM cM rm (.ref (am 0) :: as) wm (pR (some v0) wm') noX 0 0 ∧ REL E ax am e wx wm'
theorem goodL {j : Nat} (h : j ≤ 8) : Good (rmL j) 0 0 := ⟨rfl, rfl, h, by show 34 * j ≤ 272; omega⟩
theorem goodT {j : Nat} (h : j ≤ 8) : Good (rmT j) 1 6 := ⟨rfl, rfl, h, by show 34 * j ≤ 272; omega⟩
theorem opV_of {E : ET} {yX : MethodName} {cX : Cond} {yM : MethodName} {cM : Cond} {ax am : Nat → Nat} {as : List Value} {v : Value} {wx wm ux um : va_W} {a b : Nat} (CX : Ctr E yX cX (rmL a) (.ref (ax 0) :: as) wx (pR (some v) ux) noX 0 0) (CM : Ctr E yM cM (rmL b) (.ref (am 0) :: as) wm (pR (some v) um) noX 0 0) (R : REL E ax am 0 ux um) (ha : a ≤ 8) (hb : b ≤ 8) : OpV E yX cX yM cM ax am as v wx wm :=
  ⟨rmL a, _, rmL b, _, goodL ha, goodL hb, CX, CM, fun _ _ h => h.1, fun _ _ h => h.1, fun r u r' u' h h' => by
    obtain ⟨-, rfl⟩ := h
    obtain ⟨-, rfl⟩ := h'
    exact R⟩
theorem opX_of {E : ET} {yX : MethodName} {cX : Cond} {yM : MethodName} {cM : Cond} {ax am : Nat → Nat} {as : List Value} {X : String} {e : Nat} {v0 : Value} {wx wm um : va_W} {a b : Nat} (CX : Ctr E yX cX (rmT a) (.ref (ax 0) :: as) wx noR (pX X wx) 1 6) (CM : Ctr E yM cM (rmL b) (.ref (am 0) :: as) wm (pR (some v0) um) noX 0 0) (R : REL E ax am e wx um) (ha : a ≤ 8) (hb : b ≤ 8) : OpX E yX cX yM cM ax am as X e v0 wx wm :=
  ⟨rmT a, rmL b, um, goodT ha, goodL hb, CX, CM, R⟩
theorem n_K {K n : Nat} (h1 : 1 ≤ K) (h4 : K ≤ 4) (hn : n = 2 ^ K) : 2 ≤ n ∧ n ≤ 16 := by
  have h : K = 1 ∨ K = 2 ∨ K = 3 ∨ K = 4 := by omega
  rcases h with rfl | rfl | rfl | rfl <;> subst hn <;> decide
theorem mb_0 (c : Nat) : mb 0 c = false := by simp [mb]
/-- the same lines, slopes and channels for both -/
theorem ln_eq {K n t : Nat} {mk : Nat → Bool} {pX pM : Nat → Nat} {ms : Nat} {s : Bool} (hn2 : 2 ≤ n) (hXM : ∀ c q, c < n → q < t → pX (q * 16 + c) = pM (q * 16 + c)) (hmk : ∀ c, c < n → mk c = mb ms c) {d q : Nat} (hq : q + 1 ≤ t - d) : lin mk pX n (oby K n s d) q = lin (mb ms) pM n (oby K n s d) q :=
  lin_cong hmk (fun c hc => hXM c _ hc (by have := oby_le (K := K) (d := d) (s := s) hn2 hc; omega))
theorem chs_eq {n t : Nat} {pX pM : Nat → Nat} (hXM : ∀ c q, c < n → q < t → pX (q * 16 + c) = pM (q * 16 + c)) {c : Nat} (hc : c < n) : chs pX c t = chs pM c t := sm_cong (fun q hq => hXM c q hc hq)
theorem fil_pe {n : Nat} {pe : Nat → Nat} (hn : n ≤ 16) (hpe : ∀ j, pe j ≤ 9999 ∧ (n ≤ j → pe j = 0)) : fil pe 0 n = fil pe 0 16 := by
  funext q
  simp only [fil]
  by_cases h1 : q < n
  · rw [if_pos h1, if_pos (by omega)]
  · rw [if_neg h1, (hpe q).2 (by omega)]
    split <;> rfl
theorem fil_inv {n m : Nat} {pe : Nat → Nat} (hn : n ≤ 16) (hpe : ∀ j, pe j ≤ 9999 ∧ (n ≤ j → pe j = 0)) : ∀ j, fil pe 0 16 j ≤ 9999 ∧ (m ≤ j → fil pe 0 16 j = 0) := by
  intro j
  have h : fil pe 0 16 j = 0 := by
    simp only [fil]
    split
    · rfl
    · exact (hpe j).2 (by omega)
  rw [h]
  exact ⟨by omega, fun _ => rfl⟩
theorem lay_le {f g : Nat → Nat} {a i : Nat} (hf : ∀ j, f j ≤ 9999) (hg : ∀ j, j < i → g j ≤ 9999) : ∀ q, lay f g a i q ≤ 9999 := by
  intro q
  simp only [lay]
  split
  · exact hg _ (by omega)
  · exact hf _
theorem bgP_le {f : Nat → Nat} {t : Nat} (hf : ∀ j, f j ≤ 9999) : ∀ q, bgP t f q ≤ 9999 := by
  intro q
  simp only [bgP]
  split
  · simp only [shK]
    split <;> exact hf _
  · exact hf _
/-- a column is opened and filled on both sides -/
theorem step_eq {n t i : Nat} {f f' g : Nat → Nat} (hn : n ≤ i) (hi : i ≤ 16) (ht : t ≤ 48) (h : ∀ c q, c < n → q < t → f (q * 16 + c) = f' (q * 16 + c)) : ∀ c q, c < n → q < bgT t → lay (bgP t f) g ((bgT t - 1) * 16) n (q * 16 + c) = lay (bgP t f') g ((bgT t - 1) * 16) i (q * 16 + c) := by
  intro c q hc hq
  have hb := bgT_le ht
  by_cases e : q = bgT t - 1
  · subst e
    rw [lay_in (q := c) hc, lay_in (q := c) (by omega)]
  · have hlt : q * 16 + c < (bgT t - 1) * 16 := by omega
    rw [lay_out (Or.inl hlt), lay_out (Or.inl hlt)]
    simp only [bgP]
    by_cases h48 : t = 48
    · rw [if_pos h48, if_pos h48]
      have e48 : bgT t = 48 := by simp [bgT, h48]
      simp only [shK]
      rw [if_pos (by omega), if_pos (by omega), show q * 16 + c + 16 = (q + 1) * 16 + c by omega]
      exact h c (q + 1) hc (by omega)
    · rw [if_neg h48, if_neg h48]
      have e48 : bgT t = t + 1 := by simp [bgT, h48]
      exact h c q hc (by omega)
