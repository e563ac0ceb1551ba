theorem op_setChannels {E : ET} {ax am : Nat → Nat} {th : Nat} {wx wm : va_W} (hst : E.1.stackTraces = false) (R : REL E ax am th wx wm) (x : Int32) : (∃ v9 : Int32, OpV E yX4_setChannels cdX4_setChannels yX5_setChannels cdX5_setChannels ax am [.int x] (.int v9) wx wm) ∨ OpX E yX4_setChannels cdX4_setChannels yX5_setChannels cdX5_setChannels ax am [.int x] sIAE 1 (.int (nI 0)) wx wm := by
  obtain ⟨K, n, t, dr, pe, len, cod, mm, pX, mk, fr, ls, lc, u, v, su, sp, tot, spr, FX, fe, ms, pM, FM, li, lm, l1, lq, hs, rfl, rfl, I⟩ := R
  have I0 := I
  obtain ⟨⟨hK1, hK4, hn, ht⟩, hpe, ⟨hlen, hcod⟩, ⟨hmm, hcd, hF⟩, ⟨hX, hM, hXM⟩, ⟨hms, hmk, hmk0⟩, hfr⟩ := I
  obtain ⟨hn2, hn16⟩ := n_K hK1 hK4 hn
  by_cases h : x = nI 2 ∨ x = nI 4 ∨ x = nI 8 ∨ x = nI 16
  · obtain ⟨K', h1, h4, n', hn', rfl, hx⟩ : ∃ K', 1 ≤ K' ∧ K' ≤ 4 ∧ ∃ n', n' = 2 ^ K' ∧ x = nI n' ∧ (n' = 2 ∨ n' = 4 ∨ n' = 8 ∨ n' = 16) := by
      rcases h with h | h | h | h
      · exact ⟨1, by decide, by decide, 2, by decide, h, by decide⟩
      · exact ⟨2, by decide, by decide, 4, by decide, h, by decide⟩
      · exact ⟨3, by decide, by decide, 8, by decide, h, by decide⟩
      · exact ⟨4, by decide, by decide, 16, by decide, h, by decide⟩
    have hk := n_K h1 h4 hn'
    refine Or.inl ⟨_, opV_of (k_setChannels hst n' hx) (m_setChannels hst n' hx) (rel_mk (FX := FX) (FM := FM) (K := K') ⟨⟨h1, h4, hn', by omega⟩, fil_inv hn16 hpe, ⟨hlen, hcod⟩, ⟨by omega, fun k hk => absurd hk (Nat.not_lt_zero _), fun k hk => absurd hk (Nat.not_lt_zero _)⟩, ⟨hX, hM, fun c q _ hq => absurd hq (Nat.not_lt_zero _)⟩, ⟨by omega, fun c hc => ?_, fun c _ => mb_0 c⟩, fun h => by cases h⟩) (by decide) (by decide)⟩
    rw [mb_0]
    exact if_pos (by omega)
  · have h9 : ¬ x = nI 2 ∧ ¬ x = nI 4 ∧ ¬ x = nI 8 ∧ ¬ x = nI 16 := ⟨fun e => h (Or.inl e), fun e => h (Or.inr (Or.inl e)), fun e => h (Or.inr (Or.inr (Or.inl e))), fun e => h (Or.inr (Or.inr (Or.inr e)))⟩
    exact Or.inr (opX_of (kx_setChannels hst x h9) (mx_setChannels hst x h9) (rel_mk (FX := FX) (FM := FM) I0) (by decide) (by decide))
theorem op_setPending {E : ET} {ax am : Nat → Nat} {th : Nat} {wx wm : va_W} (hst : E.1.stackTraces = false) (R : REL E ax am th wx wm) (x p : Int32) : (∃ v9 : Int32, OpV E yX4_setPending cdX4_setPending yX5_setPending cdX5_setPending ax am [.int x, .int p] (.int v9) wx wm) ∨ OpX E yX4_setPending cdX4_setPending yX5_setPending cdX5_setPending ax am [.int x, .int p] sIOB 1 (.int (nI 0)) wx wm ∨ OpX E yX4_setPending cdX4_setPending yX5_setPending cdX5_setPending ax am [.int x, .int p] sIAE 2 (.int (nI 0)) wx wm := by
  obtain ⟨K, n, t, dr, pe, len, cod, mm, pX, mk, fr, ls, lc, u, v, su, sp, tot, spr, FX, fe, ms, pM, FM, li, lm, l1, lq, hs, rfl, rfl, I⟩ := R
  have I0 := I
  obtain ⟨⟨hK1, hK4, hn, ht⟩, hpe, ⟨hlen, hcod⟩, ⟨hmm, hcd, hF⟩, ⟨hX, hM, hXM⟩, ⟨hms, hmk, hmk0⟩, hfr⟩ := I
  obtain ⟨hn2, hn16⟩ := n_K hK1 hK4 hn
  cases hx : inB x n with
  | false => exact Or.inr (Or.inl (opX_of (kx_setPending1 hst hn16 x p hx) (mx_setPending1 hst hn16 x p hx) (rel_mk (FX := FX) (FM := FM) I0) (by decide) (by decide)))
  | true =>
    by_cases hp : nI 0 ≤ p ∧ p ≤ nI 9999
    · obtain ⟨p', -, hp', rfl⟩ := rng_of (by decide) (by decide) hp
      obtain ⟨c, hc, rfl⟩ := inB_of hx
      refine Or.inl ⟨_, opV_of (k_setPending hst hn16 c p' hc hp') (m_setPending hst hn16 c p' hc hp') (rel_mk (FX := FX) (FM := FM) (K := K) ⟨⟨hK1, hK4, hn, ht⟩, fun j => ?_, ⟨hlen, hcod⟩, ⟨hmm, hcd, hF⟩, ⟨hX, hM, hXM⟩, ⟨hms, hmk, hmk0⟩, hfr⟩) (by decide) (by decide)⟩
      simp only [va_up]
      by_cases e : j = c
      · rw [if_pos e]; exact ⟨hp', fun h => by omega⟩
      · rw [if_neg e]; exact hpe j
    · exact Or.inr (Or.inr (opX_of (kx_setPending2 hst hn16 x p hx hp) (mx_setPending2 hst hn16 x p hx hp) (rel_mk (FX := FX) (FM := FM) I0) (by decide) (by decide)))
theorem op_advance {E : ET} {ax am : Nat → Nat} {th : Nat} {wx wm : va_W} (hst : E.1.stackTraces = false) (R : REL E ax am th wx wm)  : (∃ v9 : Int32, OpV E yX4_advance cdX4_advance yX5_advance cdX5_advance ax am [] (.int v9) wx wm) := by
  obtain ⟨K, n, t, dr, pe, len, cod, mm, pX, mk, fr, ls, lc, u, v, su, sp, tot, spr, FX, fe, ms, pM, FM, li, lm, l1, lq, hs, rfl, rfl, I⟩ := R
  have I0 := I
  obtain ⟨⟨hK1, hK4, hn, ht⟩, hpe, ⟨hlen, hcod⟩, ⟨hmm, hcd, hF⟩, ⟨hX, hM, hXM⟩, ⟨hms, hmk, hmk0⟩, hfr⟩ := I
  obtain ⟨hn2, hn16⟩ := n_K hK1 hK4 hn
  refine ⟨_, opV_of (k_advance hst hn16 ht) (m_advance hst ht) ?_ (by decide) (by decide)⟩
  rw [fil_pe hn16 hpe]
  refine rel_mk (FX := FX) (FM := FM) (K := K) ⟨⟨hK1, hK4, hn, (bgT_le ht).2⟩, fil_inv hn16 hpe, ⟨hlen, hcod⟩, ⟨by omega, fun k hk => absurd hk (Nat.not_lt_zero _), fun k hk => absurd hk (Nat.not_lt_zero _)⟩, ⟨lay_le (bgP_le hX) (fun j _ => (hpe j).1), lay_le (bgP_le hM) (fun j _ => (hpe j).1), step_eq hn16 (by omega) ht hXM⟩, ⟨hms, hmk, hmk0⟩, fun h => by cases h⟩
theorem op_append {E : ET} {ax am : Nat → Nat} {th : Nat} {wx wm : va_W} (hst : E.1.stackTraces = false) (R : REL E ax am th wx wm) (x : Int32) : (∃ v9 : Int32, OpV E yX4_append cdX4_append yX5_append cdX5_append ax am [.int x] (.int v9) wx wm) ∨ OpX E yX4_append cdX4_append yX5_append cdX5_append ax am [.int x] sIAE 1 (.int (nI 0)) wx wm ∨ OpX E yX4_append cdX4_append yX5_append cdX5_append ax am [.int x] sISE 2 (.int (nI 0)) wx wm := by
  obtain ⟨K, n, t, dr, pe, len, cod, mm, pX, mk, fr, ls, lc, u, v, su, sp, tot, spr, FX, fe, ms, pM, FM, li, lm, l1, lq, hs, rfl, rfl, I⟩ := R
  have I0 := I
  obtain ⟨⟨hK1, hK4, hn, ht⟩, hpe, ⟨hlen, hcod⟩, ⟨hmm, hcd, hF⟩, ⟨hX, hM, hXM⟩, ⟨hms, hmk, hmk0⟩, hfr⟩ := I
  obtain ⟨hn2, hn16⟩ := n_K hK1 hK4 hn
  by_cases hx : nI 32 ≤ x ∧ x ≤ nI 126
  · by_cases hl : len = 64
    · exact Or.inr (Or.inr (opX_of (kx_append2 hst x hx hl) (mx_append2 hst x hx hl) (rel_mk (FX := FX) (FM := FM) I0) (by decide) (by decide)))
    · obtain ⟨c, h1, h2, rfl⟩ := rng_of (by decide) (by decide) hx
      refine Or.inl ⟨_, opV_of (k_append hst c ⟨h1, h2⟩ (by omega)) (m_append hst c ⟨h1, h2⟩ (by omega)) (rel_mk (FX := FX) (FM := FM) (K := K) ⟨⟨hK1, hK4, hn, ht⟩, hpe, ⟨by omega, fun j hj => ?_⟩, ⟨hmm, hcd, hF⟩, ⟨hX, hM, hXM⟩, ⟨hms, hmk, hmk0⟩, hfr⟩) (by decide) (by decide)⟩
      simp only [va_up]
      by_cases e : j = len
      · rw [if_pos e]; omega
      · rw [if_neg e]; exact hcod j (by omega)
  · exact Or.inr (Or.inl (opX_of (kx_append1 hst x hx) (mx_append1 hst x hx) (rel_mk (FX := FX) (FM := FM) I0) (by decide) (by decide)))
theorem op_clearInput {E : ET} {ax am : Nat → Nat} {th : Nat} {wx wm : va_W} (hst : E.1.stackTraces = false) (R : REL E ax am th wx wm)  : (∃ v9 : Int32, OpV E yX4_clearInput cdX4_clearInput yX5_clearInput cdX5_clearInput ax am [] (.int v9) wx wm) := by
  obtain ⟨K, n, t, dr, pe, len, cod, mm, pX, mk, fr, ls, lc, u, v, su, sp, tot, spr, FX, fe, ms, pM, FM, li, lm, l1, lq, hs, rfl, rfl, I⟩ := R
  have I0 := I
  obtain ⟨⟨hK1, hK4, hn, ht⟩, hpe, ⟨hlen, hcod⟩, ⟨hmm, hcd, hF⟩, ⟨hX, hM, hXM⟩, ⟨hms, hmk, hmk0⟩, hfr⟩ := I
  obtain ⟨hn2, hn16⟩ := n_K hK1 hK4 hn
  exact ⟨_, opV_of (k_clearInput hst) (m_clearInput hst) (rel_mk (FX := FX) (FM := FM) (K := K) ⟨⟨hK1, hK4, hn, ht⟩, hpe, ⟨by omega, fun j hj => absurd hj (Nat.not_lt_zero _)⟩, ⟨hmm, hcd, hF⟩, ⟨hX, hM, hXM⟩, ⟨hms, hmk, hmk0⟩, hfr⟩) (by decide) (by decide)⟩
theorem op_firstError {E : ET} {ax am : Nat → Nat} {th : Nat} {wx wm : va_W} (hst : E.1.stackTraces = false) (R : REL E ax am th wx wm)  : (∃ v9 : Int32, OpV E yX4_firstError cdX4_firstError yX5_firstError cdX5_firstError ax am [] (.int v9) wx wm) := by
  obtain ⟨K, n, t, dr, pe, len, cod, mm, pX, mk, fr, ls, lc, u, v, su, sp, tot, spr, FX, fe, ms, pM, FM, li, lm, l1, lq, hs, rfl, rfl, I⟩ := R
  have I0 := I
  obtain ⟨⟨hK1, hK4, hn, ht⟩, hpe, ⟨hlen, hcod⟩, ⟨hmm, hcd, hF⟩, ⟨hX, hM, hXM⟩, ⟨hms, hmk, hmk0⟩, hfr⟩ := I
  obtain ⟨hn2, hn16⟩ := n_K hK1 hK4 hn
  exact ⟨_, opV_of (k_firstError hst hlen hcod) (m_firstError hst hlen hcod) (rel_mk (FX := FX) (FM := FM) I0) (by decide) (by decide)⟩
theorem ld_inv {n t len : Nat} {pX pM cod : Nat → Nat} (hn : n ≤ 16) (ht : t ≤ 48) (hX : ∀ j, pX j ≤ 9999) (hM : ∀ j, pM j ≤ 9999) (hXM : ∀ c q, c < n → q < t → pX (q * 16 + c) = pM (q * 16 + c)) (hcod : ∀ j, j < len → cod j < 128) : ∀ k, n * k ≤ len → (∀ j, ldP t pX cod n k j ≤ 9999) ∧ (∀ j, ldP t pM cod n k j ≤ 9999) ∧ ∀ c q, c < n → q < ldT t k → ldP t pX cod n k (q * 16 + c) = ldP t pM cod n k (q * 16 + c)
  | 0, _ => ⟨hX, hM, hXM⟩
  | k + 1, h => by
    have h0 : n * k + n ≤ len := by rw [Nat.mul_succ] at h; exact h
    obtain ⟨i1, i2, i3⟩ := ld_inv hn ht hX hM hXM hcod k (by omega)
    have hg : ∀ j, j < n → (fun c => pv (cod (n * k + c))) j ≤ 9999 := fun j hj => by
      have := hcod (n * k + j) (by omega)
      simp only [pv]
      split <;> omega
    exact ⟨lay_le (bgP_le i1) hg, lay_le (bgP_le i2) hg, step_eq (Nat.le_refl _) hn (ldT_le ht k) i3⟩
theorem op_load {E : ET} {ax am : Nat → Nat} {th : Nat} {wx wm : va_W} (hst : E.1.stackTraces = false) (R : REL E ax am th wx wm)  : (∃ v9 : Int32, OpV E yX4_load cdX4_load yX5_load cdX5_load ax am [] (.int v9) wx wm) ∨ OpX E yX4_load cdX4_load yX5_load cdX5_load ax am [] sISE 1 (.int (nI 0)) wx wm := by
  obtain ⟨K, n, t, dr, pe, len, cod, mm, pX, mk, fr, ls, lc, u, v, su, sp, tot, spr, FX, fe, ms, pM, FM, li, lm, l1, lq, hs, rfl, rfl, I⟩ := R
  have I0 := I
  obtain ⟨⟨hK1, hK4, hn, ht⟩, hpe, ⟨hlen, hcod⟩, ⟨hmm, hcd, hF⟩, ⟨hX, hM, hXM⟩, ⟨hms, hmk, hmk0⟩, hfr⟩ := I
  obtain ⟨hn2, hn16⟩ := n_K hK1 hK4 hn
  by_cases h : len = 0 ∨ errAt cod len ≠ len ∨ len % n ≠ 0
  · exact Or.inr (opX_of (kx_load hst hn2 hn16 hlen hcod h) (mx_load hst hn2 hn16 hlen hcod h) (rel_mk (FX := FX) (FM := FM) I0) (by decide) (by decide))
  · have h1 : 1 ≤ len := Nat.one_le_iff_ne_zero.mpr (fun e => h (Or.inl e))
    have h2 : errAt cod len = len := Decidable.byContradiction (fun e => h (Or.inr (Or.inl e)))
    have h3 : len % n = 0 := Decidable.byContradiction (fun e => h (Or.inr (Or.inr e)))
    have h4 : ∀ j, j < len → cod j < 128 ∧ isP (cod j) = true := fun j hj => ⟨hcod j hj, by
      have := fa_first_no (fun i => !isP (cod i)) len j (by rw [show fa_first (fun i => !isP (cod i)) len = len from h2]; exact hj)
      simpa using this⟩
    obtain ⟨i1, i2, i3⟩ := ld_inv hn16 ht hX hM hXM hcod (len / n) (Nat.mul_div_le len n)
    exact Or.inl ⟨_, opV_of (k_load hst hn2 hn16 ht hlen h1 h3 h4) (m_load hst hn2 hn16 ht hlen h1 h3 h4) (rel_mk (FX := FX) (FM := FM) (K := K) ⟨⟨hK1, hK4, hn, ldT_le ht _⟩, hpe, ⟨by omega, fun j hj => absurd hj (Nat.not_lt_zero _)⟩, ⟨by omega, fun k hk => absurd hk (Nat.not_lt_zero _), fun k hk => absurd hk (Nat.not_lt_zero _)⟩, ⟨i1, i2, i3⟩, ⟨hms, hmk, hmk0⟩, fun h => by cases h⟩) (by decide) (by decide)⟩
theorem inj_eq {n t q d am : Nat} {pX pM : Nat → Nat} (hn2 : 2 ≤ n) (hn : n ≤ 16) (hq : q + d < t) (hXM : ∀ c q, c < n → q < t → pX (q * 16 + c) = pM (q * 16 + c)) : ∀ k, k ≤ n → (∀ c q', c < n → q' < t → injP pX n q d am k (q' * 16 + c) = injP pM n q d am k (q' * 16 + c)) ∧ injS pX n q d am k = injS pM n q d am k
  | 0, _ => ⟨hXM, rfl⟩
  | k + 1, h => by
    obtain ⟨i1, i2⟩ := inj_eq hn2 hn hq hXM k (by omega)
    have hs := sof_le (d := d) hn2 (show k < n by omega)
    have e := i1 k (q + sof n d k) (by omega) (by omega)
    refine ⟨fun c q' hc hq' => ?_, ?_⟩
    · simp only [injP, va_up]
      rw [e, i1 c q' hc hq']
    · simp only [injS]
      rw [e, i2]
theorem op_inject {E : ET} {ax am : Nat → Nat} {th : Nat} {wx wm : va_W} (hst : E.1.stackTraces = false) (R : REL E ax am th wx wm) (x1 x2 x3 : Int32) : (∃ v9 : Int32, OpV E yX4_inject cdX4_inject yX5_inject cdX5_inject ax am [.int x1, .int x2, .int x3] (.int v9) wx wm) ∨ OpX E yX4_inject cdX4_inject yX5_inject cdX5_inject ax am [.int x1, .int x2, .int x3] sIOB 1 (.int (nI 0)) wx wm ∨ OpX E yX4_inject cdX4_inject yX5_inject cdX5_inject ax am [.int x1, .int x2, .int x3] sIAE 2 (.int (nI 0)) wx wm := by
  obtain ⟨K, n, t, dr, pe, len, cod, mm, pX, mk, fr, ls, lc, u, v, su, sp, tot, spr, FX, fe, ms, pM, FM, li, lm, l1, lq, hs, rfl, rfl, I⟩ := R
  have I0 := I
  obtain ⟨⟨hK1, hK4, hn, ht⟩, hpe, ⟨hlen, hcod⟩, ⟨hmm, hcd, hF⟩, ⟨hX, hM, hXM⟩, ⟨hms, hmk, hmk0⟩, hfr⟩ := I
  obtain ⟨hn2, hn16⟩ := n_K hK1 hK4 hn
  cases hx : bxB n t x1 x2 1 with
  | false => exact Or.inr (Or.inl (opX_of (kx_inject1 hst hn16 ht x1 x2 x3 hx) (mx_inject1 hst hn2 hn16 ht x1 x2 x3 hx) (rel_mk (FX := FX) (FM := FM) I0) (by decide) (by decide)))
  | true =>
    by_cases h3 : nI 1 ≤ x3 ∧ x3 ≤ nI 9999
    · obtain ⟨am', a1, a2, rfl⟩ := rng_of (by decide) (by decide) h3
      obtain ⟨d, q, hd, rfl, rfl, hq⟩ := bxB_of hn16 hx
      obtain ⟨i1, i2⟩ := inj_eq (am := am') hn2 hn16 (show q + d < t by omega) hXM n (Nat.le_refl _)
      have CX := k_inject (E := E) (ad := ax) (dr := dr) (pe := pe) (mk := mk) (len := len) (cod := cod) (fr := fr) (ls := ls) (lc := lc) (u := u) (v := v) (su := su) (sp := sp) (tot := tot) (spr := spr) (mm := mm) (fs := FX.1) (fc := FX.2.1) (fw := FX.2.2.1) (sc := FX.2.2.2) (fe := fe) hst hn2 hn16 ht d q am' hd hq a1 a2 hX
      rw [i2] at CX
      exact Or.inl ⟨_, opV_of CX (m_inject hst hn2 hn16 ht d q am' hd (by omega) a1 a2 hM) (rel_mk (FX := FX) (FM := FM) (K := K) ⟨⟨hK1, hK4, hn, ht⟩, hpe, ⟨hlen, hcod⟩, ⟨by omega, fun k hk => absurd hk (Nat.not_lt_zero _), fun k hk => absurd hk (Nat.not_lt_zero _)⟩, ⟨injP_le hX n, injP_le hM n, i1⟩, ⟨hms, hmk, hmk0⟩, fun h => by cases h⟩) (by decide) (by decide)⟩
    · exact Or.inr (Or.inr (opX_of (kx_inject2 hst hn16 ht x1 x2 x3 hx h3) (mx_inject2 hst hn2 hn16 ht x1 x2 x3 hx h3) (rel_mk (FX := FX) (FM := FM) I0) (by decide) (by decide)))
theorem op_power {E : ET} {ax am : Nat → Nat} {th : Nat} {wx wm : va_W} (hst : E.1.stackTraces = false) (R : REL E ax am th wx wm) (x y : Int32) : (∃ v9 : Int32, OpV E yX4_power cdX4_power yX5_power cdX5_power ax am [.int x, .int y] (.int v9) wx wm) ∨ OpX E yX4_power cdX4_power yX5_power cdX5_power ax am [.int x, .int y] sIOB 1 (.int (nI 0)) wx wm := by
  obtain ⟨K, n, t, dr, pe, len, cod, mm, pX, mk, fr, ls, lc, u, v, su, sp, tot, spr, FX, fe, ms, pM, FM, li, lm, l1, lq, hs, rfl, rfl, I⟩ := R
  have I0 := I
  obtain ⟨⟨hK1, hK4, hn, ht⟩, hpe, ⟨hlen, hcod⟩, ⟨hmm, hcd, hF⟩, ⟨hX, hM, hXM⟩, ⟨hms, hmk, hmk0⟩, hfr⟩ := I
  obtain ⟨hn2, hn16⟩ := n_K hK1 hK4 hn
  cases hx : (inB x n && inB y t) with
  | false => exact Or.inr (opX_of (kx_power hst hn16 ht x y hx) (mx_power hst hn16 ht x y hx) (rel_mk (FX := FX) (FM := FM) I0) (by decide) (by decide))
  | true =>
    obtain ⟨h1, h2⟩ := Bool.and_eq_true_iff.mp hx
    obtain ⟨c, hc, rfl⟩ := inB_of h1
    obtain ⟨q, hq, rfl⟩ := inB_of h2
    have CX := k_power (E := E) (ad := ax) (n := n) (t := t) (dr := dr) (pw := pX) (pe := pe) (mk := mk) (len := len) (cod := cod) (fr := fr) (ls := ls) (lc := lc) (u := u) (v := v) (su := su) (sp := sp) (tot := tot) (spr := spr) (mm := mm) (fs := FX.1) (fc := FX.2.1) (fw := FX.2.2.1) (sc := FX.2.2.2) (fe := fe) hst hn16 ht c q hc hq
    rw [hXM c q hc hq] at CX
    exact Or.inl ⟨_, opV_of CX (m_power hst hn16 ht c q hc hq) (rel_mk (FX := FX) (FM := FM) I0) (by decide) (by decide)⟩
theorem cnt_eq {n ms : Nat} {mk : Nat → Bool} (hn : n ≤ 16) (hmk : ∀ c, c < n → mk c = mb ms c) (hmk0 : ∀ c, n ≤ c → mb ms c = false) : cntM mk n = ons ms 16 := by
  have hb : ∀ c, (if mb ms c = true then 1 else 0) = ms / 2 ^ c % 2 := fun c => by
    simp only [mb, decide_eq_true_eq]
    split <;> omega
  have h1 : ∀ k, ons ms (n + k) = ons ms n := fun k => by
    induction k with
    | zero => rfl
    | succ k ih =>
      show ons ms (n + k) + ms / 2 ^ (n + k) % 2 = _
      rw [ih, ← hb, hmk0 (n + k) (by omega)]
      simp
  have h2 := h1 (16 - n)
  rw [show n + (16 - n) = 16 by omega] at h2
  rw [h2]
  exact sm_cong (fun c hc => by rw [hmk c hc, hb])
theorem op_count {E : ET} {ax am : Nat → Nat} {th : Nat} {wx wm : va_W} (hst : E.1.stackTraces = false) (R : REL E ax am th wx wm) (x : Int32) : (∃ v9 : Int32, OpV E yX4_count cdX4_count yX5_count cdX5_count ax am [.int x] (.int v9) wx wm) ∨ OpX E yX4_count cdX4_count yX5_count cdX5_count ax am [.int x] sIAE 1 (.int (nI 0)) wx wm := by
  obtain ⟨K, n, t, dr, pe, len, cod, mm, pX, mk, fr, ls, lc, u, v, su, sp, tot, spr, FX, fe, ms, pM, FM, li, lm, l1, lq, hs, rfl, rfl, I⟩ := R
  have I0 := I
  obtain ⟨⟨hK1, hK4, hn, ht⟩, hpe, ⟨hlen, hcod⟩, ⟨hmm, hcd, hF⟩, ⟨hX, hM, hXM⟩, ⟨hms, hmk, hmk0⟩, hfr⟩ := I
  obtain ⟨hn2, hn16⟩ := n_K hK1 hK4 hn
  by_cases hx : nI 0 ≤ x ∧ x ≤ nI 4
  · obtain ⟨a, -, ha, rfl⟩ := rng_of (by decide) (by decide) hx
    have CX := k_count (E := E) (ad := ax) (n := n) (t := t) (dr := dr) (pw := pX) (pe := pe) (mk := mk) (len := len) (cod := cod) (fr := fr) (ls := ls) (lc := lc) (u := u) (v := v) (su := su) (sp := sp) (tot := tot) (spr := spr) (mm := mm) (fs := FX.1) (fc := FX.2.1) (fw := FX.2.2.1) (sc := FX.2.2.2) (fe := fe) hst hn16 a (by omega)
    rw [cnt_eq hn16 hmk hmk0] at CX
    exact Or.inl ⟨_, opV_of CX (m_count hst hms a (by omega)) (rel_mk (FX := FX) (FM := FM) I0) (by decide) (by decide)⟩
  · exact Or.inr (opX_of (kx_count hst x hx) (mx_count hst x hx) (rel_mk (FX := FX) (FM := FM) I0) (by decide) (by decide))
theorem mb_or (ms b c : Nat) : mb (ms ||| 2 ^ b) c = (mb ms c || decide (b = c)) := by rw [mb_tb, mb_tb, Nat.testBit_or, Nat.testBit_two_pow]
theorem mb_clr {ms b c : Nat} (hb : b < 16) (hms : ms < 65536) : mb (clr ms b) c = (mb ms c && !decide (b = c)) := by
  rw [mb_tb, mb_tb]
  simp only [clr]
  rw [Nat.testBit_and, Nat.testBit_xor, Nat.testBit_two_pow, show (4294967295 : Nat) = 2 ^ 32 - 1 by decide, Nat.testBit_two_pow_sub_one]
  by_cases hc : c < 32
  · simp [hc]
  · have h1 : ms.testBit c = false := Nat.testBit_lt_two_pow (Nat.lt_of_lt_of_le hms (by rw [show 65536 = 2 ^ 16 by decide]; exact Nat.pow_le_pow_right (by decide) (by omega)))
    simp [h1]
theorem or_lt {ms b : Nat} (hb : b < 16) (hms : ms < 65536) : ms ||| 2 ^ b < 65536 := by
  have : (2 : Nat) ^ b < 2 ^ 16 := Nat.pow_lt_pow_right (by decide) hb
  exact Nat.or_lt_two_pow (n := 16) hms this
theorem clr_lt {ms b : Nat} (hms : ms < 65536) : clr ms b < 65536 := Nat.lt_of_le_of_lt Nat.and_le_left hms
theorem op_setMasked {E : ET} {ax am : Nat → Nat} {th : Nat} {wx wm : va_W} (hst : E.1.stackTraces = false) (R : REL E ax am th wx wm) (x : Int32) (b : Bool) : (∃ v9 : Bool, OpV E yX4_setMasked cdX4_setMasked yX5_setMasked cdX5_setMasked ax am [.int x, .int (bI b)] (.int (bI v9)) wx wm) ∨ OpX E yX4_setMasked cdX4_setMasked yX5_setMasked cdX5_setMasked ax am [.int x, .int (bI b)] sIOB 1 (.int (nI 0)) wx wm := by
  obtain ⟨K, n, t, dr, pe, len, cod, mm, pX, mk, fr, ls, lc, u, v, su, sp, tot, spr, FX, fe, ms, pM, FM, li, lm, l1, lq, hs, rfl, rfl, I⟩ := R
  have I0 := I
  obtain ⟨⟨hK1, hK4, hn, ht⟩, hpe, ⟨hlen, hcod⟩, ⟨hmm, hcd, hF⟩, ⟨hX, hM, hXM⟩, ⟨hms, hmk, hmk0⟩, hfr⟩ := I
  obtain ⟨hn2, hn16⟩ := n_K hK1 hK4 hn
  cases hx : inB x n with
  | false => exact Or.inr (opX_of (kx_setMasked hst hn16 x b hx) (mx_setMasked hst hn16 x b hx) (rel_mk (FX := FX) (FM := FM) I0) (by decide) (by decide))
  | true =>
    obtain ⟨c, hc, rfl⟩ := inB_of hx
    have CX := k_setMasked (E := E) (ad := ax) (n := n) (t := t) (dr := dr) (pw := pX) (pe := pe) (mk := mk) (len := len) (cod := cod) (fr := fr) (ls := ls) (lc := lc) (u := u) (v := v) (su := su) (sp := sp) (tot := tot) (spr := spr) (mm := mm) (fs := FX.1) (fc := FX.2.1) (fw := FX.2.2.1) (sc := FX.2.2.2) (fe := fe) hst hn16 c b hc
    rw [hmk c hc] at CX
    refine Or.inl ⟨_, opV_of CX (m_setMasked hst hn16 hms c b hc) (rel_mk (FX := FX) (FM := FM) (K := K) ⟨⟨hK1, hK4, hn, ht⟩, hpe, ⟨hlen, hcod⟩, ⟨by omega, fun k hk => absurd hk (Nat.not_lt_zero _), fun k hk => absurd hk (Nat.not_lt_zero _)⟩, ⟨hX, hM, hXM⟩, ⟨?_, fun z hz => ?_, fun z hz => ?_⟩, fun h => by cases h⟩) (by decide) (by decide)⟩
    · cases b
      · exact clr_lt hms
      · exact or_lt (by omega) hms
    · cases b
      · show va_up mk c false z = mb (clr ms c) z
        rw [mb_clr (by omega) hms]
        simp only [va_up]
        by_cases e : z = c
        · simp [e]
        · rw [if_neg e, hmk z hz]; simp [Ne.symm e]
      · show va_up mk c true z = mb (ms ||| 2 ^ c) z
        rw [mb_or]
        simp only [va_up]
        by_cases e : z = c
        · simp [e]
        · rw [if_neg e, hmk z hz]; simp [Ne.symm e]
    · cases b
      · show mb (clr ms c) z = false
        rw [mb_clr (by omega) hms, hmk0 z hz]; rfl
      · show mb (ms ||| 2 ^ c) z = false
        rw [mb_or, hmk0 z hz]; simp; omega
theorem op_channelSum {E : ET} {ax am : Nat → Nat} {th : Nat} {wx wm : va_W} (hst : E.1.stackTraces = false) (R : REL E ax am th wx wm) (x : Int32) : (∃ v9 : Int32, OpV E yX4_channelSum cdX4_channelSum yX5_channelSum cdX5_channelSum ax am [.int x] (.int v9) wx wm) ∨ OpX E yX4_channelSum cdX4_channelSum yX5_channelSum cdX5_channelSum ax am [.int x] sIOB 1 (.int (nI 0)) wx wm := by
  obtain ⟨K, n, t, dr, pe, len, cod, mm, pX, mk, fr, ls, lc, u, v, su, sp, tot, spr, FX, fe, ms, pM, FM, li, lm, l1, lq, hs, rfl, rfl, I⟩ := R
  have I0 := I
  obtain ⟨⟨hK1, hK4, hn, ht⟩, hpe, ⟨hlen, hcod⟩, ⟨hmm, hcd, hF⟩, ⟨hX, hM, hXM⟩, ⟨hms, hmk, hmk0⟩, hfr⟩ := I
  obtain ⟨hn2, hn16⟩ := n_K hK1 hK4 hn
  cases hx : inB x n with
  | false => exact Or.inr (opX_of (kx_channelSum hst hn16 x hx) (mx_channelSum hst hn16 x hx) (rel_mk (FX := FX) (FM := FM) I0) (by decide) (by decide))
  | true =>
    obtain ⟨c, hc, rfl⟩ := inB_of hx
    have CX := k_channelSum (E := E) (ad := ax) (n := n) (t := t) (dr := dr) (pw := pX) (pe := pe) (mk := mk) (len := len) (cod := cod) (fr := fr) (ls := ls) (lc := lc) (u := u) (v := v) (su := su) (sp := sp) (tot := tot) (spr := spr) (mm := mm) (fs := FX.1) (fc := FX.2.1) (fw := FX.2.2.1) (sc := FX.2.2.2) (fe := fe) hst hn16 ht c hc
    rw [chs_eq hXM hc] at CX
    exact Or.inl ⟨_, opV_of CX (m_channelSum hst hn16 ht c hc) (rel_mk (FX := FX) (FM := FM) I0) (by decide) (by decide)⟩
theorem op_offset {E : ET} {ax am : Nat → Nat} {th : Nat} {wx wm : va_W} (hst : E.1.stackTraces = false) (R : REL E ax am th wx wm) (x y : Int32) (s : Bool) : (∃ v9 : Int32, OpV E yX4_offset cdX4_offset yX5_offset cdX5_offset ax am [.int x, .int y, .int (bI s)] (.int v9) wx wm) ∨ OpX E yX4_offset cdX4_offset yX5_offset cdX5_offset ax am [.int x, .int y, .int (bI s)] sIOB 1 (.int (nI 0)) wx wm := by
  obtain ⟨K, n, t, dr, pe, len, cod, mm, pX, mk, fr, ls, lc, u, v, su, sp, tot, spr, FX, fe, ms, pM, FM, li, lm, l1, lq, hs, rfl, rfl, I⟩ := R
  have I0 := I
  obtain ⟨⟨hK1, hK4, hn, ht⟩, hpe, ⟨hlen, hcod⟩, ⟨hmm, hcd, hF⟩, ⟨hX, hM, hXM⟩, ⟨hms, hmk, hmk0⟩, hfr⟩ := I
  obtain ⟨hn2, hn16⟩ := n_K hK1 hK4 hn
  cases hx : (inB x n && inB y n) with
  | false => exact Or.inr (opX_of (kx_offset hst hn16 x y s hx) (mx_offset hst hn16 x y s hx) (rel_mk (FX := FX) (FM := FM) I0) (by decide) (by decide))
  | true =>
    obtain ⟨h1, h2⟩ := Bool.and_eq_true_iff.mp hx
    obtain ⟨d, hd, rfl⟩ := inB_of h1
    obtain ⟨c, hc, rfl⟩ := inB_of h2
    exact Or.inl ⟨_, opV_of (k_offset hst hK1 hK4 hn d c s hd hc) (m_offset hst hK1 hK4 hn d c s hd hc) (rel_mk (FX := FX) (FM := FM) I0) (by decide) (by decide)⟩
theorem op_bend {E : ET} {ax am : Nat → Nat} {th : Nat} {wx wm : va_W} (hst : E.1.stackTraces = false) (R : REL E ax am th wx wm) (x : Int32) : (∃ v9 : Int32, OpV E yX4_bend cdX4_bend yX5_bend cdX5_bend ax am [.int x] (.int v9) wx wm) ∨ OpX E yX4_bend cdX4_bend yX5_bend cdX5_bend ax am [.int x] sIOB 1 (.int (nI 0)) wx wm := by
  obtain ⟨K, n, t, dr, pe, len, cod, mm, pX, mk, fr, ls, lc, u, v, su, sp, tot, spr, FX, fe, ms, pM, FM, li, lm, l1, lq, hs, rfl, rfl, I⟩ := R
  have I0 := I
  obtain ⟨⟨hK1, hK4, hn, ht⟩, hpe, ⟨hlen, hcod⟩, ⟨hmm, hcd, hF⟩, ⟨hX, hM, hXM⟩, ⟨hms, hmk, hmk0⟩, hfr⟩ := I
  obtain ⟨hn2, hn16⟩ := n_K hK1 hK4 hn
  cases hx : inB x n with
  | false => exact Or.inr (opX_of (kx_bend hst hn16 x hx) (mx_bend hst hn16 x hx) (rel_mk (FX := FX) (FM := FM) I0) (by decide) (by decide))
  | true =>
    obtain ⟨d, hd, rfl⟩ := inB_of hx
    exact Or.inl ⟨_, opV_of (k_bend hst hK1 hK4 hn d hd) (m_bend hst hK1 hK4 hn d hd) (rel_mk (FX := FX) (FM := FM) I0) (by decide) (by decide)⟩
theorem tld_eq {FX FM : FA} {mm dr i a : Nat} (hF : sameF mm FX FM) (hi : i < mm) : tld FX.1 FX.2.1 FX.2.2.1 FX.2.2.2 dr i a = tld FM.1 FM.2.1 FM.2.2.1 FM.2.2.2 dr i a := by
  obtain ⟨h1, h2, h3, h4⟩ := hF i hi
  simp only [tld]
  rw [h1, h2, h3, h4]
theorem op_candidate {E : ET} {ax am : Nat → Nat} {th : Nat} {wx wm : va_W} (hst : E.1.stackTraces = false) (R : REL E ax am th wx wm) (x y : Int32) : (∃ v9 : Int64, OpV E yX4_candidate cdX4_candidate yX5_candidate cdX5_candidate ax am [.int x, .int y] (.long v9) wx wm) ∨ OpX E yX4_candidate cdX4_candidate yX5_candidate cdX5_candidate ax am [.int x, .int y] sIOB 1 (.long 0) wx wm ∨ OpX E yX4_candidate cdX4_candidate yX5_candidate cdX5_candidate ax am [.int x, .int y] sIAE 2 (.long 0) wx wm := by
  obtain ⟨K, n, t, dr, pe, len, cod, mm, pX, mk, fr, ls, lc, u, v, su, sp, tot, spr, FX, fe, ms, pM, FM, li, lm, l1, lq, hs, rfl, rfl, I⟩ := R
  have I0 := I
  obtain ⟨⟨hK1, hK4, hn, ht⟩, hpe, ⟨hlen, hcod⟩, ⟨hmm, hcd, hF⟩, ⟨hX, hM, hXM⟩, ⟨hms, hmk, hmk0⟩, hfr⟩ := I
  obtain ⟨hn2, hn16⟩ := n_K hK1 hK4 hn
  cases hx : inB x mm with
  | false => exact Or.inr (Or.inl (opX_of (kx_candidate1 hst hmm x y hx) (mx_candidate1 hst hmm x y hx) (rel_mk (FX := FX) (FM := FM) I0) (by decide) (by decide)))
  | true =>
    by_cases hy : nI 0 ≤ y ∧ y ≤ nI 4
    · obtain ⟨a, -, ha, rfl⟩ := rng_of (by decide) (by decide) hy
      obtain ⟨i, hi, rfl⟩ := inB_of hx
      have CX := k_candidate (E := E) (ad := ax) (n := n) (t := t) (dr := dr) (pw := pX) (pe := pe) (mk := mk) (len := len) (cod := cod) (fr := fr) (ls := ls) (lc := lc) (u := u) (v := v) (su := su) (sp := sp) (tot := tot) (spr := spr) (mm := mm) (fs := FX.1) (fc := FX.2.1) (fw := FX.2.2.1) (sc := FX.2.2.2) (fe := fe) hst hmm i a hi (by omega)
      rw [tld_eq hF hi] at CX
      exact Or.inl ⟨_, opV_of CX (m_candidate hst hmm i a hi (by omega)) (rel_mk (FX := FX) (FM := FM) I0) (by decide) (by decide)⟩
    · exact Or.inr (Or.inr (opX_of (kx_candidate2 hst hmm x y hx hy) (mx_candidate2 hst hmm x y hx hy) (rel_mk (FX := FX) (FM := FM) I0) (by decide) (by decide)))
theorem fI_cong {p p' : Nat → Bool} : ∀ j i : Nat, (∀ k, k < i + j → p k = p' k) → fI p i j = fI p' i j
  | 0, i, _ => rfl
  | j + 1, i, h => by
    simp only [fI]
    rw [h i (by omega), fI_cong j (i + 1) (fun k hk => h k (by omega))]
theorem op_candidateAt {E : ET} {ax am : Nat → Nat} {th : Nat} {wx wm : va_W} (hst : E.1.stackTraces = false) (R : REL E ax am th wx wm) (x : Int32) : (∃ v9 : Int32, OpV E yX4_candidateAt cdX4_candidateAt yX5_candidateAt cdX5_candidateAt ax am [.int x] (.int v9) wx wm) ∨ OpX E yX4_candidateAt cdX4_candidateAt yX5_candidateAt cdX5_candidateAt ax am [.int x] sIOB 1 (.int (nI 0)) wx wm := by
  obtain ⟨K, n, t, dr, pe, len, cod, mm, pX, mk, fr, ls, lc, u, v, su, sp, tot, spr, FX, fe, ms, pM, FM, li, lm, l1, lq, hs, rfl, rfl, I⟩ := R
  have I0 := I
  obtain ⟨⟨hK1, hK4, hn, ht⟩, hpe, ⟨hlen, hcod⟩, ⟨hmm, hcd, hF⟩, ⟨hX, hM, hXM⟩, ⟨hms, hmk, hmk0⟩, hfr⟩ := I
  obtain ⟨hn2, hn16⟩ := n_K hK1 hK4 hn
  cases hx : inB x t with
  | false => exact Or.inr (opX_of (kx_candidateAt hst ht x hx) (mx_candidateAt hst hmm ht x hx) (rel_mk (FX := FX) (FM := FM) I0) (by decide) (by decide))
  | true =>
    obtain ⟨q, hq, rfl⟩ := inB_of hx
    have CX := k_candidateAt (E := E) (ad := ax) (n := n) (t := t) (dr := dr) (pw := pX) (pe := pe) (mk := mk) (len := len) (cod := cod) (fr := fr) (ls := ls) (lc := lc) (u := u) (v := v) (su := su) (sp := sp) (tot := tot) (spr := spr) (mm := mm) (fs := FX.1) (fc := FX.2.1) (fw := FX.2.2.1) (sc := FX.2.2.2) (fe := fe) hst hmm ht q hq hcd
    rw [fI_cong (p' := inS FM.1 FM.2.1 FM.2.2.1 q) mm 0 (fun k hk => by
      obtain ⟨h1, h2, h3, -⟩ := hF k (by omega)
      simp only [inS]
      rw [h1, h2, h3])] at CX
    refine Or.inl ⟨_, opV_of CX (m_candidateAt hst hmm ht q hq (fun k hk => ?_)) (rel_mk (FX := FX) (FM := FM) I0) (by decide) (by decide)⟩
    obtain ⟨h1, h2, h3, -⟩ := hF k hk
    rw [← h1, ← h2, ← h3]
    exact hcd k hk
