/-! find: both sides find the same -/
def nearA (le : Int64) (a a' : Acc) : Prop := (a.2.2.2 = 0 ∧ a'.2.2.2 = le - 1) ∨ (a = a' ∧ le ≤ a.2.2.2)
theorem i64_0 : (0 : Int64).toInt = 0 := by decide
theorem i64_1 : (1 : Int64).toInt = 1 := by decide
theorem le_sub {le s : Int64} (h : 1 ≤ le) : le - 1 < s ↔ le ≤ s := by
  have h1 := (fa_le64 _ _).mp h
  rw [i64_1] at h1
  have hr := fb_rngL le
  have e : (le - 1).toInt = le.toInt - 1 := by
    rw [fb_subL, i64_1] <;> rw [i64_1] <;> omega
  rw [fa_lt64, fa_le64, e]
  omega
theorem lst_le {thr s : Int64} : lst thr ≤ s ↔ thr ≤ s ∧ 0 < s := by
  unfold lst
  split
  · rename_i h
    rw [fa_lt64, i64_1] at h
    rw [fa_le64, fa_lt64, i64_0]
    omega
  · rename_i h
    rw [fa_lt64, i64_1] at h
    rw [fa_le64, fa_le64, fa_lt64, i64_0, i64_1]
    omega
theorem near_step {thr s : Int64} {a a' : Acc} {d q w : Nat} (h : nearA (lst thr) a a') : nearA (lst thr) (stpA thr true d q w s a) (stpX d q w s a') := by
  unfold stpA stpX
  rcases h with ⟨h1, h2⟩ | ⟨rfl, h1⟩
  · by_cases hs : lst thr ≤ s
    · have h3 := lst_le.mp hs
      rw [if_pos ⟨h3.1, by rw [h1]; exact h3.2, rfl⟩, if_pos (by rw [h2]; exact (le_sub (lst_1 thr)).mpr hs)]
      exact Or.inr ⟨rfl, hs⟩
    · rw [if_neg (fun c => hs (lst_le.mpr ⟨c.1, by have := c.2.1; rw [h1] at this; exact this⟩)), if_neg (by rw [h2]; exact fun c => hs ((le_sub (lst_1 thr)).mp c))]
      exact Or.inl ⟨h1, h2⟩
  · by_cases hs : a.2.2.2 < s
    · have h3 : lst thr ≤ s := by
        rw [fa_lt64] at hs
        rw [fa_le64] at h1 ⊢
        omega
      rw [if_pos ⟨(lst_le.mp h3).1, hs, rfl⟩, if_pos hs]
      exact Or.inr ⟨rfl, h3⟩
    · rw [if_neg (fun c => hs c.2.1), if_neg hs]
      exact Or.inr ⟨rfl, h1⟩
theorem near_W0 {thr : Int64} {ap : Nat → Bool} {S S' : Nat → Int64} {d q : Nat} {a a' : Acc} {m' : Nat} (h : nearA (lst thr) a a') : ∀ m, (∀ w, 1 ≤ w → w ≤ m → ap w = decide (w ≤ m')) → (∀ w, 1 ≤ w → w ≤ m' → S w = S' w) → nearA (lst thr) (lkW thr ap S d q a m) (clW S' d q a' (min m m'))
  | 0, _, _ => by rw [Nat.zero_min]; exact h
  | m + 1, h1, h2 => by
    have i := near_W0 (d := d) (q := q) h m (fun w w1 w2 => h1 w w1 (by omega)) h2
    have e := h1 (m + 1) (by omega) (Nat.le_refl _)
    show nearA (lst thr) (stpA thr (ap (m + 1)) d q (m + 1) (S (m + 1)) (lkW thr ap S d q a m)) _
    by_cases hm : m + 1 ≤ m'
    · rw [e, decide_eq_true hm, h2 (m + 1) (by omega) hm, Nat.min_eq_left hm]
      rw [Nat.min_eq_left (by omega)] at i
      exact near_step i
    · rw [e, decide_eq_false hm, Nat.min_eq_right (by omega)]
      rw [Nat.min_eq_right (by omega)] at i
      unfold stpA
      rw [if_neg (fun c => by cases c.2.2)]
      exact i
theorem near_W {thr : Int64} {ap : Nat → Bool} {S S' : Nat → Int64} {d q : Nat} {a a' : Acc} {m m' : Nat} (h : nearA (lst thr) a a') (hm : m' ≤ m) (h1 : ∀ w, 1 ≤ w → w ≤ m → ap w = decide (w ≤ m')) (h2 : ∀ w, 1 ≤ w → w ≤ m' → S w = S' w) : nearA (lst thr) (lkW thr ap S d q a m) (clW S' d q a' m') := by
  have := near_W0 (d := d) (q := q) h m h1 h2
  rw [Nat.min_eq_right hm] at this
  exact this
theorem near_Q {thr : Int64} {W0 : Nat} {fs fc fw : Nat → Nat} {mm ms : Nat} {pw : Nat → Nat} {K n t d : Nat} {S : Nat → Nat → Nat → Int64} {fe : Nat → Nat} {a a' : Acc} (h : nearA (lst thr) a a') (H : ∀ q w, 1 ≤ w → q + w + d ≤ t → apB fs fc fw q (q + w - 1 + d) mm = decide (q + w + d ≤ fe q)) (Hf : ∀ q, q ≤ t → fe q ≤ t) (HS : ∀ q w, 1 ≤ w → w ≤ W0 → q + w ≤ t - d → SC ms pw K n t d q w = S d q w) : ∀ Q, Q ≤ t - d → nearA (lst thr) (lkQ thr W0 fs fc fw mm ms pw K n t d a Q) (clQ S W0 fe d a' Q)
  | 0, _ => h
  | Q + 1, hQ => by
    have i := near_Q h H Hf HS Q (by omega)
    have hf := Hf Q (by omega)
    refine near_W i (m := min W0 (t - d - Q)) (m' := min W0 (fe Q - d - Q)) (by omega) (fun w w1 w2 => ?_) (fun w w1 w2 => HS Q w w1 (by omega) (by omega))
    show apB fs fc fw Q (Q + w - 1 + d) mm = _
    rw [H Q w w1 (by omega)]
    exact decide_eq_decide.mpr (by omega)
theorem near_D {thr : Int64} {W0 : Nat} {fs fc fw : Nat → Nat} {mm ms : Nat} {pw : Nat → Nat} {K n t : Nat} {S : Nat → Nat → Nat → Int64} {fe : Nat → Nat} {a a' : Acc} (h : nearA (lst thr) a a') (H : ∀ d q w, 1 ≤ w → q + w + d ≤ t → apB fs fc fw q (q + w - 1 + d) mm = decide (q + w + d ≤ fe q)) (Hf : ∀ q, q ≤ t → fe q ≤ t) (HS : ∀ d q w, d < n → 1 ≤ w → w ≤ W0 → q + w ≤ t - d → SC ms pw K n t d q w = S d q w) : ∀ D, D ≤ n → nearA (lst thr) (lkD thr W0 fs fc fw mm ms pw K n t a D) (clD S W0 fe t a' D)
  | 0, _ => h
  | D + 1, hD => near_Q (near_D h H Hf HS D (by omega)) (H D) Hf (fun q w w1 w2 w3 => HS D q w (by omega) w1 w2 w3) (t - D) (Nat.le_refl _)
theorem apB_iff {fs fc fw : Nat → Nat} {a b : Nat} : ∀ {k : Nat}, apB fs fc fw a b k = true ↔ ∀ j, j < k → b < fc j ∨ fc j + fw j - 1 + fs j < a
  | 0 => ⟨fun _ j hj => absurd hj (Nat.not_lt_zero _), fun _ => rfl⟩
  | k + 1 => by
    simp only [apB, Bool.and_eq_true, Bool.or_eq_true, decide_eq_true_eq]
    rw [apB_iff]
    constructor
    · intro h j hj
      by_cases e : j = k
      · rw [e]; exact h.2
      · exact h.1 j (by omega)
    · exact fun h => ⟨fun j hj => h j (by omega), h k (by omega)⟩
theorem fI_none {p : Nat → Bool} : ∀ j i : Nat, i + j < 2 ^ 30 → (fI p i j = -1 ↔ ∀ k, i ≤ k → k < i + j → p k = false)
  | 0, i, _ => ⟨fun _ k h1 h2 => by omega, fun _ => rfl⟩
  | j + 1, i, h => by
    simp only [fI]
    by_cases e : p i = true
    · rw [if_pos e]
      constructor
      · intro c
        have := congrArg Int32.toInt c
        rw [nI_toInt (by omega), show (-1 : Int32).toInt = -1 by decide] at this
        omega
      · intro c
        have := c i (by omega) (by omega)
        rw [e] at this
        cases this
    · rw [if_neg e, fI_none j (i + 1) (by omega)]
      constructor
      · intro c k h1 h2
        by_cases e2 : k = i
        · rw [e2]; exact Bool.eq_false_iff.mpr e
        · exact c k (by omega) (by omega)
      · exact fun c k h1 h2 => c k (by omega) (by omega)
theorem fF_ge {p : Nat → Bool} {b : Nat} : ∀ j i : Nat, b ≤ i + j → (b ≤ fF p i j ↔ ∀ x, i ≤ x → x < b → p x = false)
  | 0, i, h => ⟨fun _ x h1 h2 => by omega, fun _ => h⟩
  | j + 1, i, h => by
    simp only [fF]
    by_cases e : p i = true
    · rw [if_pos e]
      constructor
      · intro c x h1 h2
        omega
      · intro c
        refine Nat.le_of_not_lt (fun c2 => ?_)
        have := c i (Nat.le_refl _) c2
        rw [e] at this
        cases this
    · rw [if_neg e, fF_ge j (i + 1) (by omega)]
      constructor
      · intro c x h1 h2
        by_cases e2 : x = i
        · rw [e2]; exact Bool.eq_false_iff.mpr e
        · exact c x (by omega) h2
      · exact fun c x h1 h2 => c x (by omega) h2
theorem cov_iff {fs fc fw : Nat → Nat} {mm q : Nat} (hm : mm ≤ 8) : cov fs fc fw mm q = false ↔ ∀ j, j < mm → inS fs fc fw q j = false := by
  unfold cov
  rw [decide_eq_false_iff_not, Decidable.not_not, fI_none mm 0 (by omega)]
  exact ⟨fun h j hj => h j (Nat.zero_le _) (by omega), fun h j _ hj => h j (by omega)⟩
theorem ap_fe {fs fc fw : Nat → Nat} {mm t d q w : Nat} (hm : mm ≤ 8) (hw1 : 1 ≤ w) (hq : q + w + d ≤ t) (hfw : ∀ j, j < mm → 1 ≤ fw j) : apB fs fc fw q (q + w - 1 + d) mm = decide (q + w + d ≤ feT fs fc fw mm t q) := by
  rw [Bool.eq_iff_iff, decide_eq_true_eq, apB_iff]
  unfold feT
  rw [fF_ge (t - q) q (by omega)]
  constructor
  · intro h x h1 h2
    rw [cov_iff hm]
    intro j hj
    have := h j hj
    simp only [inS]
    exact decide_eq_false (by omega)
  · intro h j hj
    have h1 := hfw j hj
    by_cases c : q + w - 1 + d < fc j ∨ fc j + fw j - 1 + fs j < q
    · exact c
    · exfalso
      have h2 := (cov_iff hm).mp (h (max q (fc j)) (by omega) (by omega)) j hj
      simp only [inS] at h2
      have h3 := of_decide_eq_false h2
      omega
theorem smL_nI {f : Nat → Nat} : ∀ k, k ≤ 8 → (∀ i, i < k → f i ≤ 159984) → smL (fun i => (nI (f i)).toInt64) k = (nI (sm f k)).toInt64 ∧ sm f k ≤ k * 159984
  | 0, _, _ => ⟨by show (0 : Int64) = (nI 0).toInt64; decide, Nat.zero_le _⟩
  | k + 1, hk, h => by
    obtain ⟨i1, i2⟩ := smL_nI (f := f) k (by omega) (fun i hi => h i (by omega))
    have h1 := h k (by omega)
    refine ⟨?_, ?_⟩
    · show smL (fun i => (nI (f i)).toInt64) k + (nI (f k)).toInt64 = (nI (sm f k + f k)).toInt64
      rw [i1, fa_eq64, fb_addL] <;> rw [Int32.toInt_toInt64, Int32.toInt_toInt64, nI_toInt (by omega), nI_toInt (by omega)]
      · rw [Int32.toInt_toInt64, nI_toInt (by omega)]
        omega
      · omega
      · omega
    · show sm f k + f k ≤ _
      omega
/-- the class's score of a box is the reference's -/
theorem SX_SC {K n t ms : Nat} {mk : Nat → Bool} {pX pM : Nat → Nat} {su : Nat → Nat} {tot spr : Nat → Int64} (hn2 : 2 ≤ n) (hn : n ≤ 16) (ht : t ≤ 48) (hX : ∀ j, pX j ≤ 9999) (hM : ∀ j, pM j ≤ 9999) (hXM : ∀ c q, c < n → q < t → pX (q * 16 + c) = pM (q * 16 + c)) (hmk : ∀ c, c < n → mk c = mb ms c) (LN : LnOK mk pX K n t su tot spr) {d q w : Nat} (hd : d < n) (hw1 : 1 ≤ w) (hw : w ≤ 8) (hq : q + w ≤ t - d) : SC ms pM K n t d q w = SX su tot spr t d q w := by
  obtain ⟨L1, L2, L3⟩ := LN
  obtain ⟨v1, v2⟩ := VV_bd (ms := ms) (K := K) (d := d) hM hn ht
  have e1 : smL (fun i => rowL su d (q + i)) w = (nI (sm (fun i => lnX mk pX K n d (q + i)) w)).toInt64 := by
    rw [← (smL_nI (f := fun i => lnX mk pX K n d (q + i)) w hw (fun i _ => lin_le hX hn)).1]
    refine smL_cong (fun i hi => ?_)
    simp only [rowL]
    rw [L1 d (q + i) hd (by omega)]
  unfold SX SC
  rw [e1, L2 d hd, L3 d hd, lnB hn2 hXM hmk hq, lnS hn2 hXM hmk d, lnQ hn2 hXM hmk d]
  exact (scX_eq hw1 hw v1 v2).symm
theorem near_ok {le : Int64} {a a' : Acc} (hle : 1 ≤ le) (h : nearA le a a') : decide (le ≤ a'.2.2.2) = decide (0 < a.2.2.2) ∧ (le ≤ a'.2.2.2 → a = a') := by
  rcases h with ⟨h1, h2⟩ | ⟨rfl, h1⟩
  · have h3 : ¬ le ≤ a'.2.2.2 := by
      rw [h2]
      intro c
      have := (le_sub (s := le - 1) hle).mpr c
      rw [fa_lt64] at this
      omega
    exact ⟨by rw [h1, decide_eq_false h3]; decide, fun c => absurd c h3⟩
  · refine ⟨?_, fun _ => rfl⟩
    rw [decide_eq_true h1, decide_eq_true]
    rw [fa_le64, i64_1] at hle
    rw [fa_le64] at h1
    rw [fa_lt64, i64_0]
    omega
theorem find_same {thr : Int64} {W0 ms : Nat} {pM : Nat → Nat} {K n t : Nat} {S : Nat → Nat → Nat → Int64} {FX FM : FA} (hn : n ≤ 16) (ht : t ≤ 48) (hW : W0 ≤ 8) (HS : ∀ d q w, d < n → 1 ≤ w → w ≤ W0 → q + w ≤ t - d → SC ms pM K n t d q w = S d q w) : ∀ k, k ≤ 8 → (∀ j, j < k → okX S W0 (lst thr) n t FX j = true) → sameF k (fdX S W0 (lst thr) n t FX k) (fdA thr W0 ms pM K n t FM k) ∧ (∀ j, j < k → okF thr W0 ms pM K n t FM j = true) ∧ nearA (lst thr) (fnF thr W0 ms pM K n t (fdA thr W0 ms pM K n t FM k) k) (fnXF S W0 (lst thr) n t (fdX S W0 (lst thr) n t FX k) k) := by
  have near : ∀ k, k ≤ 8 → (∀ j, j < k → okX S W0 (lst thr) n t FX j = true) → sameF k (fdX S W0 (lst thr) n t FX k) (fdA thr W0 ms pM K n t FM k) → nearA (lst thr) (fnF thr W0 ms pM K n t (fdA thr W0 ms pM K n t FM k) k) (fnXF S W0 (lst thr) n t (fdX S W0 (lst thr) n t FX k) k) := by
    intro k hk hok hs
    have hcd := fdX_cd (F := FX) (lst_1 thr) hn ht hW hok
    refine near_D (Or.inl ⟨rfl, rfl⟩) (fun d q w w1 w2 => ?_) (fun q hq => ?_) HS n (Nat.le_refl _)
    · rw [← ap_fe hk w1 w2 (fun j hj => (hcd j hj).2.2.1)]
      exact apB_cong (fun j hj => by obtain ⟨h1, h2, h3, -⟩ := hs j hj; exact ⟨h1.symm, h2.symm, h3.symm⟩)
    · have := fF_le (p := cov (fdX S W0 (lst thr) n t FX k).1 (fdX S W0 (lst thr) n t FX k).2.1 (fdX S W0 (lst thr) n t FX k).2.2.1 k) q (t - q)
      unfold feT
      omega
  intro k
  induction k with
  | zero =>
    intro hk hok
    have hs : sameF 0 (fdX S W0 (lst thr) n t FX 0) (fdA thr W0 ms pM K n t FM 0) := fun j hj => absurd hj (Nat.not_lt_zero _)
    exact ⟨hs, fun j hj => absurd hj (Nat.not_lt_zero _), near 0 hk hok hs⟩
  | succ k ih =>
    intro hk hok
    obtain ⟨i1, i2, i3⟩ := ih (by omega) (fun j hj => hok j (by omega))
    obtain ⟨o1, o2⟩ := near_ok (lst_1 thr) i3
    have hk1 : lst thr ≤ (fnXF S W0 (lst thr) n t (fdX S W0 (lst thr) n t FX k) k).2.2.2 := of_decide_eq_true (hok k (by omega))
    have he := o2 hk1
    have hs : sameF (k + 1) (fdX S W0 (lst thr) n t FX (k + 1)) (fdA thr W0 ms pM K n t FM (k + 1)) := by
      intro j hj
      simp only [fdX, fdA, putA]
      rw [he]
      simp only [va_up, vp_updL]
      by_cases e : j = k
      · simp [e]
      · simp only [e, if_false]
        exact i1 j (by omega)
    refine ⟨hs, fun j hj => ?_, near (k + 1) hk hok hs⟩
    by_cases e : j = k
    · rw [e]
      unfold okF
      rw [← o1]
      exact decide_eq_true hk1
    · exact i2 j (by omega)
theorem find_num {thr : Int64} {W0 ms : Nat} {pM : Nat → Nat} {K n t : Nat} {S : Nat → Nat → Nat → Int64} {FX FM : FA} (hn : n ≤ 16) (ht : t ≤ 48) (hW : W0 ≤ 8) (HS : ∀ d q w, d < n → 1 ≤ w → w ≤ W0 → q + w ≤ t - d → SC ms pM K n t d q w = S d q w) : fdXN S W0 (lst thr) n t FX = fdN thr W0 ms pM K n t FM ∧ fdXN S W0 (lst thr) n t FX ≤ 8 ∧ sameF (fdXN S W0 (lst thr) n t FX) (fdX S W0 (lst thr) n t FX (fdXN S W0 (lst thr) n t FX)) (fdA thr W0 ms pM K n t FM (fdXN S W0 (lst thr) n t FX)) ∧ ∀ j, j < fdXN S W0 (lst thr) n t FX → okX S W0 (lst thr) n t FX j = true := by
  have hle : fdXN S W0 (lst thr) n t FX ≤ 8 := fa_first_le _ 8
  have hok : ∀ j, j < fdXN S W0 (lst thr) n t FX → okX S W0 (lst thr) n t FX j = true := fun j hj => by
    have := fa_first_no (fun k => !okX S W0 (lst thr) n t FX k) 8 j hj
    simpa using this
  obtain ⟨s1, s2, s3⟩ := find_same (FM := FM) hn ht hW HS _ hle hok
  refine ⟨(fdN_of hle s2 ?_).symm, hle, s1, hok⟩
  by_cases h8 : fdXN S W0 (lst thr) n t FX = 8
  · exact Or.inl h8
  · have h9 := fa_first_yes (fun k => !okX S W0 (lst thr) n t FX k) 8 (Nat.lt_of_le_of_ne hle h8)
    have h10 : okX S W0 (lst thr) n t FX (fdXN S W0 (lst thr) n t FX) = false := by
      have : (!okX S W0 (lst thr) n t FX (fdXN S W0 (lst thr) n t FX)) = true := h9
      simpa using this
    refine Or.inr ?_
    unfold okF
    rw [← (near_ok (lst_1 thr) s3).1]
    exact h10
theorem op_find {E : ET} {ax am : Nat → Nat} {th : Nat} {wx wm : va_W} (hst : E.1.stackTraces = false) (R : REL E ax am th wx wm) (thr : Int64) (x : Int32) : (∃ v9 : Int32, OpV E yX4_find cdX4_find yX5_find cdX5_find ax am [.long thr, .int x] (.int v9) wx wm) ∨ OpX E yX4_find cdX4_find yX5_find cdX5_find ax am [.long thr, .int x] sIAE 1 (.int (nI 0)) wx wm := by
  obtain ⟨K, n, t, dr, pe, len, cod, mm, pX, mk, fr, ls, lc, u, v, su, sp, tot, spr, FX, fe, ms, pM, FM, li, lm, l1, lq, hs, rfl, rfl, I⟩ := R
  have I0 := I
  obtain ⟨⟨hK1, hK4, hn, ht⟩, hpe, ⟨hlen, hcod⟩, ⟨hmm, hcd, hF⟩, ⟨hX, hM, hXM⟩, ⟨hms, hmk, hmk0⟩, hfr⟩ := I
  obtain ⟨hn2, hn16⟩ := n_K hK1 hK4 hn
  by_cases hx : 0 ≤ thr ∧ (nI 1 ≤ x ∧ x ≤ nI 8)
  · obtain ⟨W0, w1, w2, rfl⟩ := rng_of (by decide) (by decide) hx.2
    have CX := k_find (E := E) (ad := ax) (n := n) (t := t) (dr := dr) (pw := pX) (pe := pe) (mk := mk) (len := len) (cod := cod) (fr := fr) (ls := ls) (lc := lc) (u := u) (v := v) (su := su) (sp := sp) (tot := tot) (spr := spr) (mm := mm) (fs := FX.1) (fc := FX.2.1) (fw := FX.2.2.1) (sc := FX.2.2.2) (fe := fe) hst hK1 hK4 hn ht hfr thr hx.1 W0 w1 w2
    have CM := m_find (E := E) (ad := am) (th := th) (n := n) (t := t) (dr := dr) (ms := ms) (pe := pe) (pw := pM) (len := len) (cod := cod) (mm := mm) (fs := FM.1) (fc := FM.2.1) (fw := FM.2.2.1) (sc := FM.2.2.2) (li := li) (lm := lm) (ls := l1) (lq := lq) (hs := hs) hst hK1 hK4 hn hms ht (fun d _ wd h1 h2 h3 => hz_of hM hn16 ht h1 h2 h3) thr hx.1 W0 w1 w2
    refine Or.inl ⟨nI (fdN thr W0 ms pM K n t FM), _, _, _, _, goodL (by decide), goodL (by decide), CX, CM, fun r u h => ?_, fun r u h => h.1, fun r u r' u' h h' => ?_⟩
    · obtain ⟨u1, v1, su1, sp1, tot1, spr1, fe1, F1, LN, rfl, -⟩ := h
      rw [(find_num (FX := (FX.1, FX.2.1, FX.2.2.1, FX.2.2.2)) (FM := FM) hn16 ht w2 (fun d q w hd h1 h2 h3 => SX_SC hn2 hn16 ht hX hM hXM hmk LN hd h1 (by omega) h3)).1]
    · obtain ⟨u1, v1, su1, sp1, tot1, spr1, fe1, F1, LN, -, s1, rfl⟩ := h
      obtain ⟨-, F2, li2, lm2, l2, lq2, s2, rfl⟩ := h'
      obtain ⟨f1, f2, f3, f4⟩ := find_num (thr := thr) (FX := (FX.1, FX.2.1, FX.2.2.1, FX.2.2.2)) (FM := (FM.1, FM.2.1, FM.2.2.1, FM.2.2.2)) hn16 ht w2 (fun d q w hd h1 h2 h3 => SX_SC hn2 hn16 ht hX hM hXM hmk LN hd h1 (by omega) h3)
      have hc := fdX_cd (lst_1 thr) hn16 ht w2 f4
      rw [f1] at s1 f2 f3 hc ⊢
      refine rel_mk (FX := F1) (FM := F2) (K := K) ⟨⟨hK1, hK4, hn, ht⟩, hpe, ⟨hlen, hcod⟩, ⟨f2, fun k hk => ?_, fun k hk => ?_⟩, ⟨hX, hM, hXM⟩, ⟨hms, hmk, hmk0⟩, fun _ => ⟨rfl, rfl, LN⟩⟩
      · obtain ⟨a1, a2, a3, -⟩ := s1 k hk
        rw [a1, a2, a3]
        exact hc k hk
      · obtain ⟨a1, a2, a3, a4⟩ := s1 k hk
        obtain ⟨b1, b2, b3, b4⟩ := s2 k hk
        obtain ⟨c1, c2, c3, c4⟩ := f3 k hk
        exact ⟨a1.trans (c1.trans b1.symm), a2.trans (c2.trans b2.symm), a3.trans (c3.trans b3.symm), a4.trans (c4.trans b4.symm)⟩
  · exact Or.inr (opX_of (kx_find hst thr x hx) (mx_find hst thr x hx) (rel_mk (FX := FX) (FM := FM) I0) (by decide) (by decide))
