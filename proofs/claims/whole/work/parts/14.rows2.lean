theorem s_l9 : ∀ n, n < 32 → ((nI n &&& 31).toBitVec.smod 32).toNat = n := by decide +kernel
theorem bI_0 {b : Bool} : bI b = 0 ↔ b = false := by cases b <;> decide
theorem bI_n0 {b : Bool} : ¬ bI b = 0 ↔ b = true := by cases b <;> decide
theorem bI_nar (b : Bool) : narrow .boolean (.int (bI b)) = .int (bI b) := by cases b <;> decide
section VB
variable {E : ET} {G : GT} {cc : ByteArray} {own : String} {R0 : Room} {tb : List ExceptionTableEntry} {k n pc : Nat} {lv : List (Nat × Value)} {st : List Value} {w : va_W} {z : Int} {tgt : Nat} {b : Bool} {x y : Int64}
theorem v_ifB_eq (O : OKG E G cc own R0 tb) (d : decode cc pc = .ok (.ifCond .eq z, 3)) (ht : (pc : Int) + z = (tgt : Int)) (kt : b = false → V E G k n tgt lv st w) (kf : b = true → V E G k n (pc + 3) lv st w) : V E G k n pc lv (.int (bI b) :: st) w := v_if_eq O d ht (fun h => kt (bI_0.mp h)) (fun h => kf (bI_n0.mp h))
theorem v_ifB_ne (O : OKG E G cc own R0 tb) (d : decode cc pc = .ok (.ifCond .ne z, 3)) (ht : (pc : Int) + z = (tgt : Int)) (kt : b = true → V E G k n tgt lv st w) (kf : b = false → V E G k n (pc + 3) lv st w) : V E G k n pc lv (.int (bI b) :: st) w := v_if_ne O d ht (fun h => kt (bI_n0.mp h)) (fun h => kf (bI_0.mp h))
theorem v_ifC_eq (O : OKG E G cc own R0 tb) (d : decode cc pc = .ok (.ifCond .eq z, 3)) (ht : (pc : Int) + z = (tgt : Int)) (kt : x = y → V E G k n tgt lv st w) (kf : ¬ x = y → V E G k n (pc + 3) lv st w) : V E G k n pc lv (.int (lg_cmp x y) :: st) w := v_if_eq O d ht (fun h => kt ((lg_cmp_eq x y).mp h)) (fun h => kf (fun q => h ((lg_cmp_eq x y).mpr q)))
theorem v_ifC_ne (O : OKG E G cc own R0 tb) (d : decode cc pc = .ok (.ifCond .ne z, 3)) (ht : (pc : Int) + z = (tgt : Int)) (kt : ¬ x = y → V E G k n tgt lv st w) (kf : x = y → V E G k n (pc + 3) lv st w) : V E G k n pc lv (.int (lg_cmp x y) :: st) w := v_if_ne O d ht (fun h => kt (fun q => h ((lg_cmp_eq x y).mpr q))) (fun h => kf ((lg_cmp_eq x y).mp h))
theorem v_ifC_lt (O : OKG E G cc own R0 tb) (d : decode cc pc = .ok (.ifCond .lt z, 3)) (ht : (pc : Int) + z = (tgt : Int)) (kt : x < y → V E G k n tgt lv st w) (kf : ¬ x < y → V E G k n (pc + 3) lv st w) : V E G k n pc lv (.int (lg_cmp x y) :: st) w := v_if_lt O d ht (fun h => kt ((lg_cmp_lt x y).mp h)) (fun h => kf (fun q => h ((lg_cmp_lt x y).mpr q)))
theorem v_ifC_ge (O : OKG E G cc own R0 tb) (d : decode cc pc = .ok (.ifCond .ge z, 3)) (ht : (pc : Int) + z = (tgt : Int)) (kt : y ≤ x → V E G k n tgt lv st w) (kf : ¬ y ≤ x → V E G k n (pc + 3) lv st w) : V E G k n pc lv (.int (lg_cmp x y) :: st) w := v_if_ge O d ht (fun h => kt ((lg_cmp_ge x y).mp h)) (fun h => kf (fun q => h ((lg_cmp_ge x y).mpr q)))
theorem v_ifC_gt (O : OKG E G cc own R0 tb) (d : decode cc pc = .ok (.ifCond .gt z, 3)) (ht : (pc : Int) + z = (tgt : Int)) (kt : y < x → V E G k n tgt lv st w) (kf : ¬ y < x → V E G k n (pc + 3) lv st w) : V E G k n pc lv (.int (lg_cmp x y) :: st) w := v_if_gt O d ht (fun h => kt ((lg_cmp_gt x y).mp h)) (fun h => kf (fun q => h ((lg_cmp_gt x y).mpr q)))
theorem v_ifC_le (O : OKG E G cc own R0 tb) (d : decode cc pc = .ok (.ifCond .le z, 3)) (ht : (pc : Int) + z = (tgt : Int)) (kt : x ≤ y → V E G k n tgt lv st w) (kf : ¬ x ≤ y → V E G k n (pc + 3) lv st w) : V E G k n pc lv (.int (lg_cmp x y) :: st) w := v_if_le O d ht (fun h => kt ((lg_cmp_le x y).mp h)) (fun h => kf (fun q => h ((lg_cmp_le x y).mpr q)))
theorem v_iandN {a b : Nat} (O : OKG E G cc own R0 tb) (d : decode cc pc = .ok (.iand, 1)) (kk : V E G k n (pc + 1) lv (.int (nI (a &&& b)) :: st) w) : V E G k n pc lv (.int (nI b) :: .int (nI a) :: st) w := v_iand O d (by rw [fa_and]; exact kk)
theorem v_iorN {a b : Nat} (O : OKG E G cc own R0 tb) (d : decode cc pc = .ok (.ior, 1)) (kk : V E G k n (pc + 1) lv (.int (nI (a ||| b)) :: st) w) : V E G k n pc lv (.int (nI b) :: .int (nI a) :: st) w := v_ior O d (by rw [fa_or]; exact kk)
theorem v_ishrN {a b : Nat} (O : OKG E G cc own R0 tb) (d : decode cc pc = .ok (.ishr, 1)) (ha : a < 2 ^ 31) (hb : b < 32) (kk : V E G k n (pc + 1) lv (.int (nI (a / 2 ^ b)) :: st) w) : V E G k n pc lv (.int (nI b) :: .int (nI a) :: st) w := v_ishr O d (by rw [pk_shrN ha _ b (s_l9 b hb)]; exact kk)
theorem v_ishl1 {b : Nat} (O : OKG E G cc own R0 tb) (d : decode cc pc = .ok (.ishl, 1)) (hb : b < 16) (kk : V E G k n (pc + 1) lv (.int (nI (2 ^ b)) :: st) w) : V E G k n pc lv (.int (nI b) :: .int (nI 1) :: st) w := v_ishl O d (by
  have h : 1 * 2 ^ b < 2 ^ 32 := by
    have := Nat.pow_le_pow_right (n := 2) (by decide) (show b ≤ 31 by omega)
    omega
  rw [pk_shlN (n := 1) _ b (s_l9 b (by omega)) h, Nat.one_mul]
  exact kk)
end VB
/-- a number of the script that lies in 0 .. n - 1 -/
def inR (x : Int32) (n : Nat) : Prop := 0 ≤ x.toInt ∧ x.toInt < n
theorem inR_of {x : Int32} {n : Nat} (h : inR x n) : ∃ j : Nat, j < n ∧ x = nI j := by
  obtain ⟨h1, h2⟩ := h
  have h3 := fb_rng x
  refine ⟨x.toInt.toNat, by omega, ?_⟩
  rw [fa_eq, nI_toInt (by omega)]
  omega
theorem inR_nI {j n : Nat} (hj : j < n) (hn : n < 2 ^ 31) : inR (nI j) n := by
  unfold inR
  rw [nI_toInt (by omega)]
  omega
theorem inR_iff {x : Int32} {n : Nat} (hn : n < 2 ^ 30) : (nI 0 ≤ x ∧ x ≤ nI n - nI 1) ↔ inR x n := by
  unfold inR
  rw [fa_le, fa_le, nI_toInt (by decide), pk_sub_toInt (by omega) (by decide)]
  omega
