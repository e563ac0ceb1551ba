/-! calls: the callee's world is the caller's -/
section VC
variable {E : ET} {G : GT} {cc : ByteArray} {own : String} {R0 : Room} {tb : List ExceptionTableEntry} {k n pc : Nat} {lv : List (Nat × Value)} {st stk : List Value} {w : va_W}
variable {post : Option Value → va_W → Prop} {px : String → va_W → Prop} {mc ms : Nat} {y : MethodName} {bytes : ByteArray} {maxL index a ci : Nat} {ret : Option FieldType} {rm : Room} {As : List Value} {fs : List Value} {T : u_T} {N : Nat}
/-- the rooms of a call, in numbers -/
def rmOK (rm R0 : Room) (maxL mc ms k n : Nat) : Bool := rm.cells == mc && (rm.slots == ms && (Nat.ble (rm.frames + 1) R0.frames && (Nat.ble (8 + (maxL + 11) + rm.locals) R0.locals && (Nat.ble (k + mc) R0.cells && Nat.ble (n + ms) R0.slots))))
theorem rmOK_spec {rm R0 : Room} {maxL mc ms k n : Nat} (h : rmOK rm R0 maxL mc ms k n = true) : rm.cells = mc ∧ rm.slots = ms ∧ rm.frames + 1 ≤ R0.frames ∧ 8 + (maxL + 11) + rm.locals ≤ R0.locals ∧ k + mc ≤ R0.cells ∧ n + ms ≤ R0.slots := by
  simp only [rmOK, Bool.and_eq_true, beq_iff_eq, Nat.ble_eq] at h
  exact h
theorem v_callV (O : OKG E G cc own R0 tb) (d : decode cc pc = .ok (.invokevirtual index, 3)) (Lk : LkV own index y (.code y bytes maxL ret) As.length) (M : Ctr E y (.code y bytes maxL ret) rm (.ref a :: As) w post px mc ms) (q0 : Nat) (he : w[q0]? = some (a, .inr (ci, fs))) (hc : vwCl[ci]? = some (y.cls, T, N)) (hst : stk = As.reverse ++ .ref a :: st) (hW : Nat.ble (st.map fun v => v.category).sum 8 = true) (hR : rmOK rm R0 maxL mc ms k n = true)
    (kk : ∀ r u, post r u → V E G (k + mc) (n + ms) (pc + 3) lv (r.toList ++ st) u) (kx : ∀ X u, px X u → VX E G (k + mc) (n + ms) pc lv X u) : V E G k n pc lv stk w := by
  obtain ⟨p, R, s, m, args, below, meth, c, Q, A, nL, e⟩ := G
  obtain ⟨hx, hb, hml, hown, hts, hE, hlocks, hnt, hA, hH, hR2, htab⟩ := O
  obtain ⟨l1, l2, l3, l4, l5, l6⟩ := Lk
  obtain ⟨r1, r2, r3, r4, r5, r6⟩ := rmOK_spec hR
  subst hR2
  intro H locs ls hl hP hD hS
  refine v_back (w := w) hA hl hD hS (vx_runV (Ts := GW) (C := y.cls) (bytes := bytes) (maxL := maxL) (ret := ret) (As := As) (b := a) (rest := st) ⟨hx, hb, hml, hown, hts⟩ (M H.size) ⟨callB_of As.length hts (gw_good l1) rfl r1 r2 (hts _ l5) (hts _ l2) l6 ⟨r3, r4⟩, hts _ l3, hts _ l4⟩ ⟨blind_of, ?_, fun U hU hW => pre_of hE hH hA hP hD hS U hU hW⟩ rfl rfl hl.1 hst ?_ d ⟨r5, r6⟩) kk kx
  · exact va_recv hE.1 hP hc he
  · show 2 * 0 + _ ≤ 8
    have := Nat.le_of_ble_eq_true hW
    omega
theorem v_callVN (O : OKG E G cc own R0 tb) (d : decode cc pc = .ok (.invokevirtual index, 3)) (Lk : LkVN own index y (.code y bytes maxL ret) As.length) (M : Ctr E y (.code y bytes maxL ret) rm (.ref a :: As) w post px mc ms) (q0 : Nat) (he : w[q0]? = some (a, .inr (ci, fs))) (hc : vwCl[ci]? = some (y.cls, T, N)) (hst : stk = As.reverse ++ .ref a :: st) (hW : Nat.ble (st.map fun v => v.category).sum 8 = true) (hR : rmOK rm R0 maxL mc ms k n = true)
    (kk : ∀ r u, post r u → V E G (k + mc) (n + ms) (pc + 3) lv (r.toList ++ st) u) (kx : ∀ X u, px X u → VX E G (k + mc) (n + ms) pc lv X u) : V E G k n pc lv stk w := by
  obtain ⟨p, R, s, m, args, below, meth, c, Q, A, nL, e⟩ := G
  obtain ⟨hx, hb, hml, hown, hts, hE, hlocks, hnt, hA, hH, hR2, htab⟩ := O
  obtain ⟨l1, l2, l3, l4, l5, l6⟩ := Lk
  obtain ⟨r1, r2, r3, r4, r5, r6⟩ := rmOK_spec hR
  subst hR2
  intro H locs ls hl hP hD hS
  refine v_back (w := w) hA hl hD hS (vx_runVN (Ts := GW) (C := y.cls) (host := RX4) (bytes := bytes) (maxL := maxL) (ret := ret) (As := As) (b := a) (rest := st) ⟨hx, hb, hml, hown, hts⟩ (M H.size) ⟨va_cnB As.length hts (gw_good l1) rfl r1 r2 (hE.2.1 _ l2) (hts _ l5) l6 ⟨r3, r4⟩, hts _ l3, hts _ l4⟩ ⟨blind_of, ?_, fun U hU hW => pre_of hE hH hA hP hD hS U hU hW⟩ rfl rfl hl.1 hst ?_ d ⟨r5, r6⟩) kk kx
  · exact va_recv hE.1 hP hc he
  · show 2 * 0 + _ ≤ 8
    have := Nat.le_of_ble_eq_true hW
    omega
theorem v_callS (O : OKG E G cc own R0 tb) (d : decode cc pc = .ok (.invokestatic index, 3)) (Lk : LkS own index y (.code y bytes maxL ret) As.length) (M : Ctr E y (.code y bytes maxL ret) rm As w post px mc ms) (hst : stk = As.reverse ++ st) (hW : Nat.ble (st.map fun v => v.category).sum 8 = true) (hR : rmOK rm R0 maxL mc ms k n = true)
    (kk : ∀ r u, post r u → V E G (k + mc) (n + ms) (pc + 3) lv (r.toList ++ st) u) (kx : ∀ X u, px X u → VX E G (k + mc) (n + ms) pc lv X u) : V E G k n pc lv stk w := by
  obtain ⟨p, R, s, m, args, below, meth, c, Q, A, nL, e⟩ := G
  obtain ⟨hx, hb, hml, hown, hts, hE, hlocks, hnt, hA, hH, hR2, htab⟩ := O
  obtain ⟨l1, l2, l3, l5, l6⟩ := Lk
  obtain ⟨r1, r2, r3, r4, r5, r6⟩ := rmOK_spec hR
  subst hR2
  intro H locs ls hl hP hD hS
  refine v_back (w := w) hA hl hD hS (vx_runS (Ts := GW) (bytes := bytes) (maxL := maxL) (ret := ret) (As := As) (rest := st) ⟨hx, hb, hml, hown, hts⟩ (M H.size) ⟨callB_of As.length hts (gw_good l1) rfl r1 r2 (hts _ l5) (hts _ l2) l6 ⟨r3, r4⟩, hts _ l3⟩ ⟨blind_of, fun U hU hW => pre_of hE hH hA hP hD hS U hU hW⟩ rfl rfl hl.1 hst ?_ d ⟨r5, r6⟩) kk kx
  · show 2 * 0 + _ ≤ 8
    have := Nat.le_of_ble_eq_true hW
    omega
theorem v_callSN (O : OKG E G cc own R0 tb) (d : decode cc pc = .ok (.invokestatic index, 3)) (Lk : LkSN own index y (.code y bytes maxL ret) As.length) (M : Ctr E y (.code y bytes maxL ret) rm As w post px mc ms) (hst : stk = As.reverse ++ st) (hW : Nat.ble (st.map fun v => v.category).sum 8 = true) (hR : rmOK rm R0 maxL mc ms k n = true)
    (kk : ∀ r u, post r u → V E G (k + mc) (n + ms) (pc + 3) lv (r.toList ++ st) u) (kx : ∀ X u, px X u → VX E G (k + mc) (n + ms) pc lv X u) : V E G k n pc lv stk w := by
  obtain ⟨p, R, s, m, args, below, meth, c, Q, A, nL, e⟩ := G
  obtain ⟨hx, hb, hml, hown, hts, hE, hlocks, hnt, hA, hH, hR2, htab⟩ := O
  obtain ⟨l1, l2, l3, l5, l6⟩ := Lk
  obtain ⟨r1, r2, r3, r4, r5, r6⟩ := rmOK_spec hR
  subst hR2
  intro H locs ls hl hP hD hS
  refine v_back (w := w) hA hl hD hS (vx_runSN (Ts := GW) (host := RX4) (bytes := bytes) (maxL := maxL) (ret := ret) (As := As) (rest := st) ⟨hx, hb, hml, hown, hts⟩ (M H.size) ⟨va_cnB As.length hts (gw_good l1) rfl r1 r2 (hE.2.1 _ l2) (hts _ l5) l6 ⟨r3, r4⟩, hts _ l3, trivial⟩ ⟨blind_of, fun U hU hW => pre_of hE hH hA hP hD hS U hU hW⟩ rfl rfl hl.1 hst ?_ d ⟨r5, r6⟩) kk kx
  · show 2 * 0 + _ ≤ 8
    have := Nat.le_of_ble_eq_true hW
    omega
/-- a call that only comes back, with nothing made -/
theorem kx_no {E : ET} {G : GT} {k n pc : Nat} {lv : List (Nat × Value)} : ∀ X u, noX X u → VX E G k n pc lv X u := fun _ _ h => False.elim h
theorem kk_no {E : ET} {G : GT} {k n pc : Nat} {lv : List (Nat × Value)} {st : List Value} : ∀ r u, noR r u → V E G k n pc lv (r.toList ++ st) u := fun _ _ h => False.elim h
-- Math, System
def LkM (own : String) (index : Nat) (y : MethodName) (cd : Cond) : Prop := Cond.methodLink own index y ∈ GW ∧ Cond.static y ∈ GW ∧ Cond.initialized "java/lang/Math" ∈ GW ∧ cd ∈ GW
theorem v_max {x z : Int32} (O : OKG E G cc own R0 tb) (d : decode cc pc = .ok (.invokestatic index, 3)) (L : LkM own index Lib.Math.max.name (.code Lib.Math.max.name Lib.Math.max.code 2 (some .int))) (hf : 1 ≤ R0.frames) (hlo : (st.map fun v => v.category).sum + 13 ≤ R0.locals) (hc : k ≤ R0.cells) (hs : n ≤ R0.slots) (kk : V E G k n (pc + 3) lv (.int (if x < z then z else x) :: st) w) : V E G k n pc lv (.int z :: .int x :: st) w := by
  obtain ⟨p, R, s, m, args, below, meth, c, Q, A, nL, e⟩ := G
  obtain ⟨hx, hb, hml, hown, hts, hE, hlocks, hnt, hA, hH, hR2, htab⟩ := O
  subst hR2
  intro H locs ls hl hP hD hS
  exact va_mmax hx hb (hml.trans hl.1.symm) hown (hts _ L.1) (hts _ L.2.1) (hts _ L.2.2.1) (hts _ L.2.2.2) hf hlo hc hs d (kk H locs ls hl hP hD hS)
theorem v_min {x z : Int32} (O : OKG E G cc own R0 tb) (d : decode cc pc = .ok (.invokestatic index, 3)) (L : LkM own index Lib.Math.min.name (.code Lib.Math.min.name Lib.Math.min.code 2 (some .int))) (hf : 1 ≤ R0.frames) (hlo : (st.map fun v => v.category).sum + 13 ≤ R0.locals) (hc : k ≤ R0.cells) (hs : n ≤ R0.slots) (kk : V E G k n (pc + 3) lv (.int (if z < x then z else x) :: st) w) : V E G k n pc lv (.int z :: .int x :: st) w := by
  obtain ⟨p, R, s, m, args, below, meth, c, Q, A, nL, e⟩ := G
  obtain ⟨hx, hb, hml, hown, hts, hE, hlocks, hnt, hA, hH, hR2, htab⟩ := O
  subst hR2
  intro H locs ls hl hP hD hS
  exact va_mmin hx hb (hml.trans hl.1.symm) hown (hts _ L.1) (hts _ L.2.1) (hts _ L.2.2.1) (hts _ L.2.2.2) hf hlo hc hs d (kk H locs ls hl hP hD hS)
theorem v_abs {x : Int32} (O : OKG E G cc own R0 tb) (d : decode cc pc = .ok (.invokestatic index, 3)) (L : LkM own index Lib.Math.abs.name (.code Lib.Math.abs.name Lib.Math.abs.code 1 (some .int))) (hf : 1 ≤ R0.frames) (hlo : (st.map fun v => v.category).sum + 13 ≤ R0.locals) (hc : k ≤ R0.cells) (hs : n ≤ R0.slots) (kk : V E G k n (pc + 3) lv (.int (if 0 ≤ x then x else 0 - x) :: st) w) : V E G k n pc lv (.int x :: st) w := by
  obtain ⟨p, R, s, m, args, below, meth, c, Q, A, nL, e⟩ := G
  obtain ⟨hx, hb, hml, hown, hts, hE, hlocks, hnt, hA, hH, hR2, htab⟩ := O
  subst hR2
  intro H locs ls hl hP hD hS
  exact va_mabs hx hb (hml.trans hl.1.symm) hown (hts _ L.1) (hts _ L.2.1) (hts _ L.2.2.1) (hts _ L.2.2.2) hf hlo hc hs d (kk H locs ls hl hP hD hS)
theorem v_maxL {x z : Int64} (O : OKG E G cc own R0 tb) (d : decode cc pc = .ok (.invokestatic index, 3)) (L : LkM own index Lib.MathLoose.max_long.x (.code Lib.MathLoose.max_long.x Lib.MathLoose.max_long.code 4 (some .long))) (hf : 1 ≤ R0.frames) (hlo : (st.map fun v => v.category).sum + 15 ≤ R0.locals) (hc : k ≤ R0.cells) (hs : n ≤ R0.slots) (kk : V E G k n (pc + 3) lv (.long (if z < x then x else z) :: st) w) : V E G k n pc lv (.long z :: .long x :: st) w := by
  obtain ⟨p, R, s, m, args, below, meth, c, Q, A, nL, e⟩ := G
  obtain ⟨hx, hb, hml, hown, hts, hE, hlocks, hnt, hA, hH, hR2, htab⟩ := O
  subst hR2
  intro H locs ls hl hP hD hS
  exact va_mmax_long hx hb (hml.trans hl.1.symm) hown (hts _ L.1) (hts _ L.2.1) (hts _ L.2.2.1) (hts _ L.2.2.2) hf hlo hc hs d (kk H locs ls hl hP hD hS)
theorem cpy_N (f g : Nat → Nat) (sp dp z : Nat) : va_cpy (fun q => nI (f q)) (fun q => nI (g q)) sp dp z = fun q => nI (va_cpy f g sp dp z q) := by
  funext q
  simp only [va_cpy]
  split <;> rfl
/-- System.arraycopy within one array of numbers -/
theorem v_copy {len sp dp z : Nat} {f : Nat → Nat} (O : OKG E G cc own R0 tb) (d : decode cc pc = .ok (.invokestatic index, 3)) (L : Cond.methodLink own index arraycopyName ∈ GW ∧ Cond.native arraycopyName ∈ GW ∧ Cond.static arraycopyName ∈ GW ∧ Cond.initialized "java/lang/System" ∈ GW) (q0 : Nat) (he : w[q0]? = some (a, .inl (E.2.2 0, len, .inl (fun q => nI (f q))))) (hn : len < 2 ^ 31) (h4 : sp + z ≤ len) (h5 : dp + z ≤ len) (hf : 1 ≤ R0.frames) (hlo : (st.map fun v => v.category).sum + (nativeFrameWords "java/lang/System" "arraycopy" 5 + 11) ≤ R0.locals) (kk : V E G k n (pc + 3) lv st (w.set q0 (a, .inl (E.2.2 0, len, .inl (fun q => nI (va_cpy f f sp dp z q)))))) : V E G k n pc lv (.int (nI z) :: .int (nI dp) :: .ref a :: .int (nI sp) :: .ref a :: st) w := by
  obtain ⟨p, R, s, m, args, below, meth, c, Q, A, nL, e⟩ := G
  obtain ⟨hx, hb, hml, hown, hts, hE, hlocks, hnt, hA, hH, hR2, htab⟩ := O
  subst hR2
  intro H locs ls hl hP hD hS
  have c1 := nI_clamp (n := sp) (by omega)
  have c2 := nI_clamp (n := dp) (by omega)
  have c3 := nI_clamp (n := z) (by omega)
  refine va_copyi hx hb (hml.trans hl.1.symm) hown (hts _ L.1) (hts _ L.2.1) (hts _ L.2.2.1) (hts _ L.2.2.2) hE.1 hP hD hS q0 q0 0 0 he he rfl rfl rfl (nI_pos (by omega)) (nI_pos (by omega)) (nI_pos (by omega)) (by rw [c1, c3]; exact h4) (by rw [c2, c3]; exact h5) (fun i _ => rfl) hf hlo d (fun H1 locs1 hP hD hS => ?_)
  rw [c1, c2, c3, cpy_N] at hP hD
  exact kk H1 locs1 ls hl hP hD hS
end VC
