/-! the heap's rows, contracts, calls and throws over V -/
def bI (b : Bool) : Int32 := if b then 1 else 0
theorem gw_good {cd : Cond} (h : cd ∈ GW) : GoodIn GW (cd :: GW) := fun w hw => by
  have h1 : w ∈ GW := (List.mem_cons.mp hw).elim (fun e => e ▸ h) id
  exact ⟨h1, good_of_word (List.mem_filter.mp h1).2⟩
theorem nw_use {w : Cond} (h : w ∈ NWL) {A : Array Value} {U : State} (hZ : va_Nw w U) : w.before A U = true := by
  have h1 := (List.mem_filter.mp h).2
  cases w <;> first
    | exact va_Nw.use rfl hZ
    | (simp [isNW] at h1)
/-- a field's link: the class's number, the field's number -/
def FLk (own : String) (index ci kf : Nat) (C : String) (T : u_T) (N : Nat) : Prop := vwCl[ci]? = some (C, T, N) ∧ kf < N ∧ Cond.fieldLink own index (T kf).1 (T kf).2.1 (T kf).2.2.1 ∈ GW ∧ ∀ w ∈ u_ws C T N, w ∈ GW
def FLn (own : String) (index ci kf : Nat) (C : String) (T : u_T) (N : Nat) : Prop := vwCl[ci]? = some (C, T, N) ∧ kf < N ∧ Cond.fieldLinkNest own index (T kf).1 (T kf).2.1 (T kf).2.2.1 RX4 ∈ NWL ∧ ∀ w ∈ u_ws C T N, w ∈ GW
/-- a class's field types -/
def FTy (T : u_T) (N : Nat) : Prop := ∃ ty : Nat → FieldType, (∀ k, k < N → parseFieldDescriptor (T k).2.2.1 = some (ty k)) ∧ ∀ a, a < N → ∀ b, b < N → a ≠ b → (T a).2.1 ≠ (T b).2.1
def LkV (own : String) (index : Nat) (y : MethodName) (cd : Cond) (na : Nat) : Prop := cd ∈ GW ∧ Cond.methodLink own index y ∈ GW ∧ Cond.instanceMethod y ∈ GW ∧ Cond.selects y.cls y y ∈ GW ∧ Cond.initialized y.cls ∈ GW ∧ (y.cls ≠ "java/lang/invoke/MethodHandle" ∧ y.cls ≠ "java/lang/invoke/VarHandle" ∧ (parseMethodDescriptor y.desc).map (fun d => d.parameters.length) = some na)
def LkVN (own : String) (index : Nat) (y : MethodName) (cd : Cond) (na : Nat) : Prop := cd ∈ GW ∧ Cond.methodLinkNest own index y RX4 ∈ NWL ∧ Cond.instanceMethod y ∈ GW ∧ Cond.selects y.cls y y ∈ GW ∧ Cond.initialized y.cls ∈ GW ∧ (y.cls ≠ "java/lang/invoke/MethodHandle" ∧ y.cls ≠ "java/lang/invoke/VarHandle" ∧ (parseMethodDescriptor y.desc).map (fun d => d.parameters.length) = some na)
def LkS (own : String) (index : Nat) (y : MethodName) (cd : Cond) (na : Nat) : Prop := cd ∈ GW ∧ Cond.methodLink own index y ∈ GW ∧ Cond.static y ∈ GW ∧ Cond.initialized y.cls ∈ GW ∧ (y.cls ≠ "java/lang/invoke/MethodHandle" ∧ y.cls ≠ "java/lang/invoke/VarHandle" ∧ (parseMethodDescriptor y.desc).map (fun d => d.parameters.length) = some na)
def LkSN (own : String) (index : Nat) (y : MethodName) (cd : Cond) (na : Nat) : Prop := cd ∈ GW ∧ Cond.methodLinkNest own index y RX4 ∈ NWL ∧ Cond.static y ∈ GW ∧ Cond.initialized y.cls ∈ GW ∧ (y.cls ≠ "java/lang/invoke/MethodHandle" ∧ y.cls ≠ "java/lang/invoke/VarHandle" ∧ (parseMethodDescriptor y.desc).map (fun d => d.parameters.length) = some na)
/-- a throw's words: class, text, constructor -/
def ThOK (own : String) (ik is ic : Nat) (cls text : String) : Prop := Bundle.fit cls = true ∧ Cond.classLink own ik cls ∈ GW ∧ Cond.initialized cls ∈ GW ∧ (own, is, text) ∈ strL ∧ (∀ w ∈ vx_atS own ic cls ["java/lang/RuntimeException", "java/lang/Exception"], w ∈ GW ∨ w ∈ NWL) ∧ ∀ w ∈ Cond.classLink own ik cls :: Cond.initialized cls :: vx_atS own ic cls ["java/lang/RuntimeException", "java/lang/Exception"], vx_ot w = true
/-- a contract: from the world w with the arguments av the method comes back by post, or throws by px -/
def Ctr (E : ET) (y : MethodName) (cd : Cond) (rm : Room) (av : List Value) (w : va_W) (post : Option Value → va_W → Prop) (px : String → va_W → Prop) (mc ms : Nat) : Prop :=
  ∀ sz : Nat, vx_Met E.1 y (cd :: GW) rm (va_Pc av (fun U => U.heap.size = sz ∧ EnvS E U ∧ HeapS (va_A w sz) U U.heap ∧ va_P E.2.1 vwCl w U.heap ∧ va_D (fun _ => True) w)) (QC E post (va_A w sz)) (XQ E px (va_A w sz)) mc ms (va_A w sz)
def noX : String → va_W → Prop := fun _ _ => False
def noR : Option Value → va_W → Prop := fun _ _ => False
theorem ctr_of {E : ET} {y : MethodName} {cc : ByteArray} {maxL : Nat} {ret : Option FieldType} {rm : Room} {av : List Value} {w : va_W} {post : Option Value → va_W → Prop} {px : String → va_W → Prop} {mc ms : Nat} (hst : E.1.stackTraces = false) (hy : plainName y.cls = true) (hav : (lg_sl av).length ≤ maxL)
    (body : ∀ G : GT, OKG E G cc y.cls rm [] → OKR E G post px mc ms ret → nLG G = maxL → V E G 0 0 0 (lv_args 0 av) [] w) : Ctr E y (.code y cc maxL ret) rm av w post px mc ms := by
  intro sz
  refine vx_ofW (cc := cc) (maxL := maxL) (ret := ret) hy rfl ?_
  intro p e s m args below meth c s₁ B hml htb hv
  obtain ⟨rfl, hsz, hE, hH, hP, hD0⟩ := hv
  subst hsz
  have hts := atoms_spec (ws := .code y cc maxL ret :: GW) B.pre
  have hown : s.vm.findClass y.cls = some m.cls := findClass_of_methodNamed B.named
  have hl := lv_entry av (n := maxL) hav
  rw [lg_entry_eq]
  have htab : c.exceptionTable.toList = [] := by
    cases h : c.exceptionTable.toList with
    | nil => rfl
    | cons x r => exact absurd (htb x (by rw [h]; exact List.mem_cons_self)) id
  exact body (p, rm, s, m, av.toArray, below, meth, c, vx_MQ below (QC E post (va_A w s.heap.size)) (XQ E px (va_A w s.heap.size)) av.toArray s mc ms (va_A w s.heap.size), va_A w s.heap.size, maxL, e)
    ⟨B.exec, B.bytes, hml, hown, fun x hx => hts x (List.mem_cons_of_mem _ hx), hE, B.notSynchronized, hst, fun q h => Or.inr h, hH, rfl, htab⟩ ⟨rfl, B.returns⟩ rfl s.heap [] _ hl hP (hD0.self) va_S.rf
section VH
variable {E : ET} {G : GT} {cc : ByteArray} {own : String} {R0 : Room} {tb : List ExceptionTableEntry} {k n pc : Nat} {lv : List (Nat × Value)} {st : List Value} {w : va_W}
variable {post : Option Value → va_W → Prop} {px : String → va_W → Prop} {mc ms : Nat}
theorem v_get {C : String} {T : u_T} {N ci index a kf : Nat} {fs : List Value} {v : Value} (O : OKG E G cc own R0 tb) (d : decode cc pc = .ok (.getfield index, 3)) (L : FLk own index ci kf C T N) (q0 : Nat) (he : w[q0]? = some (a, .inr (ci, fs))) (hv : fs[kf]? = some v) (kk : V E G k n (pc + 3) lv (v :: st) w) : V E G k n pc lv (.ref a :: st) w := by
  obtain ⟨p, R, s, m, args, below, meth, c, Q, A, nL, e⟩ := G
  intro H locs ls hl hP hD hS
  obtain ⟨hx, hb, hml, hown, hts, hE, -⟩ := O
  exact va_get hx hb hts L.2.2.2 hown hE.1 hP q0 he L.1 kf L.2.1 (hts _ L.2.2.1) (fun _ h9 => h9) hv d (kk H locs ls hl hP hD hS)
theorem v_getN {C : String} {T : u_T} {N ci index a kf : Nat} {fs : List Value} {v : Value} (O : OKG E G cc own R0 tb) (d : decode cc pc = .ok (.getfield index, 3)) (L : FLn own index ci kf C T N) (q0 : Nat) (he : w[q0]? = some (a, .inr (ci, fs))) (hv : fs[kf]? = some v) (kk : V E G k n (pc + 3) lv (v :: st) w) : V E G k n pc lv (.ref a :: st) w := by
  obtain ⟨p, R, s, m, args, below, meth, c, Q, A, nL, e⟩ := G
  intro H locs ls hl hP hD hS
  obtain ⟨hx, hb, hml, hown, hts, hE, -⟩ := O
  exact va_getN (host := RX4) hx hb hts L.2.2.2 hown hE.1 hP q0 he L.1 kf L.2.1 (nw_use L.2.2.1 (hE.2.1 _ L.2.2.1)) (fun _ h9 => h9) hv d (kk H locs ls hl hP hD hS)
theorem v_put {C : String} {T : u_T} {N ci index a kf : Nat} {fs : List Value} {v : Value} {ty : FieldType} (O : OKG E G cc own R0 tb) (d : decode cc pc = .ok (.putfield index, 3)) (L : FLk own index ci kf C T N) (F : FTy T N) (q0 : Nat) (he : w[q0]? = some (a, .inr (ci, fs))) (hfin : (T kf).2.2.2 = false) (hd : parseFieldDescriptor (T kf).2.2.1 = some ty) (hn : narrow ty v = v) (hfit : fits ty v = true) (hlen : kf < fs.length) (kk : V E G k n (pc + 3) lv st (w.set q0 (a, .inr (ci, fs.set kf v)))) : V E G k n pc lv (v :: .ref a :: st) w := by
  obtain ⟨p, R, s, m, args, below, meth, c, Q, A, nL, e⟩ := G
  intro H locs ls hl hP hD hS
  obtain ⟨hx, hb, hml, hown, hts, hE, -⟩ := O
  obtain ⟨ty0, t1, t2⟩ := F
  exact va_put hx hb hts L.2.2.2 ty0 t1 t2 hown hE.1 hP hD hS q0 he L.1 kf L.2.1 (hts _ L.2.2.1) (fun _ h9 => h9) hfin hd hn hfit hlen d (fun H1 locs1 hP hD hS => kk H1 locs1 ls hl hP hD hS)
theorem v_putN {C : String} {T : u_T} {N ci index a kf : Nat} {fs : List Value} {v : Value} {ty : FieldType} (O : OKG E G cc own R0 tb) (d : decode cc pc = .ok (.putfield index, 3)) (L : FLn own index ci kf C T N) (F : FTy T N) (q0 : Nat) (he : w[q0]? = some (a, .inr (ci, fs))) (hfin : (T kf).2.2.2 = false) (hd : parseFieldDescriptor (T kf).2.2.1 = some ty) (hn : narrow ty v = v) (hfit : fits ty v = true) (hlen : kf < fs.length) (kk : V E G k n (pc + 3) lv st (w.set q0 (a, .inr (ci, fs.set kf v)))) : V E G k n pc lv (v :: .ref a :: st) w := by
  obtain ⟨p, R, s, m, args, below, meth, c, Q, A, nL, e⟩ := G
  intro H locs ls hl hP hD hS
  obtain ⟨hx, hb, hml, hown, hts, hE, -⟩ := O
  obtain ⟨ty0, t1, t2⟩ := F
  exact va_putN (host := RX4) hx hb hts L.2.2.2 ty0 t1 t2 hown hE.1 hP hD hS q0 he L.1 kf L.2.1 (nw_use L.2.2.1 (hE.2.1 _ L.2.2.1)) (fun _ h9 => h9) hfin hd hn hfit hlen d (fun H1 locs1 hP hD hS => kk H1 locs1 ls hl hP hD hS)
theorem v_iald {a len j : Nat} {f : Nat → Int32} (O : OKG E G cc own R0 tb) (d : decode cc pc = .ok (.iaload, 1)) (q0 : Nat) (he : w[q0]? = some (a, .inl (E.2.2 0, len, .inl f))) (hn : len < 2 ^ 31) (hj : j < len) (kk : V E G k n (pc + 1) lv (.int (f j) :: st) w) : V E G k n pc lv (.int (nI j) :: .ref a :: st) w := by
  obtain ⟨p, R, s, m, args, below, meth, c, Q, A, nL, e⟩ := G
  intro H locs ls hl hP hD hS
  obtain ⟨hx, hb, hml, hown, hts, hE, -⟩ := O
  refine va_iald hx hb hE.1 hP q0 0 he rfl (vp_in_nI hj hn) d ?_
  rw [nI_clamp (Nat.lt_trans hj hn)]
  exact kk H locs ls hl hP hD hS
theorem v_zald {a len j : Nat} {f : Nat → Int32} (O : OKG E G cc own R0 tb) (d : decode cc pc = .ok (.baload, 1)) (q0 : Nat) (he : w[q0]? = some (a, .inl (E.2.2 2, len, .inl f))) (hn : len < 2 ^ 31) (hj : j < len) (kk : V E G k n (pc + 1) lv (.int (f j) :: st) w) : V E G k n pc lv (.int (nI j) :: .ref a :: st) w := by
  obtain ⟨p, R, s, m, args, below, meth, c, Q, A, nL, e⟩ := G
  intro H locs ls hl hP hD hS
  obtain ⟨hx, hb, hml, hown, hts, hE, -⟩ := O
  refine va_zald hx hb hE.1 hP q0 2 he rfl (vp_in_nI hj hn) d ?_
  rw [nI_clamp (Nat.lt_trans hj hn)]
  exact kk H locs ls hl hP hD hS
theorem v_lald {a len j : Nat} {f : Nat → Int64} (O : OKG E G cc own R0 tb) (d : decode cc pc = .ok (.laload, 1)) (q0 : Nat) (he : w[q0]? = some (a, .inl (E.2.2 1, len, .inr (.inl f)))) (hn : len < 2 ^ 31) (hj : j < len) (kk : V E G k n (pc + 1) lv (.long (f j) :: st) w) : V E G k n pc lv (.int (nI j) :: .ref a :: st) w := by
  obtain ⟨p, R, s, m, args, below, meth, c, Q, A, nL, e⟩ := G
  intro H locs ls hl hP hD hS
  obtain ⟨hx, hb, hml, hown, hts, hE, -⟩ := O
  refine va_lald hx hb hE.1 hP q0 1 he rfl (vp_in_nI hj hn) d ?_
  rw [nI_clamp (Nat.lt_trans hj hn)]
  exact kk H locs ls hl hP hD hS
theorem v_dald {a len j : Nat} {f : Nat → UInt64} (O : OKG E G cc own R0 tb) (d : decode cc pc = .ok (.daload, 1)) (q0 : Nat) (he : w[q0]? = some (a, .inl (E.2.2 3, len, .inr (.inr (.inr (.inl f)))))) (hn : len < 2 ^ 31) (hj : j < len) (kk : V E G k n (pc + 1) lv (.double (f j) :: st) w) : V E G k n pc lv (.int (nI j) :: .ref a :: st) w := by
  obtain ⟨p, R, s, m, args, below, meth, c, Q, A, nL, e⟩ := G
  intro H locs ls hl hP hD hS
  obtain ⟨hx, hb, hml, hown, hts, hE, -⟩ := O
  refine va_dald hx hb hE.1 hP q0 3 he rfl (vp_in_nI hj hn) d ?_
  rw [nI_clamp (Nat.lt_trans hj hn)]
  exact kk H locs ls hl hP hD hS
theorem v_iast {a len j : Nat} {f : Nat → Int32} {x : Int32} (O : OKG E G cc own R0 tb) (d : decode cc pc = .ok (.iastore, 1)) (q0 : Nat) (he : w[q0]? = some (a, .inl (E.2.2 0, len, .inl f))) (hn : len < 2 ^ 31) (hj : j < len) (kk : V E G k n (pc + 1) lv st (w.set q0 (a, .inl (E.2.2 0, len, .inl (upd f j x))))) : V E G k n pc lv (.int x :: .int (nI j) :: .ref a :: st) w := by
  obtain ⟨p, R, s, m, args, below, meth, c, Q, A, nL, e⟩ := G
  intro H locs ls hl hP hD hS
  obtain ⟨hx, hb, hml, hown, hts, hE, -⟩ := O
  refine va_iast hx hb hE.1 hP hD hS q0 0 he rfl (vp_in_nI hj hn) d (fun H1 locs1 hP hD hS => ?_)
  rw [nI_clamp (Nat.lt_trans hj hn)] at hP hD
  exact kk H1 locs1 ls hl hP hD hS
theorem up_N (f : Nat → Nat) (j x : Nat) : upd (fun q => nI (f q)) j (nI x) = fun q => nI (va_up f j x q) := by
  funext q
  simp only [upd, va_up]
  by_cases h : q = j <;> simp [h]
theorem v_iastN {a len j x : Nat} {f : Nat → Nat} (O : OKG E G cc own R0 tb) (d : decode cc pc = .ok (.iastore, 1)) (q0 : Nat) (he : w[q0]? = some (a, .inl (E.2.2 0, len, .inl (fun q => nI (f q))))) (hn : len < 2 ^ 31) (hj : j < len) (kk : V E G k n (pc + 1) lv st (w.set q0 (a, .inl (E.2.2 0, len, .inl (fun q => nI (va_up f j x q)))))) : V E G k n pc lv (.int (nI x) :: .int (nI j) :: .ref a :: st) w :=
  v_iast O d q0 he hn hj (by rw [up_N]; exact kk)
theorem up_B (f : Nat → Bool) (j : Nat) (b : Bool) : upd (fun q => bI (f q)) j (vp_nar .boolean (bI b)) = fun q => bI (va_up f j b q) := by
  funext q
  simp only [upd, va_up]
  by_cases h : q = j
  · simp only [h, if_true]
    cases b <;> decide
  · simp only [h, if_false]
theorem v_zastB {a len j : Nat} {b : Bool} {f : Nat → Bool} (O : OKG E G cc own R0 tb) (d : decode cc pc = .ok (.bastore, 1)) (q0 : Nat) (he : w[q0]? = some (a, .inl (E.2.2 2, len, .inl (fun q => bI (f q))))) (hn : len < 2 ^ 31) (hj : j < len) (kk : V E G k n (pc + 1) lv st (w.set q0 (a, .inl (E.2.2 2, len, .inl (fun q => bI (va_up f j b q)))))) : V E G k n pc lv (.int (bI b) :: .int (nI j) :: .ref a :: st) w := by
  obtain ⟨p, R, s, m, args, below, meth, c, Q, A, nL, e⟩ := G
  intro H locs ls hl hP hD hS
  obtain ⟨hx, hb, hml, hown, hts, hE, -⟩ := O
  refine va_zast hx hb hE.1 hP hD hS q0 2 he rfl (vp_in_nI hj hn) d (fun H1 locs1 hP hD hS => ?_)
  rw [nI_clamp (Nat.lt_trans hj hn), up_B] at hP hD
  exact kk H1 locs1 ls hl hP hD hS
theorem v_last {a len j : Nat} {f : Nat → Int64} {x : Int64} (O : OKG E G cc own R0 tb) (d : decode cc pc = .ok (.lastore, 1)) (q0 : Nat) (he : w[q0]? = some (a, .inl (E.2.2 1, len, .inr (.inl f)))) (hn : len < 2 ^ 31) (hj : j < len) (kk : V E G k n (pc + 1) lv st (w.set q0 (a, .inl (E.2.2 1, len, .inr (.inl (vp_updL f j x)))))) : V E G k n pc lv (.long x :: .int (nI j) :: .ref a :: st) w := by
  obtain ⟨p, R, s, m, args, below, meth, c, Q, A, nL, e⟩ := G
  intro H locs ls hl hP hD hS
  obtain ⟨hx, hb, hml, hown, hts, hE, -⟩ := O
  refine va_last hx hb hE.1 hP hD hS q0 1 he rfl (vp_in_nI hj hn) d (fun H1 locs1 hP hD hS => ?_)
  rw [nI_clamp (Nat.lt_trans hj hn)] at hP hD
  exact kk H1 locs1 ls hl hP hD hS
theorem v_dast {a len j : Nat} {f : Nat → UInt64} {x : UInt64} (O : OKG E G cc own R0 tb) (d : decode cc pc = .ok (.dastore, 1)) (q0 : Nat) (he : w[q0]? = some (a, .inl (E.2.2 3, len, .inr (.inr (.inr (.inl f)))))) (hn : len < 2 ^ 31) (hj : j < len) (kk : V E G k n (pc + 1) lv st (w.set q0 (a, .inl (E.2.2 3, len, .inr (.inr (.inr (.inl (vf_upd f j x)))))))) : V E G k n pc lv (.double x :: .int (nI j) :: .ref a :: st) w := by
  obtain ⟨p, R, s, m, args, below, meth, c, Q, A, nL, e⟩ := G
  intro H locs ls hl hP hD hS
  obtain ⟨hx, hb, hml, hown, hts, hE, -⟩ := O
  refine va_dast hx hb hE.1 hP hD hS q0 3 he rfl (vp_in_nI hj hn) d (fun H1 locs1 hP hD hS => ?_)
  rw [nI_clamp (Nat.lt_trans hj hn)] at hP hD
  exact kk H1 locs1 ls hl hP hD hS
-- ends
theorem v_ireturn {x : Int32} (O : OKG E G cc own R0 tb) (OR : OKR E G post px mc ms (some .int)) (d : decode cc pc = .ok (.ireturn, 1)) (h : post (some (.int x)) w) (hk : k ≤ mc) (hn : n ≤ ms) : V E G k n pc lv [.int x] w := by
  obtain ⟨p, R, s, m, args, below, meth, c, Q, A, nL, e⟩ := G
  obtain ⟨hQ, hr⟩ := OR
  obtain ⟨hx, hb, -, -, -, -, hlocks, -⟩ := O
  subst hQ
  intro H locs ls hl hP hD hS
  refine vx_ret (W.widen hk hn ?_)
  exact W.iret hx hb hr (fun t ht hW => ⟨⟨_, w, rfl, h, by rw [ht]; exact hP, hD⟩, hS.F ht⟩) hS.2.2 d hlocks
theorem v_zreturn {x : Int32} (O : OKG E G cc own R0 tb) (OR : OKR E G post px mc ms (some .boolean)) (d : decode cc pc = .ok (.ireturn, 1)) (hb : narrow .boolean (.int x) = .int x) (h : post (some (.int x)) w) (hk : k ≤ mc) (hn : n ≤ ms) : V E G k n pc lv [.int x] w := by
  obtain ⟨p, R, s, m, args, below, meth, c, Q, A, nL, e⟩ := G
  obtain ⟨hQ, hr⟩ := OR
  obtain ⟨hx, hb2, -, -, -, -, hlocks, -⟩ := O
  subst hQ
  intro H locs ls hl hP hD hS
  refine vx_ret (W.widen hk hn ?_)
  exact W.zret hx hb2 hr hb (fun t ht hW => ⟨⟨_, w, rfl, h, by rw [ht]; exact hP, hD⟩, hS.F ht⟩) hS.2.2 d hlocks
theorem v_lreturn {x : Int64} (O : OKG E G cc own R0 tb) (OR : OKR E G post px mc ms (some .long)) (d : decode cc pc = .ok (.lreturn, 1)) (h : post (some (.long x)) w) (hk : k ≤ mc) (hn : n ≤ ms) : V E G k n pc lv [.long x] w := by
  obtain ⟨p, R, s, m, args, below, meth, c, Q, A, nL, e⟩ := G
  obtain ⟨hQ, hr⟩ := OR
  obtain ⟨hx, hb, -, -, -, -, hlocks, -⟩ := O
  subst hQ
  intro H locs ls hl hP hD hS
  refine vx_ret (W.widen hk hn ?_)
  exact W.lret hx hb hr (fun t ht hW => ⟨⟨_, w, rfl, h, by rw [ht]; exact hP, hD⟩, hS.F ht⟩) hS.2.2 d hlocks
theorem v_dreturn {x : UInt64} (O : OKG E G cc own R0 tb) (OR : OKR E G post px mc ms (some .double)) (d : decode cc pc = .ok (.dreturn, 1)) (h : post (some (.double x)) w) (hk : k ≤ mc) (hn : n ≤ ms) : V E G k n pc lv [.double x] w := by
  obtain ⟨p, R, s, m, args, below, meth, c, Q, A, nL, e⟩ := G
  obtain ⟨hQ, hr⟩ := OR
  obtain ⟨hx, hb, -, -, -, -, hlocks, -⟩ := O
  subst hQ
  intro H locs ls hl hP hD hS
  refine vx_ret (W.widen hk hn ?_)
  exact W.dret hx hb hr (fun t ht hW => ⟨⟨_, w, rfl, h, by rw [ht]; exact hP, hD⟩, hS.F ht⟩) hS.2.2 d hlocks
theorem v_return (O : OKG E G cc own R0 tb) (OR : OKR E G post px mc ms none) (d : decode cc pc = .ok (.return_, 1)) (h : post none w) (hk : k ≤ mc) (hn : n ≤ ms) : V E G k n pc lv [] w := by
  obtain ⟨p, R, s, m, args, below, meth, c, Q, A, nL, e⟩ := G
  obtain ⟨hQ, hr⟩ := OR
  obtain ⟨hx, hb, -, -, -, -, hlocks, -⟩ := O
  subst hQ
  intro H locs ls hl hP hD hS
  refine vx_ret (W.widen hk hn ?_)
  exact W.vret hx hb hr (fun t ht hW => ⟨⟨_, w, rfl, h, by rw [ht]; exact hP, hD⟩, hS.F ht⟩) hS.2.2 d hlocks
theorem v_throw {cls text : String} {ik is ic : Nat} {ret : Option FieldType} (O : OKG E G cc own R0 []) (OR : OKR E G post px mc ms ret) (TH : ThOK own ik is ic cls text) (d0 : decode cc pc = .ok (.new ik, 3)) (d3 : decode cc (pc + 3) = .ok (.dup, 1)) (d4 : decode cc (pc + 4) = .ok (.ldc is, 2)) (d6 : decode cc (pc + 6) = .ok (.invokespecial ic, 3)) (d9 : decode cc (pc + 9) = .ok (.athrow, 1))
    (h : px cls w) (hf : 5 < R0.frames) (hlo : (st.map fun v => v.category).sum + 82 ≤ R0.locals) (hc : k + 1 ≤ R0.cells) (hs : n + 6 ≤ R0.slots) (hk : k + 1 ≤ mc) (hn : n + 6 ≤ ms) : V E G k n pc lv st w := by
  obtain ⟨p, R, s, m, args, below, meth, c, Q, A, nL, e⟩ := G
  obtain ⟨hQ, hr⟩ := OR
  obtain ⟨hx, hb, hml, hown, hts, hE, hlocks, hnt, hA, hH, hR, htab⟩ := O
  obtain ⟨t1, t2, t3, t4, t5, t6⟩ := TH
  subst hQ
  subst hR
  obtain ⟨sa, hsa⟩ := hE.2.2.1 _ t4
  intro H locs ls hl hP hD hS
  refine vx_throwS (names := ["java/lang/RuntimeException", "java/lang/Exception"]) (A := A) hx hb hnt hown t1 (by decide +kernel) (hts _ t2) (hts _ t3) hsa (fun x hx2 => (t5 x hx2).elim (fun g => hts x g) (fun g => nw_use g (hE.2.1 x g))) t6 hH.1 hH.2 hS (by rw [hml]; exact hl.1) d0 d3 d4 d6 d9 (fun x hx2 => by rw [htab] at hx2; cases hx2) hf hlo hc hs hlocks ?_ hS.2.2 hk hn
  intro t hal hz hq
  refine ⟨w, h, hP.kept (fun j q hj => hq q.1 ((hP j q hj).lt)), hD, Nat.le_trans hS.1 hz, fun q h1 h2 => ?_⟩
  rw [hq q (Nat.lt_of_lt_of_le h1 hS.1)]
  exact hS.2.1 q h1 h2
/-- an exception goes on to the caller -/
theorem vx_pass {X : String} {ret : Option FieldType} (O : OKG E G cc own R0 []) (OR : OKR E G post px mc ms ret) (h : px X w) (hk : k ≤ mc) (hn : n ≤ ms) : VX E G k n pc lv X w := by
  obtain ⟨p, R, s, m, args, below, meth, c, Q, A, nL, e⟩ := G
  obtain ⟨hQ, hr⟩ := OR
  obtain ⟨hx, hb, hml, hown, hts, hE, hlocks, hnt, hA, hH, hR, htab⟩ := O
  subst hQ
  intro H locs ls rest q ce hcell hv hcl hl hP hD hS
  exact vx_out (fun x hx2 => by rw [htab] at hx2; cases hx2) hlocks hcell hv hcl (fun t ht _ => ⟨w, h, by rw [ht]; exact hP, hD, hS.F ht⟩) hS.2.2 hk hn
-- calls in one world
theorem blind_of {av : List Value} {sz : Nat} : FrameBlind (va_Pc av (fun U => U.heap.size = sz ∧ EnvS E U ∧ HeapS (va_A w sz) U U.heap ∧ va_P E.2.1 vwCl w U.heap ∧ va_D (fun _ => True) w)) := by
  intro a U g mk q
  obtain ⟨q0, q1, qE, qH, qP, qD⟩ := q
  exact ⟨q0, q1, EnvS.same (s := U) (U := U.calling g mk a) rfl qE, ⟨vx_Zq.moved (u := U) (U := U.calling g mk a) (Vm.Alike.refl U.vm) qH.1, vx_Zq.moved (u := U) (U := U.calling g mk a) (Vm.Alike.refl U.vm) qH.2⟩, qP, qD⟩
theorem pre_of {A : Nat → Prop} {s : State} {H : Heap} {locs : List Loc} {av : List Value} (hE : EnvS E s) (hH : HeapS A s s.heap) (hA : ∀ q, s.heap.size ≤ q → A q) (hP : va_P E.2.1 vwCl w H) (hD : va_D A w) (hS : va_S A s.heap H locs) (U : State) (hU : U.heap = H) (hW : s.WarmedH U.vm) : va_Pc av (fun U => U.heap.size = H.size ∧ EnvS E U ∧ HeapS (va_A w H.size) U U.heap ∧ va_P E.2.1 vwCl w U.heap ∧ va_D (fun _ => True) w) av.toArray U := by
  have hf : ∀ q, va_A w H.size q → A q := fun q h => by
    rcases h with ⟨j, e, h⟩ | h
    · exact hD.2 j (q, e) h
    · exact hA q (Nat.le_trans hS.1 h)
  refine ⟨rfl, by rw [hU], EnvS.warm hW hE, ?_, by rw [hU]; exact hP, hD.weaken (fun _ _ _ _ => trivial)⟩
  rw [hU]
  exact ⟨vx_Zq.narrow (vx_Zq.moved hW.alike (hH.1.kept hS.2.1)) hf, vx_Zq.narrow (vx_Zq.moved hW.alike (hH.2.kept hS.2.1)) hf⟩
/-- what comes behind a call's run -/
theorem v_back {p : Program} {R : Room} {s : State} {m : MethodId} {args : Array Value} {below : List Frame} {meth : Method} {c : Code} {Q : State → Prop} {A : Nat → Prop} {nL : Nat} {e : Env} {H : Heap} {locs : List Loc} {ls : Array Slot} {rest stk : List Value} {pc2 mc ms : Nat} {a : Array Value} {pst : Option Value → va_W → Prop} {psx : String → va_W → Prop}
    (hA : ∀ q, s.heap.size ≤ q → A q) (hl : lv_has ls nL lv) (hD : va_D A w) (hS : va_S A s.heap H locs)
    (run : vx_Run p E.1 e R s m args below meth c H locs k n mc ms (F0 m pc2 ls stk) rest (QC E pst (va_A w H.size) a) (XQ E psx (va_A w H.size)) (va_A w H.size))
    (kk : ∀ r u, pst r u → V E (p, R, s, m, args, below, meth, c, Q, A, nL, e) (k + mc) (n + ms) (pc2 + 3) lv (r.toList ++ rest) u)
    (kx : ∀ X u, psx X u → VX E (p, R, s, m, args, below, meth, c, Q, A, nL, e) (k + mc) (n + ms) pc2 lv X u) : W p E.1 e R s m args below meth c H locs k n Q (F0 m pc2 ls stk) := by
  have hf : ∀ q, va_A w H.size q → A q := fun q h => by
    rcases h with ⟨j, e, h⟩ | h
    · exact hD.2 j (q, e) h
    · exact hA q (Nat.le_trans hS.1 h)
  intro T hT X
  rcases run T hT X with ⟨v, st₀, t, T', L, h0, X', hL, e1, e2, ⟨⟨r, u, hoc, hp, hP1, hD1⟩, hF⟩, hgo⟩ | ⟨q, st₀, t, T', L, X9, ce, h0, X', hL, e1, e2, ⟨u, hp, hP1, hD1, hF⟩, hcell, hcv, hcl, hsteps⟩
  · cases hoc
    obtain ⟨-, -, hS1⟩ := vx_keep h0 e1 hS (fun q _ h => hf q h) hf hL hF
    obtain ⟨t2, a1, b1⟩ := kk _ u hp T'.heap (locs ++ L) ls hl (by rw [e1]; exact hP1) (hD1.weaken (fun _ _ _ h => hf _ h)) hS1 T' rfl X'
    exact ⟨t2, hgo t2 a1, b1⟩
  · obtain ⟨-, -, hS1⟩ := vx_keep h0 e1 hS (fun q _ h => hf q h) hf hL hF
    obtain ⟨t2, a1, b1⟩ := kx X9 u hp T'.heap (locs ++ L) ls rest q ce (by rw [e1]; exact hcell) hcv hcl hl (by rw [e1]; exact hP1) (hD1.weaken (fun _ _ _ h => hf _ h)) hS1 T' rfl X'
    exact ⟨t2, hsteps.trans a1, b1⟩
end VH
