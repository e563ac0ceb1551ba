
/-- the words that survive a warming, and those that are carried by name -/
def isNW : Cond → Bool
  | .castable _ _ => true
  | .declares _ => true
  | .fieldLinkNest .. => true
  | .methodLinkNest .. => true
  | _ => false
def GW : List Cond := lw_tbl.filter goodWord
def NWL : List Cond := tables_1.filter isNW
theorem nw_warm {w : Cond} (h : isNW w = true) {s U : State} (hW : s.WarmedH U.vm) (hZ : va_Nw w s) : va_Nw w U := by
  cases w <;> first
    | exact va_Nw.warmC hW hZ
    | exact va_Nw.warmD hW hZ
    | exact va_Nw.warmF hW hZ
    | exact va_Nw.warmM hW hZ
    | (simp [isNW] at h)
theorem nw_same {w : Cond} (h : isNW w = true) {u U : State} (e : u.vm = U.vm) (hZ : va_Nw w u) : va_Nw w U := by
  cases w <;> first
    | exact va_Nw.same rfl e hZ
    | (simp [isNW] at h)
/-- launch, class numbers, array classes -/
abbrev ET : Type := Launch × va_G × (Nat → ClassId)
abbrev GT : Type := Program × Room × State × MethodId × Array Value × List Frame × Method × Code × (State → Prop) × (Nat → Prop) × Nat × Env
def tysL (ca : Nat → ClassId) : List (ClassId × FieldType) := [(ca 0, .int), (ca 1, .long), (ca 2, .boolean), (ca 3, .double)]
def strL : List (String × Nat × String) := [("BurstFinder", 126, "what is not 0 to 4"), ("BurstFinder", 190, "no such candidate"), ("BurstFinder", 39, "channels is not 2, 4, 8 or 16"), ("BurstFinder", 237, "no such channel"), ("BurstFinder", 58, "power is not 0 to 9999"), ("BurstFinder", 70, "code is not 32 to 126"), ("BurstFinder", 77, "the buffer is full"), ("BurstFinder", 91, "the buffer does not consist of whole columns"), ("BurstFinder", 241, "no such slope"), ("BurstFinder", 245, "no such line"), ("BurstFinder", 101, "amplitude is not 1 to 9999"), ("BurstFinder", 239, "no such column"), ("BurstFinder", 135, "many is not 0 to the number of channels"), ("BurstFinder", 243, "width is not 1 to 8"), ("BurstFinder", 176, "threshold is negative")]
def ncL : List (String × String) := [("java/lang/IllegalArgumentException", "java/lang/IndexOutOfBoundsException"), ("java/lang/IllegalStateException", "java/lang/IllegalArgumentException"), ("java/lang/IndexOutOfBoundsException", "java/lang/IllegalArgumentException")]
def EnvS (E : ET) (U : State) : Prop := va_K E.2.1 vwCl (tysL E.2.2) U ∧ (∀ w ∈ NWL, va_Nw w U) ∧ (∀ q ∈ strL, ∃ sa, vk_R q.1 q.2.1 q.2.2 sa U) ∧ ∀ q ∈ ncL, va_Nc q.1 q.2 U
def HeapS (A : Nat → Prop) (U : State) (H : Heap) : Prop := vx_Zq Bundle.tN "UNASSIGNED_STACK" Bundle.steD A U H ∧ vx_Zq Bundle.tN "SUPPRESSED_SENTINEL" Bundle.listD A U H
theorem EnvS.warm {E : ET} {s U : State} (hW : s.WarmedH U.vm) (h : EnvS E s) : EnvS E U :=
  ⟨va_K.moved hW.alike h.1, fun w hw => nw_warm (List.mem_filter.mp hw).2 hW (h.2.1 w hw), fun q hq => by obtain ⟨sa, hs⟩ := h.2.2.1 q hq; exact ⟨sa, vk_R.warm hW hs⟩, fun q hq => va_Nc.moved hW.alike (h.2.2.2 q hq)⟩
theorem EnvS.same {E : ET} {s U : State} (e : s.vm = U.vm) (h : EnvS E s) : EnvS E U :=
  ⟨va_K.moved (by rw [e]; exact Vm.Alike.refl U.vm) h.1, fun w hw => nw_same (List.mem_filter.mp hw).2 e (h.2.1 w hw), fun q hq => by obtain ⟨sa, hs⟩ := h.2.2.1 q hq; exact ⟨sa, vk_R.same e.symm hs⟩, fun q hq => va_Nc.moved (by rw [e]; exact Vm.Alike.refl U.vm) (h.2.2.2 q hq)⟩
def QC (E : ET) (post : Option Value → va_W → Prop) (A : Nat → Prop) : Array Value → State → Outcome → State → Prop := fun _ st oc t => (∃ (r : Option Value) (u : va_W), oc = .returned r ∧ post r u ∧ va_P E.2.1 vwCl u t.heap ∧ va_D A u) ∧ va_F A st t
def XQ (E : ET) (px : String → va_W → Prop) (A : Nat → Prop) : String → State → State → Prop := fun X st t => ∃ u, px X u ∧ va_P E.2.1 vwCl u t.heap ∧ va_D A u ∧ va_F A st t
/-- the walk stands at pc with the locals lv, the stack st, the world w, k cells and n slots made so far -/
def V (E : ET) (G : GT) (k n pc : Nat) (lv : List (Nat × Value)) (st : List Value) (w : va_W) : Prop := match G with
  | (p, R, s, m, args, below, meth, c, Q, A, nL, e) => ∀ (H : Heap) (locs : List Loc) (ls : Array Slot), lv_has ls nL lv → va_P E.2.1 vwCl w H → va_D A w → va_S A s.heap H locs → W p E.1 e R s m args below meth c H locs k n Q (F0 m pc ls st)
/-- the same with an exception of the class X thrown over the frame -/
def VX (E : ET) (G : GT) (k n pc : Nat) (lv : List (Nat × Value)) (X : String) (w : va_W) : Prop := match G with
  | (p, R, s, m, args, below, meth, c, Q, A, nL, e) => ∀ (H : Heap) (locs : List Loc) (ls : Array Slot) (rest : List Value) (q : Addr) (ce : Cell), H[q]? = some ce → ce.vm = .none → s.vm.findClass X = some ce.cls → lv_has ls nL lv → va_P E.2.1 vwCl w H → va_D A w → va_S A s.heap H locs → vx_W p E.1 e R s m args below meth c H locs k n Q (F0 m pc ls rest) q
def OKG (E : ET) (G : GT) (cc : ByteArray) (own : String) (R0 : Room) (tb : List ExceptionTableEntry) : Prop := match G with
  | (p, R, s, m, args, below, meth, c, Q, A, nL, e) => p.tables.exec = Jvm.exec ∧ c.code = cc ∧ c.maxLocals = nL ∧ s.vm.findClass own = some m.cls ∧ (∀ w ∈ GW, w.before args s = true) ∧ EnvS E s ∧ meth.locks = false ∧ E.1.stackTraces = false ∧ (∀ q, s.heap.size ≤ q → A q) ∧ HeapS A s s.heap ∧ R = R0 ∧ c.exceptionTable.toList = tb
def OKR (E : ET) (G : GT) (post : Option Value → va_W → Prop) (px : String → va_W → Prop) (mc ms : Nat) (ret : Option FieldType) : Prop := match G with
  | (p, R, s, m, args, below, meth, c, Q, A, nL, e) => Q = vx_MQ below (QC E post A) (XQ E px A) args s mc ms A ∧ meth.sig.returnType = ret
def nLG (G : GT) : Nat := match G with
  | (p, R, s, m, args, below, meth, c, Q, A, nL, e) => nL
/-- what a local holds -/
def ldv (lv : List (Nat × Value)) (i : Nat) : Option Value := (lv.find? (fun q => q.1 == i)).map (fun q => q.2)
def st1 (lv : List (Nat × Value)) (i : Nat) (v : Value) : List (Nat × Value) := (i, v) :: lv.filter (fun q => !(q.1 == i) && !(q.1 + 1 == i && q.2.category == 2))
def st2 (lv : List (Nat × Value)) (i : Nat) (v : Value) : List (Nat × Value) := (i, v) :: lv.filter (fun q => !(q.1 == i) && (!(q.1 == i + 1) && !(q.1 + 1 == i && q.2.category == 2)))
theorem ldv_at {ls : Array Slot} {nL : Nat} {lv : List (Nat × Value)} {i : Nat} {v : Value} (h : lv_has ls nL lv) (hl : ldv lv i = some v) : ls[i]? = some (.val v) := by
  unfold ldv at hl
  cases hf : lv.find? (fun q => q.1 == i) with
  | none => rw [hf] at hl; cases hl
  | some q =>
    rw [hf] at hl
    have h1 := List.find?_some hf
    have h2 := List.mem_of_find?_eq_some hf
    have h3 : q.1 = i := by simpa using h1
    have h4 := h.2.2 q h2
    have h5 : q.2 = v := by simpa using hl
    rw [h3, h5] at h4
    exact h4
theorem ldv_mem {lv : List (Nat × Value)} {i : Nat} {v : Value} (hl : ldv lv i = some v) : ∃ k : Nat, lv[k]? = some (i, v) := by
  unfold ldv at hl
  cases hf : lv.find? (fun q => q.1 == i) with
  | none => rw [hf] at hl; cases hl
  | some q =>
    rw [hf] at hl
    have h1 := List.find?_some hf
    have h2 := List.mem_of_find?_eq_some hf
    have h3 : q.1 = i := by simpa using h1
    have h5 : q.2 = v := by simpa using hl
    obtain ⟨k, hk⟩ := List.getElem?_of_mem h2
    exact ⟨k, by rw [hk, ← h3, ← h5]⟩
/-- fewer locals, or the same in another order -/
def lvle (a b : List (Nat × Value)) : Bool := a.all (fun q => match ldv b q.1 with
  | some _ => true
  | none => false)
section VR
variable {E : ET} {G : GT} {cc : ByteArray} {own : String} {R0 : Room} {tb : List ExceptionTableEntry} {k n pc : Nat} {lv : List (Nat × Value)} {st : List Value} {w : va_W}
theorem v_cv {lv' : List (Nat × Value)} {st' : List Value} {w' : va_W} {pc' : Nat} (h : V E G k n pc' lv' st' w') (h1 : pc = pc' := by rfl) (h2 : lv = lv' := by rfl) (h3 : st = st' := by rfl) (h4 : w = w' := by rfl) : V E G k n pc lv st w := by
  subst h1; subst h2; subst h3; subst h4; exact h
theorem v_w {w' : va_W} (h4 : w = w') (h : V E G k n pc lv st w') : V E G k n pc lv st w := by
  subst h4; exact h
theorem v_st {st' : List Value} (h4 : st = st') (h : V E G k n pc lv st' w) : V E G k n pc lv st w := by
  subst h4; exact h
theorem v_lv {lv' : List (Nat × Value)} (h : ∀ q ∈ lv', q ∈ lv) (kk : V E G k n pc lv' st w) : V E G k n pc lv st w := by
  obtain ⟨p, R, s, m, args, below, meth, c, Q, A, nL, e⟩ := G
  intro H locs ls hl hP hD hS
  exact kk H locs ls ⟨hl.1, hl.2.1, fun q hq => hl.2.2 q (h q hq)⟩ hP hD hS
theorem v_widen {k' n' : Nat} (h1 : k ≤ k') (h2 : n ≤ n') (kk : V E G k' n' pc lv st w) : V E G k n pc lv st w := by
  obtain ⟨p, R, s, m, args, below, meth, c, Q, A, nL, e⟩ := G
  intro H locs ls hl hP hD hS
  exact W.widen h1 h2 (kk H locs ls hl hP hD hS)
theorem v_iconst {v : Int32} {z : Int} (O : OKG E G cc own R0 tb) (d : decode cc pc = .ok (.iconst z, 1)) (hv : Int32.ofInt z = v) (kk : V E G k n (pc + 1) lv (.int v :: st) w) : V E G k n pc lv st w := by
  obtain ⟨p, R, s, m, args, below, meth, c, Q, A, nL, e⟩ := G
  intro H locs ls hl hP hD hS
  exact lv_iconst O.1 O.2.1 d hv (kk H locs ls hl hP hD hS)
theorem v_bipush {v : Int32} {z : Int} (O : OKG E G cc own R0 tb) (d : decode cc pc = .ok (.bipush z, 2)) (hv : (Int8.ofInt z).toInt32 = v) (kk : V E G k n (pc + 2) lv (.int v :: st) w) : V E G k n pc lv st w := by
  obtain ⟨p, R, s, m, args, below, meth, c, Q, A, nL, e⟩ := G
  intro H locs ls hl hP hD hS
  exact lv_bipush O.1 O.2.1 d hv (kk H locs ls hl hP hD hS)
theorem v_sipush {v : Int32} {z : Int} (O : OKG E G cc own R0 tb) (d : decode cc pc = .ok (.sipush z, 3)) (hv : (Int16.ofInt z).toInt32 = v) (kk : V E G k n (pc + 3) lv (.int v :: st) w) : V E G k n pc lv st w := by
  obtain ⟨p, R, s, m, args, below, meth, c, Q, A, nL, e⟩ := G
  intro H locs ls hl hP hD hS
  exact lv_sipush O.1 O.2.1 d hv (kk H locs ls hl hP hD hS)
theorem v_lconst {v : Int64} {z : Fin 2} (O : OKG E G cc own R0 tb) (d : decode cc pc = .ok (.lconst z, 1)) (hv : Int64.ofNat (z : Nat) = v) (kk : V E G k n (pc + 1) lv (.long v :: st) w) : V E G k n pc lv st w := by
  obtain ⟨p, R, s, m, args, below, meth, c, Q, A, nL, e⟩ := G
  intro H locs ls hl hP hD hS
  exact lv_lconst O.1 O.2.1 d hv (kk H locs ls hl hP hD hS)
theorem v_dconst0 (O : OKG E G cc own R0 tb) (d : decode cc pc = .ok (.dconst 0, 1)) (kk : V E G k n (pc + 1) lv (.double 0 :: st) w) : V E G k n pc lv st w := by
  obtain ⟨p, R, s, m, args, below, meth, c, Q, A, nL, e⟩ := G
  intro H locs ls hl hP hD hS
  exact lv_dconst0 O.1 O.2.1 d (kk H locs ls hl hP hD hS)
theorem v_iload_n {x : Int32} {j : Fin 4} (O : OKG E G cc own R0 tb) (d : decode cc pc = .ok (.iload_n j, 1)) (hx : ldv lv (j : Nat) = some (.int x)) (kk : V E G k n (pc + 1) lv (.int x :: st) w) : V E G k n pc lv st w := by
  obtain ⟨p, R, s, m, args, below, meth, c, Q, A, nL, e⟩ := G
  intro H locs ls hl hP hD hS
  exact lv_iload_n O.1 O.2.1 d rfl (ldv_at hl hx) (kk H locs ls hl hP hD hS)
theorem v_iload {x : Int32} {j : Nat} (O : OKG E G cc own R0 tb) (d : decode cc pc = .ok (.iload j, 2)) (hx : ldv lv j = some (.int x)) (kk : V E G k n (pc + 2) lv (.int x :: st) w) : V E G k n pc lv st w := by
  obtain ⟨p, R, s, m, args, below, meth, c, Q, A, nL, e⟩ := G
  intro H locs ls hl hP hD hS
  exact lv_iload O.1 O.2.1 d (ldv_at hl hx) (kk H locs ls hl hP hD hS)
theorem v_istore_n {x : Int32} {j : Fin 4} (O : OKG E G cc own R0 tb) (d : decode cc pc = .ok (.istore_n j, 1)) (hj : (j : Nat) < nLG G) (kk : V E G k n (pc + 1) (st1 lv (j : Nat) (.int x)) st w) : V E G k n pc lv (.int x :: st) w := by
  obtain ⟨p, R, s, m, args, below, meth, c, Q, A, nL, e⟩ := G
  intro H locs ls hl hP hD hS
  exact lv_istore_n O.1 O.2.1 d rfl hl hj rfl (fun ls2 hl2 => kk H locs ls2 hl2 hP hD hS)
theorem v_istore {x : Int32} {j : Nat} (O : OKG E G cc own R0 tb) (d : decode cc pc = .ok (.istore j, 2)) (hj : j < nLG G) (kk : V E G k n (pc + 2) (st1 lv j (.int x)) st w) : V E G k n pc lv (.int x :: st) w := by
  obtain ⟨p, R, s, m, args, below, meth, c, Q, A, nL, e⟩ := G
  intro H locs ls hl hP hD hS
  exact lv_istore O.1 O.2.1 d hl hj rfl (fun ls2 hl2 => kk H locs ls2 hl2 hP hD hS)
theorem v_lload_n {x : Int64} {j : Fin 4} (O : OKG E G cc own R0 tb) (d : decode cc pc = .ok (.lload_n j, 1)) (hx : ldv lv (j : Nat) = some (.long x)) (kk : V E G k n (pc + 1) lv (.long x :: st) w) : V E G k n pc lv st w := by
  obtain ⟨p, R, s, m, args, below, meth, c, Q, A, nL, e⟩ := G
  intro H locs ls hl hP hD hS
  exact lv_lload_n O.1 O.2.1 d rfl (ldv_at hl hx) (kk H locs ls hl hP hD hS)
theorem v_lload {x : Int64} {j : Nat} (O : OKG E G cc own R0 tb) (d : decode cc pc = .ok (.lload j, 2)) (hx : ldv lv j = some (.long x)) (kk : V E G k n (pc + 2) lv (.long x :: st) w) : V E G k n pc lv st w := by
  obtain ⟨p, R, s, m, args, below, meth, c, Q, A, nL, e⟩ := G
  intro H locs ls hl hP hD hS
  exact lv_lload O.1 O.2.1 d (ldv_at hl hx) (kk H locs ls hl hP hD hS)
theorem v_lstore_n {x : Int64} {j : Fin 4} (O : OKG E G cc own R0 tb) (d : decode cc pc = .ok (.lstore_n j, 1)) (hj : (j : Nat) + 1 < nLG G) (kk : V E G k n (pc + 1) (st2 lv (j : Nat) (.long x)) st w) : V E G k n pc lv (.long x :: st) w := by
  obtain ⟨p, R, s, m, args, below, meth, c, Q, A, nL, e⟩ := G
  intro H locs ls hl hP hD hS
  exact lv_lstore_n O.1 O.2.1 d rfl hl hj rfl (fun ls2 hl2 => kk H locs ls2 hl2 hP hD hS)
theorem v_lstore {x : Int64} {j : Nat} (O : OKG E G cc own R0 tb) (d : decode cc pc = .ok (.lstore j, 2)) (hj : j + 1 < nLG G) (kk : V E G k n (pc + 2) (st2 lv j (.long x)) st w) : V E G k n pc lv (.long x :: st) w := by
  obtain ⟨p, R, s, m, args, below, meth, c, Q, A, nL, e⟩ := G
  intro H locs ls hl hP hD hS
  exact lv_lstore O.1 O.2.1 d hl hj rfl (fun ls2 hl2 => kk H locs ls2 hl2 hP hD hS)
theorem v_aload_n {x : Nat} {j : Fin 4} (O : OKG E G cc own R0 tb) (d : decode cc pc = .ok (.aload_n j, 1)) (hx : ldv lv (j : Nat) = some (.ref x)) (kk : V E G k n (pc + 1) lv (.ref x :: st) w) : V E G k n pc lv st w := by
  obtain ⟨p, R, s, m, args, below, meth, c, Q, A, nL, e⟩ := G
  intro H locs ls hl hP hD hS
  exact lv_aload_n O.1 O.2.1 d rfl (ldv_at hl hx) (kk H locs ls hl hP hD hS)
theorem v_aload {x : Nat} {j : Nat} (O : OKG E G cc own R0 tb) (d : decode cc pc = .ok (.aload j, 2)) (hx : ldv lv j = some (.ref x)) (kk : V E G k n (pc + 2) lv (.ref x :: st) w) : V E G k n pc lv st w := by
  obtain ⟨p, R, s, m, args, below, meth, c, Q, A, nL, e⟩ := G
  intro H locs ls hl hP hD hS
  exact lv_aload O.1 O.2.1 d (ldv_at hl hx) (kk H locs ls hl hP hD hS)
theorem v_astore_n {x : Nat} {j : Fin 4} (O : OKG E G cc own R0 tb) (d : decode cc pc = .ok (.astore_n j, 1)) (hj : (j : Nat) < nLG G) (kk : V E G k n (pc + 1) (st1 lv (j : Nat) (.ref x)) st w) : V E G k n pc lv (.ref x :: st) w := by
  obtain ⟨p, R, s, m, args, below, meth, c, Q, A, nL, e⟩ := G
  intro H locs ls hl hP hD hS
  exact lv_astore_n O.1 O.2.1 d rfl hl hj rfl (fun ls2 hl2 => kk H locs ls2 hl2 hP hD hS)
theorem v_astore {x : Nat} {j : Nat} (O : OKG E G cc own R0 tb) (d : decode cc pc = .ok (.astore j, 2)) (hj : j < nLG G) (kk : V E G k n (pc + 2) (st1 lv j (.ref x)) st w) : V E G k n pc lv (.ref x :: st) w := by
  obtain ⟨p, R, s, m, args, below, meth, c, Q, A, nL, e⟩ := G
  intro H locs ls hl hP hD hS
  exact lv_astore O.1 O.2.1 d hl hj rfl (fun ls2 hl2 => kk H locs ls2 hl2 hP hD hS)
theorem v_dload_n {x : UInt64} {j : Fin 4} (O : OKG E G cc own R0 tb) (d : decode cc pc = .ok (.dload_n j, 1)) (hx : ldv lv (j : Nat) = some (.double x)) (kk : V E G k n (pc + 1) lv (.double x :: st) w) : V E G k n pc lv st w := by
  obtain ⟨p, R, s, m, args, below, meth, c, Q, A, nL, e⟩ := G
  intro H locs ls hl hP hD hS
  exact lv_dload_n O.1 O.2.1 d rfl (ldv_at hl hx) (kk H locs ls hl hP hD hS)
theorem v_dload {x : UInt64} {j : Nat} (O : OKG E G cc own R0 tb) (d : decode cc pc = .ok (.dload j, 2)) (hx : ldv lv j = some (.double x)) (kk : V E G k n (pc + 2) lv (.double x :: st) w) : V E G k n pc lv st w := by
  obtain ⟨p, R, s, m, args, below, meth, c, Q, A, nL, e⟩ := G
  intro H locs ls hl hP hD hS
  exact lv_dload O.1 O.2.1 d (ldv_at hl hx) (kk H locs ls hl hP hD hS)
theorem v_dstore_n {x : UInt64} {j : Fin 4} (O : OKG E G cc own R0 tb) (d : decode cc pc = .ok (.dstore_n j, 1)) (hj : (j : Nat) + 1 < nLG G) (kk : V E G k n (pc + 1) (st2 lv (j : Nat) (.double x)) st w) : V E G k n pc lv (.double x :: st) w := by
  obtain ⟨p, R, s, m, args, below, meth, c, Q, A, nL, e⟩ := G
  intro H locs ls hl hP hD hS
  exact lv_dstore_n O.1 O.2.1 d rfl hl hj rfl (fun ls2 hl2 => kk H locs ls2 hl2 hP hD hS)
theorem v_dstore {x : UInt64} {j : Nat} (O : OKG E G cc own R0 tb) (d : decode cc pc = .ok (.dstore j, 2)) (hj : j + 1 < nLG G) (kk : V E G k n (pc + 2) (st2 lv j (.double x)) st w) : V E G k n pc lv (.double x :: st) w := by
  obtain ⟨p, R, s, m, args, below, meth, c, Q, A, nL, e⟩ := G
  intro H locs ls hl hP hD hS
  exact lv_dstore O.1 O.2.1 d hl hj rfl (fun ls2 hl2 => kk H locs ls2 hl2 hP hD hS)
theorem v_iinc {x : Int32} {i : Nat} {z : Int} (O : OKG E G cc own R0 tb) (d : decode cc pc = .ok (.iinc i z, 3)) (hx : ldv lv i = some (.int x)) (hj : i < nLG G) (kk : V E G k n (pc + 3) (st1 lv i (.int (x + Int32.ofInt z))) st w) : V E G k n pc lv st w := by
  obtain ⟨p, R, s, m, args, below, meth, c, Q, A, nL, e⟩ := G
  intro H locs ls hl hP hD hS
  obtain ⟨k9, hk9⟩ := ldv_mem hx
  exact lv_iinc (k := k9) O.1 O.2.1 d hl hk9 rfl hj rfl (fun ls2 hl2 => kk H locs ls2 hl2 hP hD hS)
theorem v_iincN {a b : Nat} {i : Nat} {z : Int} (O : OKG E G cc own R0 tb) (d : decode cc pc = .ok (.iinc i z, 3)) (hx : ldv lv i = some (.int (nI a))) (hz : Int32.ofInt z = nI b) (hj : i < nLG G) (kk : V E G k n (pc + 3) (st1 lv i (.int (nI (a + b)))) st w) : V E G k n pc lv st w :=
  v_iinc O d hx hj (by rw [hz, nI_add]; exact kk)
theorem v_iincD {a : Nat} {i : Nat} (O : OKG E G cc own R0 tb) (d : decode cc pc = .ok (.iinc i (-1), 3)) (hx : ldv lv i = some (.int (nI (a + 1)))) (hj : i < nLG G) (kk : V E G k n (pc + 3) (st1 lv i (.int (nI a))) st w) : V E G k n pc lv st w :=
  v_iinc O d hx hj (by rw [show (Int32.ofInt (-1)) = (-1 : Int32) from rfl, pk_m1]; exact kk)
theorem v_iadd {x y : Int32} (O : OKG E G cc own R0 tb) (d : decode cc pc = .ok (.iadd, 1)) (kk : V E G k n (pc + 1) lv (.int (x + y) :: st) w) : V E G k n pc lv (.int y :: .int x :: st) w := by
  obtain ⟨p, R, s, m, args, below, meth, c, Q, A, nL, e⟩ := G
  intro H locs ls hl hP hD hS
  exact lv_iadd O.1 O.2.1 d (kk H locs ls hl hP hD hS)
theorem v_isub {x y : Int32} (O : OKG E G cc own R0 tb) (d : decode cc pc = .ok (.isub, 1)) (kk : V E G k n (pc + 1) lv (.int (x - y) :: st) w) : V E G k n pc lv (.int y :: .int x :: st) w := by
  obtain ⟨p, R, s, m, args, below, meth, c, Q, A, nL, e⟩ := G
  intro H locs ls hl hP hD hS
  exact lv_isub O.1 O.2.1 d (kk H locs ls hl hP hD hS)
theorem v_imul {x y : Int32} (O : OKG E G cc own R0 tb) (d : decode cc pc = .ok (.imul, 1)) (kk : V E G k n (pc + 1) lv (.int (x * y) :: st) w) : V E G k n pc lv (.int y :: .int x :: st) w := by
  obtain ⟨p, R, s, m, args, below, meth, c, Q, A, nL, e⟩ := G
  intro H locs ls hl hP hD hS
  exact lv_imul O.1 O.2.1 d (kk H locs ls hl hP hD hS)
theorem v_iand {x y : Int32} (O : OKG E G cc own R0 tb) (d : decode cc pc = .ok (.iand, 1)) (kk : V E G k n (pc + 1) lv (.int (x &&& y) :: st) w) : V E G k n pc lv (.int y :: .int x :: st) w := by
  obtain ⟨p, R, s, m, args, below, meth, c, Q, A, nL, e⟩ := G
  intro H locs ls hl hP hD hS
  exact lv_iand O.1 O.2.1 d (kk H locs ls hl hP hD hS)
theorem v_ior {x y : Int32} (O : OKG E G cc own R0 tb) (d : decode cc pc = .ok (.ior, 1)) (kk : V E G k n (pc + 1) lv (.int (x ||| y) :: st) w) : V E G k n pc lv (.int y :: .int x :: st) w := by
  obtain ⟨p, R, s, m, args, below, meth, c, Q, A, nL, e⟩ := G
  intro H locs ls hl hP hD hS
  exact lv_ior O.1 O.2.1 d (kk H locs ls hl hP hD hS)
theorem v_ixor {x y : Int32} (O : OKG E G cc own R0 tb) (d : decode cc pc = .ok (.ixor, 1)) (kk : V E G k n (pc + 1) lv (.int (x ^^^ y) :: st) w) : V E G k n pc lv (.int y :: .int x :: st) w := by
  obtain ⟨p, R, s, m, args, below, meth, c, Q, A, nL, e⟩ := G
  intro H locs ls hl hP hD hS
  exact lv_ixor O.1 O.2.1 d (kk H locs ls hl hP hD hS)
theorem v_ishl {x y : Int32} (O : OKG E G cc own R0 tb) (d : decode cc pc = .ok (.ishl, 1)) (kk : V E G k n (pc + 1) lv (.int (x <<< (y &&& 31)) :: st) w) : V E G k n pc lv (.int y :: .int x :: st) w := by
  obtain ⟨p, R, s, m, args, below, meth, c, Q, A, nL, e⟩ := G
  intro H locs ls hl hP hD hS
  exact lv_ishl O.1 O.2.1 d (kk H locs ls hl hP hD hS)
theorem v_ishr {x y : Int32} (O : OKG E G cc own R0 tb) (d : decode cc pc = .ok (.ishr, 1)) (kk : V E G k n (pc + 1) lv (.int (x >>> (y &&& 31)) :: st) w) : V E G k n pc lv (.int y :: .int x :: st) w := by
  obtain ⟨p, R, s, m, args, below, meth, c, Q, A, nL, e⟩ := G
  intro H locs ls hl hP hD hS
  exact lv_ishr O.1 O.2.1 d (kk H locs ls hl hP hD hS)
theorem v_idiv {x y : Int32} (O : OKG E G cc own R0 tb) (d : decode cc pc = .ok (.idiv, 1)) (hne : ¬ y = 0) (kk : V E G k n (pc + 1) lv (.int (x / y) :: st) w) : V E G k n pc lv (.int y :: .int x :: st) w := by
  obtain ⟨p, R, s, m, args, below, meth, c, Q, A, nL, e⟩ := G
  intro H locs ls hl hP hD hS
  exact lv_idiv O.1 O.2.1 d hne (kk H locs ls hl hP hD hS)
theorem v_irem {x y : Int32} (O : OKG E G cc own R0 tb) (d : decode cc pc = .ok (.irem, 1)) (hne : ¬ y = 0) (kk : V E G k n (pc + 1) lv (.int (x - x / y * y) :: st) w) : V E G k n pc lv (.int y :: .int x :: st) w := by
  obtain ⟨p, R, s, m, args, below, meth, c, Q, A, nL, e⟩ := G
  intro H locs ls hl hP hD hS
  exact lv_irem O.1 O.2.1 d hne (kk H locs ls hl hP hD hS)
theorem v_ineg {x : Int32} (O : OKG E G cc own R0 tb) (d : decode cc pc = .ok (.ineg, 1)) (kk : V E G k n (pc + 1) lv (.int (-x) :: st) w) : V E G k n pc lv (.int x :: st) w := by
  obtain ⟨p, R, s, m, args, below, meth, c, Q, A, nL, e⟩ := G
  intro H locs ls hl hP hD hS
  exact lv_ineg O.1 O.2.1 d (kk H locs ls hl hP hD hS)
theorem v_ladd {x y : Int64} (O : OKG E G cc own R0 tb) (d : decode cc pc = .ok (.ladd, 1)) (kk : V E G k n (pc + 1) lv (.long (x + y) :: st) w) : V E G k n pc lv (.long y :: .long x :: st) w := by
  obtain ⟨p, R, s, m, args, below, meth, c, Q, A, nL, e⟩ := G
  intro H locs ls hl hP hD hS
  exact lv_ladd O.1 O.2.1 d (kk H locs ls hl hP hD hS)
theorem v_lsub {x y : Int64} (O : OKG E G cc own R0 tb) (d : decode cc pc = .ok (.lsub, 1)) (kk : V E G k n (pc + 1) lv (.long (x - y) :: st) w) : V E G k n pc lv (.long y :: .long x :: st) w := by
  obtain ⟨p, R, s, m, args, below, meth, c, Q, A, nL, e⟩ := G
  intro H locs ls hl hP hD hS
  exact lv_lsub O.1 O.2.1 d (kk H locs ls hl hP hD hS)
theorem v_lmul {x y : Int64} (O : OKG E G cc own R0 tb) (d : decode cc pc = .ok (.lmul, 1)) (kk : V E G k n (pc + 1) lv (.long (x * y) :: st) w) : V E G k n pc lv (.long y :: .long x :: st) w := by
  obtain ⟨p, R, s, m, args, below, meth, c, Q, A, nL, e⟩ := G
  intro H locs ls hl hP hD hS
  exact lv_lmul O.1 O.2.1 d (kk H locs ls hl hP hD hS)
theorem v_land {x y : Int64} (O : OKG E G cc own R0 tb) (d : decode cc pc = .ok (.land, 1)) (kk : V E G k n (pc + 1) lv (.long (x &&& y) :: st) w) : V E G k n pc lv (.long y :: .long x :: st) w := by
  obtain ⟨p, R, s, m, args, below, meth, c, Q, A, nL, e⟩ := G
  intro H locs ls hl hP hD hS
  exact lv_land O.1 O.2.1 d (kk H locs ls hl hP hD hS)
theorem v_lor {x y : Int64} (O : OKG E G cc own R0 tb) (d : decode cc pc = .ok (.lor, 1)) (kk : V E G k n (pc + 1) lv (.long (x ||| y) :: st) w) : V E G k n pc lv (.long y :: .long x :: st) w := by
  obtain ⟨p, R, s, m, args, below, meth, c, Q, A, nL, e⟩ := G
  intro H locs ls hl hP hD hS
  exact lv_lor O.1 O.2.1 d (kk H locs ls hl hP hD hS)
theorem v_ldiv {x y : Int64} (O : OKG E G cc own R0 tb) (d : decode cc pc = .ok (.ldiv, 1)) (hne : ¬ y = 0) (kk : V E G k n (pc + 1) lv (.long (x / y) :: st) w) : V E G k n pc lv (.long y :: .long x :: st) w := by
  obtain ⟨p, R, s, m, args, below, meth, c, Q, A, nL, e⟩ := G
  intro H locs ls hl hP hD hS
  exact lv_ldiv O.1 O.2.1 d hne (kk H locs ls hl hP hD hS)
theorem v_lshl {x : Int64} {y : Int32} (O : OKG E G cc own R0 tb) (d : decode cc pc = .ok (.lshl, 1)) (kk : V E G k n (pc + 1) lv (.long (x <<< (y.toInt64 &&& 63)) :: st) w) : V E G k n pc lv (.int y :: .long x :: st) w := by
  obtain ⟨p, R, s, m, args, below, meth, c, Q, A, nL, e⟩ := G
  intro H locs ls hl hP hD hS
  exact lv_lshl O.1 O.2.1 d rfl (kk H locs ls hl hP hD hS)
theorem v_i2l {x : Int32} (O : OKG E G cc own R0 tb) (d : decode cc pc = .ok (.i2l, 1)) (kk : V E G k n (pc + 1) lv (.long x.toInt64 :: st) w) : V E G k n pc lv (.int x :: st) w := by
  obtain ⟨p, R, s, m, args, below, meth, c, Q, A, nL, e⟩ := G
  intro H locs ls hl hP hD hS
  exact lv_i2l O.1 O.2.1 d rfl (kk H locs ls hl hP hD hS)
theorem v_i2d {x : Int32} (O : OKG E G cc own R0 tb) (d : decode cc pc = .ok (.i2d, 1)) (kk : V E G k n (pc + 1) lv (.double (FP.i2d x) :: st) w) : V E G k n pc lv (.int x :: st) w := by
  obtain ⟨p, R, s, m, args, below, meth, c, Q, A, nL, e⟩ := G
  intro H locs ls hl hP hD hS
  exact lv_i2d O.1 O.2.1 d (kk H locs ls hl hP hD hS)
theorem v_l2d {x : Int64} (O : OKG E G cc own R0 tb) (d : decode cc pc = .ok (.l2d, 1)) (kk : V E G k n (pc + 1) lv (.double (FP.l2d x) :: st) w) : V E G k n pc lv (.long x :: st) w := by
  obtain ⟨p, R, s, m, args, below, meth, c, Q, A, nL, e⟩ := G
  intro H locs ls hl hP hD hS
  exact lv_l2d O.1 O.2.1 d (kk H locs ls hl hP hD hS)
theorem v_ddiv {x y : UInt64} (O : OKG E G cc own R0 tb) (d : decode cc pc = .ok (.ddiv, 1)) (hne : vf_n64 (FP.ddiv x y)) (kk : V E G k n (pc + 1) lv (.double (FP.ddiv x y) :: st) w) : V E G k n pc lv (.double y :: .double x :: st) w := by
  obtain ⟨p, R, s, m, args, below, meth, c, Q, A, nL, e⟩ := G
  intro H locs ls hl hP hD hS
  exact lv_ddiv O.1 O.2.1 d hne (kk H locs ls hl hP hD hS)
theorem v_dcmp {x y : UInt64} {op : CmpOp} (O : OKG E G cc own R0 tb) (d : decode cc pc = .ok (.dcmp op, 1)) (kk : V E G k n (pc + 1) lv (.int (Op.cmpValue (FP.dcmp x y) op) :: st) w) : V E G k n pc lv (.double y :: .double x :: st) w := by
  obtain ⟨p, R, s, m, args, below, meth, c, Q, A, nL, e⟩ := G
  intro H locs ls hl hP hD hS
  exact lv_dcmp O.1 O.2.1 d (kk H locs ls hl hP hD hS)
theorem v_lcmp {x y : Int64} (O : OKG E G cc own R0 tb) (d : decode cc pc = .ok (.lcmp, 1)) (kk : V E G k n (pc + 1) lv (.int (lg_cmp x y) :: st) w) : V E G k n pc lv (.long y :: .long x :: st) w := by
  obtain ⟨p, R, s, m, args, below, meth, c, Q, A, nL, e⟩ := G
  intro H locs ls hl hP hD hS
  exact W.lcmp O.1 O.2.1 d (kk H locs ls hl hP hD hS)
theorem v_dup {v : Value} (O : OKG E G cc own R0 tb) (d : decode cc pc = .ok (.dup, 1)) (hv : v.category = 1) (kk : V E G k n (pc + 1) lv (v :: v :: st) w) : V E G k n pc lv (v :: st) w := by
  obtain ⟨p, R, s, m, args, below, meth, c, Q, A, nL, e⟩ := G
  intro H locs ls hl hP hD hS
  exact lv_dup O.1 O.2.1 d hv (kk H locs ls hl hP hD hS)
theorem v_dup2 {v u : Value} (O : OKG E G cc own R0 tb) (d : decode cc pc = .ok (.dup2, 1)) (hv : v.category = 1) (hu : u.category = 1) (kk : V E G k n (pc + 1) lv (v :: u :: v :: u :: st) w) : V E G k n pc lv (v :: u :: st) w := by
  obtain ⟨p, R, s, m, args, below, meth, c, Q, A, nL, e⟩ := G
  intro H locs ls hl hP hD hS
  exact lv_dup2_11 O.1 O.2.1 d hv hu (kk H locs ls hl hP hD hS)
theorem v_goto {z : Int} {tgt : Nat} (O : OKG E G cc own R0 tb) (d : decode cc pc = .ok (.goto z, 3)) (ht : (pc : Int) + z = (tgt : Int)) (kk : V E G k n tgt lv st w) : V E G k n pc lv st w := by
  obtain ⟨p, R, s, m, args, below, meth, c, Q, A, nL, e⟩ := G
  intro H locs ls hl hP hD hS
  exact lv_goto O.1 O.2.1 d ht (kk H locs ls hl hP hD hS)
theorem v_if_eq {x : Int32} {z : Int} {tgt : Nat} (O : OKG E G cc own R0 tb) (d : decode cc pc = .ok (.ifCond .eq z, 3)) (ht : (pc : Int) + z = (tgt : Int)) (kt : x = 0 → V E G k n tgt lv st w) (kf : ¬ x = 0 → V E G k n (pc + 3) lv st w) : V E G k n pc lv (.int x :: st) w := by
  obtain ⟨p, R, s, m, args, below, meth, c, Q, A, nL, e⟩ := G
  intro H locs ls hl hP hD hS
  exact lv_if_eq O.1 O.2.1 d ht (fun h => kt h H locs ls hl hP hD hS) (fun h => kf h H locs ls hl hP hD hS)
theorem v_icmp_eq {x y : Int32} {z : Int} {tgt : Nat} (O : OKG E G cc own R0 tb) (d : decode cc pc = .ok (.if_icmp .eq z, 3)) (ht : (pc : Int) + z = (tgt : Int)) (kt : x = y → V E G k n tgt lv st w) (kf : ¬ x = y → V E G k n (pc + 3) lv st w) : V E G k n pc lv (.int y :: .int x :: st) w := by
  obtain ⟨p, R, s, m, args, below, meth, c, Q, A, nL, e⟩ := G
  intro H locs ls hl hP hD hS
  exact lv_icmp_eq O.1 O.2.1 d ht (fun h => kt h H locs ls hl hP hD hS) (fun h => kf h H locs ls hl hP hD hS)
theorem v_if_ne {x : Int32} {z : Int} {tgt : Nat} (O : OKG E G cc own R0 tb) (d : decode cc pc = .ok (.ifCond .ne z, 3)) (ht : (pc : Int) + z = (tgt : Int)) (kt : ¬ x = 0 → V E G k n tgt lv st w) (kf : x = 0 → V E G k n (pc + 3) lv st w) : V E G k n pc lv (.int x :: st) w := by
  obtain ⟨p, R, s, m, args, below, meth, c, Q, A, nL, e⟩ := G
  intro H locs ls hl hP hD hS
  exact lv_if_ne O.1 O.2.1 d ht (fun h => kt h H locs ls hl hP hD hS) (fun h => kf h H locs ls hl hP hD hS)
theorem v_icmp_ne {x y : Int32} {z : Int} {tgt : Nat} (O : OKG E G cc own R0 tb) (d : decode cc pc = .ok (.if_icmp .ne z, 3)) (ht : (pc : Int) + z = (tgt : Int)) (kt : ¬ x = y → V E G k n tgt lv st w) (kf : x = y → V E G k n (pc + 3) lv st w) : V E G k n pc lv (.int y :: .int x :: st) w := by
  obtain ⟨p, R, s, m, args, below, meth, c, Q, A, nL, e⟩ := G
  intro H locs ls hl hP hD hS
  exact lv_icmp_ne O.1 O.2.1 d ht (fun h => kt h H locs ls hl hP hD hS) (fun h => kf h H locs ls hl hP hD hS)
theorem v_if_lt {x : Int32} {z : Int} {tgt : Nat} (O : OKG E G cc own R0 tb) (d : decode cc pc = .ok (.ifCond .lt z, 3)) (ht : (pc : Int) + z = (tgt : Int)) (kt : x < 0 → V E G k n tgt lv st w) (kf : ¬ x < 0 → V E G k n (pc + 3) lv st w) : V E G k n pc lv (.int x :: st) w := by
  obtain ⟨p, R, s, m, args, below, meth, c, Q, A, nL, e⟩ := G
  intro H locs ls hl hP hD hS
  exact lv_if_lt O.1 O.2.1 d ht (fun h => kt h H locs ls hl hP hD hS) (fun h => kf h H locs ls hl hP hD hS)
theorem v_icmp_lt {x y : Int32} {z : Int} {tgt : Nat} (O : OKG E G cc own R0 tb) (d : decode cc pc = .ok (.if_icmp .lt z, 3)) (ht : (pc : Int) + z = (tgt : Int)) (kt : x < y → V E G k n tgt lv st w) (kf : ¬ x < y → V E G k n (pc + 3) lv st w) : V E G k n pc lv (.int y :: .int x :: st) w := by
  obtain ⟨p, R, s, m, args, below, meth, c, Q, A, nL, e⟩ := G
  intro H locs ls hl hP hD hS
  exact lv_icmp_lt O.1 O.2.1 d ht (fun h => kt h H locs ls hl hP hD hS) (fun h => kf h H locs ls hl hP hD hS)
theorem v_if_ge {x : Int32} {z : Int} {tgt : Nat} (O : OKG E G cc own R0 tb) (d : decode cc pc = .ok (.ifCond .ge z, 3)) (ht : (pc : Int) + z = (tgt : Int)) (kt : 0 ≤ x → V E G k n tgt lv st w) (kf : ¬ 0 ≤ x → V E G k n (pc + 3) lv st w) : V E G k n pc lv (.int x :: st) w := by
  obtain ⟨p, R, s, m, args, below, meth, c, Q, A, nL, e⟩ := G
  intro H locs ls hl hP hD hS
  exact lv_if_ge O.1 O.2.1 d ht (fun h => kt h H locs ls hl hP hD hS) (fun h => kf h H locs ls hl hP hD hS)
theorem v_icmp_ge {x y : Int32} {z : Int} {tgt : Nat} (O : OKG E G cc own R0 tb) (d : decode cc pc = .ok (.if_icmp .ge z, 3)) (ht : (pc : Int) + z = (tgt : Int)) (kt : y ≤ x → V E G k n tgt lv st w) (kf : ¬ y ≤ x → V E G k n (pc + 3) lv st w) : V E G k n pc lv (.int y :: .int x :: st) w := by
  obtain ⟨p, R, s, m, args, below, meth, c, Q, A, nL, e⟩ := G
  intro H locs ls hl hP hD hS
  exact lv_icmp_ge O.1 O.2.1 d ht (fun h => kt h H locs ls hl hP hD hS) (fun h => kf h H locs ls hl hP hD hS)
theorem v_if_gt {x : Int32} {z : Int} {tgt : Nat} (O : OKG E G cc own R0 tb) (d : decode cc pc = .ok (.ifCond .gt z, 3)) (ht : (pc : Int) + z = (tgt : Int)) (kt : 0 < x → V E G k n tgt lv st w) (kf : ¬ 0 < x → V E G k n (pc + 3) lv st w) : V E G k n pc lv (.int x :: st) w := by
  obtain ⟨p, R, s, m, args, below, meth, c, Q, A, nL, e⟩ := G
  intro H locs ls hl hP hD hS
  exact lv_if_gt O.1 O.2.1 d ht (fun h => kt h H locs ls hl hP hD hS) (fun h => kf h H locs ls hl hP hD hS)
theorem v_icmp_gt {x y : Int32} {z : Int} {tgt : Nat} (O : OKG E G cc own R0 tb) (d : decode cc pc = .ok (.if_icmp .gt z, 3)) (ht : (pc : Int) + z = (tgt : Int)) (kt : y < x → V E G k n tgt lv st w) (kf : ¬ y < x → V E G k n (pc + 3) lv st w) : V E G k n pc lv (.int y :: .int x :: st) w := by
  obtain ⟨p, R, s, m, args, below, meth, c, Q, A, nL, e⟩ := G
  intro H locs ls hl hP hD hS
  exact lv_icmp_gt O.1 O.2.1 d ht (fun h => kt h H locs ls hl hP hD hS) (fun h => kf h H locs ls hl hP hD hS)
theorem v_if_le {x : Int32} {z : Int} {tgt : Nat} (O : OKG E G cc own R0 tb) (d : decode cc pc = .ok (.ifCond .le z, 3)) (ht : (pc : Int) + z = (tgt : Int)) (kt : x ≤ 0 → V E G k n tgt lv st w) (kf : ¬ x ≤ 0 → V E G k n (pc + 3) lv st w) : V E G k n pc lv (.int x :: st) w := by
  obtain ⟨p, R, s, m, args, below, meth, c, Q, A, nL, e⟩ := G
  intro H locs ls hl hP hD hS
  exact lv_if_le O.1 O.2.1 d ht (fun h => kt h H locs ls hl hP hD hS) (fun h => kf h H locs ls hl hP hD hS)
theorem v_icmp_le {x y : Int32} {z : Int} {tgt : Nat} (O : OKG E G cc own R0 tb) (d : decode cc pc = .ok (.if_icmp .le z, 3)) (ht : (pc : Int) + z = (tgt : Int)) (kt : x ≤ y → V E G k n tgt lv st w) (kf : ¬ x ≤ y → V E G k n (pc + 3) lv st w) : V E G k n pc lv (.int y :: .int x :: st) w := by
  obtain ⟨p, R, s, m, args, below, meth, c, Q, A, nL, e⟩ := G
  intro H locs ls hl hP hD hS
  exact lv_icmp_le O.1 O.2.1 d ht (fun h => kt h H locs ls hl hP hD hS) (fun h => kf h H locs ls hl hP hD hS)
theorem v_tableIn {dflt lo hi : Int} {offs : Array Int} {len : Nat} {x : Int32} {off : Int} {tgt : Nat} (O : OKG E G cc own R0 tb) (d : decode cc pc = .ok (.tableswitch dflt lo hi offs, len)) (h1 : ¬ x.toInt < lo) (h2 : ¬ hi < x.toInt) (ho : offs[(x.toInt - lo).toNat]? = some off) (ht : (pc : Int) + off = (tgt : Int)) (kk : V E G k n tgt lv st w) : V E G k n pc lv (.int x :: st) w := by
  obtain ⟨p, R, s, m, args, below, meth, c, Q, A, nL, e⟩ := G
  intro H locs ls hl hP hD hS
  exact lv_tableIn O.1 O.2.1 d h1 h2 ho ht (kk H locs ls hl hP hD hS)
theorem v_tableOut {dflt lo hi : Int} {offs : Array Int} {len : Nat} {x : Int32} {tgt : Nat} (O : OKG E G cc own R0 tb) (d : decode cc pc = .ok (.tableswitch dflt lo hi offs, len)) (h : x.toInt < lo ∨ hi < x.toInt) (ht : (pc : Int) + dflt = (tgt : Int)) (kk : V E G k n tgt lv st w) : V E G k n pc lv (.int x :: st) w := by
  obtain ⟨p, R, s, m, args, below, meth, c, Q, A, nL, e⟩ := G
  intro H locs ls hl hP hD hS
  exact lv_tableOut O.1 O.2.1 d h ht (kk H locs ls hl hP hD hS)
-- in numbers: nI a stands for the natural number a
theorem v_iaddN {a b : Nat} (O : OKG E G cc own R0 tb) (d : decode cc pc = .ok (.iadd, 1)) (kk : V E G k n (pc + 1) lv (.int (nI (a + b)) :: st) w) : V E G k n pc lv (.int (nI b) :: .int (nI a) :: st) w := v_iadd O d (by rw [nI_add]; exact kk)
theorem v_imulN {a b : Nat} (O : OKG E G cc own R0 tb) (d : decode cc pc = .ok (.imul, 1)) (kk : V E G k n (pc + 1) lv (.int (nI (a * b)) :: st) w) : V E G k n pc lv (.int (nI b) :: .int (nI a) :: st) w := v_imul O d (by rw [pk_mul]; exact kk)
theorem v_isubN {a b : Nat} (O : OKG E G cc own R0 tb) (d : decode cc pc = .ok (.isub, 1)) (h : b ≤ a) (kk : V E G k n (pc + 1) lv (.int (nI (a - b)) :: st) w) : V E G k n pc lv (.int (nI b) :: .int (nI a) :: st) w := v_isub O d (by rw [pk_sub h]; exact kk)
theorem v_idivN {a b : Nat} (O : OKG E G cc own R0 tb) (d : decode cc pc = .ok (.idiv, 1)) (ha : a < 2 ^ 31) (h0 : 0 < b) (hb : b < 2 ^ 31) (kk : V E G k n (pc + 1) lv (.int (nI (a / b)) :: st) w) : V E G k n pc lv (.int (nI b) :: .int (nI a) :: st) w := v_idiv O d (nI_ne0 h0 hb) (by rw [pk_div ha h0 hb]; exact kk)
theorem v_iremN {a b : Nat} (O : OKG E G cc own R0 tb) (d : decode cc pc = .ok (.irem, 1)) (ha : a < 2 ^ 31) (h0 : 0 < b) (hb : b < 2 ^ 31) (kk : V E G k n (pc + 1) lv (.int (nI (a % b)) :: st) w) : V E G k n pc lv (.int (nI b) :: .int (nI a) :: st) w := v_irem O d (nI_ne0 h0 hb) (by rw [pk_rem ha h0 hb]; exact kk)
theorem v_icmpN_ge {a b : Nat} {z : Int} {tgt : Nat} (O : OKG E G cc own R0 tb) (d : decode cc pc = .ok (.if_icmp .ge z, 3)) (ht : (pc : Int) + z = (tgt : Int)) (ha : a < 2 ^ 31) (hb : b < 2 ^ 31) (kt : b ≤ a → V E G k n tgt lv st w) (kf : a < b → V E G k n (pc + 3) lv st w) : V E G k n pc lv (.int (nI b) :: .int (nI a) :: st) w := v_icmp_ge O d ht (fun h => kt ((nI_leI hb ha).mp h)) (fun h => kf (Nat.lt_of_not_le (fun q => h ((nI_leI hb ha).mpr q))))
theorem v_icmpN_gt {a b : Nat} {z : Int} {tgt : Nat} (O : OKG E G cc own R0 tb) (d : decode cc pc = .ok (.if_icmp .gt z, 3)) (ht : (pc : Int) + z = (tgt : Int)) (ha : a < 2 ^ 31) (hb : b < 2 ^ 31) (kt : b < a → V E G k n tgt lv st w) (kf : a ≤ b → V E G k n (pc + 3) lv st w) : V E G k n pc lv (.int (nI b) :: .int (nI a) :: st) w := v_icmp_gt O d ht (fun h => kt ((nI_ltI hb ha).mp h)) (fun h => kf (Nat.le_of_not_lt (fun q => h ((nI_ltI hb ha).mpr q))))
theorem v_icmpN_le {a b : Nat} {z : Int} {tgt : Nat} (O : OKG E G cc own R0 tb) (d : decode cc pc = .ok (.if_icmp .le z, 3)) (ht : (pc : Int) + z = (tgt : Int)) (ha : a < 2 ^ 31) (hb : b < 2 ^ 31) (kt : a ≤ b → V E G k n tgt lv st w) (kf : b < a → V E G k n (pc + 3) lv st w) : V E G k n pc lv (.int (nI b) :: .int (nI a) :: st) w := v_icmp_le O d ht (fun h => kt ((nI_leI ha hb).mp h)) (fun h => kf (Nat.lt_of_not_le (fun q => h ((nI_leI ha hb).mpr q))))
theorem v_icmpN_lt {a b : Nat} {z : Int} {tgt : Nat} (O : OKG E G cc own R0 tb) (d : decode cc pc = .ok (.if_icmp .lt z, 3)) (ht : (pc : Int) + z = (tgt : Int)) (ha : a < 2 ^ 31) (hb : b < 2 ^ 31) (kt : a < b → V E G k n tgt lv st w) (kf : b ≤ a → V E G k n (pc + 3) lv st w) : V E G k n pc lv (.int (nI b) :: .int (nI a) :: st) w := v_icmp_lt O d ht (fun h => kt ((nI_ltI ha hb).mp h)) (fun h => kf (Nat.le_of_not_lt (fun q => h ((nI_ltI ha hb).mpr q))))
theorem v_icmpN_eq {a b : Nat} {z : Int} {tgt : Nat} (O : OKG E G cc own R0 tb) (d : decode cc pc = .ok (.if_icmp .eq z, 3)) (ht : (pc : Int) + z = (tgt : Int)) (ha : a < 2 ^ 31) (hb : b < 2 ^ 31) (kt : a = b → V E G k n tgt lv st w) (kf : a ≠ b → V E G k n (pc + 3) lv st w) : V E G k n pc lv (.int (nI b) :: .int (nI a) :: st) w := v_icmp_eq O d ht (fun h => kt ((nI_eq ha hb).mp h)) (fun h => kf (fun q => h ((nI_eq ha hb).mpr q)))
theorem v_icmpN_ne {a b : Nat} {z : Int} {tgt : Nat} (O : OKG E G cc own R0 tb) (d : decode cc pc = .ok (.if_icmp .ne z, 3)) (ht : (pc : Int) + z = (tgt : Int)) (ha : a < 2 ^ 31) (hb : b < 2 ^ 31) (kt : a ≠ b → V E G k n tgt lv st w) (kf : a = b → V E G k n (pc + 3) lv st w) : V E G k n pc lv (.int (nI b) :: .int (nI a) :: st) w := v_icmp_ne O d ht (fun h => kt (fun q => h ((nI_eq ha hb).mpr q))) (fun h => kf ((nI_eq ha hb).mp h))
theorem v_ifN_eq {a : Nat} {z : Int} {tgt : Nat} (O : OKG E G cc own R0 tb) (d : decode cc pc = .ok (.ifCond .eq z, 3)) (ht : (pc : Int) + z = (tgt : Int)) (ha : a < 2 ^ 31) (kt : a = 0 → V E G k n tgt lv st w) (kf : 0 < a → V E G k n (pc + 3) lv st w) : V E G k n pc lv (.int (nI a) :: st) w := v_if_eq O d ht (fun h => kt (by rcases Nat.eq_zero_or_pos a with q | q; exact q; exact absurd h (nI_ne0 q ha))) (fun h => kf (by rcases Nat.eq_zero_or_pos a with q | q; exact absurd (by rw [q]; exact nI_0) h; exact q))
theorem v_ifN_ne {a : Nat} {z : Int} {tgt : Nat} (O : OKG E G cc own R0 tb) (d : decode cc pc = .ok (.ifCond .ne z, 3)) (ht : (pc : Int) + z = (tgt : Int)) (ha : a < 2 ^ 31) (kt : 0 < a → V E G k n tgt lv st w) (kf : a = 0 → V E G k n (pc + 3) lv st w) : V E G k n pc lv (.int (nI a) :: st) w := v_if_ne O d ht (fun h => kt (by rcases Nat.eq_zero_or_pos a with q | q; exact absurd (by rw [q]; exact nI_0) h; exact q)) (fun h => kf (by rcases Nat.eq_zero_or_pos a with q | q; exact q; exact absurd h (nI_ne0 q ha)))
theorem v_ifN_le {a : Nat} {z : Int} {tgt : Nat} (O : OKG E G cc own R0 tb) (d : decode cc pc = .ok (.ifCond .le z, 3)) (ht : (pc : Int) + z = (tgt : Int)) (ha : a < 2 ^ 31) (kt : a = 0 → V E G k n tgt lv st w) (kf : 0 < a → V E G k n (pc + 3) lv st w) : V E G k n pc lv (.int (nI a) :: st) w := v_if_le O d ht (fun h => kt (by rcases Nat.eq_zero_or_pos a with q | q; exact q; exact absurd h (nI_nle q ha))) (fun h => kf (by rcases Nat.eq_zero_or_pos a with q | q; exact absurd (by rw [q, nI_0]; decide) h; exact q))
theorem v_ifN_gt {a : Nat} {z : Int} {tgt : Nat} (O : OKG E G cc own R0 tb) (d : decode cc pc = .ok (.ifCond .gt z, 3)) (ht : (pc : Int) + z = (tgt : Int)) (ha : a < 2 ^ 31) (kt : 0 < a → V E G k n tgt lv st w) (kf : a = 0 → V E G k n (pc + 3) lv st w) : V E G k n pc lv (.int (nI a) :: st) w := v_if_gt O d ht (fun h => kt (by rcases Nat.eq_zero_or_pos a with q | q; exact absurd h (by rw [q, nI_0]; decide); exact q)) (fun h => kf (by rcases Nat.eq_zero_or_pos a with q | q; exact q; exact absurd (by have := nI_lt q ha; rw [nI_0] at this; exact this) h))
theorem v_ifN_lt {a : Nat} {z : Int} {tgt : Nat} (O : OKG E G cc own R0 tb) (d : decode cc pc = .ok (.ifCond .lt z, 3)) (ha : a < 2 ^ 31) (kf : V E G k n (pc + 3) lv st w) (tg : Nat) (ht : (pc : Int) + z = (tg : Int)) : V E G k n pc lv (.int (nI a) :: st) w := v_if_lt O d ht (fun h => absurd h (nI_pos ha)) (fun _ => kf)
theorem v_ifN_ge {a : Nat} {z : Int} {tgt : Nat} (O : OKG E G cc own R0 tb) (d : decode cc pc = .ok (.ifCond .ge z, 3)) (ht : (pc : Int) + z = (tgt : Int)) (ha : a < 2 ^ 31) (kt : V E G k n tgt lv st w) : V E G k n pc lv (.int (nI a) :: st) w := v_if_ge O d ht (fun _ => kt) (fun h => absurd (nI_pos' ha) h)
-- truth values: bI b is 1 or 0
end VR
