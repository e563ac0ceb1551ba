/-! calls over a part of the world; methods with handlers; objects and arrays made -/
section VJ
variable {E : ET} {G : GT} {cc : ByteArray} {own : String} {R0 : Room} {tb : List ExceptionTableEntry} {k n pc : Nat} {lv : List (Nat × Value)} {st stk : List Value} {w wa wb : va_W}
variable {post : Option Value → va_W → Prop} {px : String → va_W → Prop} {mc ms : Nat} {y : MethodName} {bytes : ByteArray} {maxL index a ci : Nat} {ret : Option FieldType} {rm : Room} {As : List Value} {fs : List Value} {T : u_T} {N : Nat}
theorem P_iff {D : va_G} {cl : List vw_C} {ws : va_W} {H : Heap} : va_P D cl ws H ↔ ∀ q ∈ ws, va_at D cl q H := by
  constructor
  · intro h q hq
    obtain ⟨i, hi⟩ := List.getElem?_of_mem hq
    exact h i q hi
  · intro h i q hi
    exact h q (List.mem_of_getElem? hi)
theorem D_iff {A : Nat → Prop} {ws : va_W} : va_D A ws ↔ ws.Pairwise (fun p q => p.1 ≠ q.1) ∧ ∀ q ∈ ws, A q.1 := by
  constructor
  · intro h
    refine ⟨?_, fun q hq => ?_⟩
    · rw [List.pairwise_iff_getElem]
      intro i j hi hj hij e
      have := h.1 i j _ _ (List.getElem?_eq_getElem hi) (List.getElem?_eq_getElem hj) e
      omega
    · obtain ⟨i, hi⟩ := List.getElem?_of_mem hq
      exact h.2 i q hi
  · intro h
    refine ⟨fun i j p q hi hj e => ?_, fun i q hi => h.2 q (List.mem_of_getElem? hi)⟩
    have h1 := List.pairwise_iff_getElem.mp h.1
    obtain ⟨hi1, hi2⟩ := List.getElem?_eq_some_iff.mp hi
    obtain ⟨hj1, hj2⟩ := List.getElem?_eq_some_iff.mp hj
    rcases Nat.lt_trichotomy i j with c | c | c
    · exact absurd (by rw [hi2, hj2]; exact e) (h1 i j hi1 hj1 c)
    · exact c
    · exact absurd (by rw [hi2, hj2]; exact e.symm) (h1 j i hj1 hi1 c)
theorem P_app {D : va_G} {cl : List vw_C} {w1 w2 : va_W} {H : Heap} : va_P D cl (w1 ++ w2) H ↔ va_P D cl w1 H ∧ va_P D cl w2 H := by
  simp only [P_iff, List.mem_append]
  exact ⟨fun h => ⟨fun q hq => h q (Or.inl hq), fun q hq => h q (Or.inr hq)⟩, fun h q hq => hq.elim (h.1 q) (h.2 q)⟩
theorem D_app {A : Nat → Prop} {w1 w2 : va_W} : va_D A (w1 ++ w2) ↔ va_D A w1 ∧ va_D A w2 ∧ ∀ p ∈ w1, ∀ q ∈ w2, p.1 ≠ q.1 := by
  simp only [D_iff, List.pairwise_append, List.mem_append]
  constructor
  · rintro ⟨⟨h1, h2, h3⟩, h4⟩
    exact ⟨⟨h1, fun q hq => h4 q (Or.inl hq)⟩, ⟨h2, fun q hq => h4 q (Or.inr hq)⟩, h3⟩
  · rintro ⟨⟨h1, h2⟩, ⟨h3, h4⟩, h5⟩
    exact ⟨⟨h1, h3, h5⟩, fun q hq => hq.elim (h2 q) (h4 q)⟩
theorem A_mem {ws : va_W} {sz : Nat} {q : Nat} (h : va_A ws sz q) : (∃ e, (q, e) ∈ ws) ∨ sz ≤ q := by
  rcases h with ⟨i, e, h⟩ | h
  · exact Or.inl ⟨e, List.mem_of_getElem? h⟩
  · exact Or.inr h
theorem joinPD {A : Nat → Prop} {u : va_W} {H H1 : Heap} {D : va_G} {cl : List vw_C} (hP : va_P D cl (wa ++ (w ++ wb)) H) (hD : va_D A (wa ++ (w ++ wb))) (hf : ∀ q, va_A w H.size q → A q) (hk : ∀ q : Nat, q < H.size → ¬ va_A w H.size q → H1[q]? = H[q]?) (hP1 : va_P D cl u H1) (hD1 : va_D (va_A w H.size) u) : va_P D cl (wa ++ (u ++ wb)) H1 ∧ va_D A (wa ++ (u ++ wb)) := by
  obtain ⟨p1, p2⟩ := P_app.mp hP
  obtain ⟨p2, p3⟩ := P_app.mp p2
  obtain ⟨d1, d2, d3⟩ := D_app.mp hD
  obtain ⟨d4, d5, d6⟩ := D_app.mp d2
  have la : ∀ q ∈ wa, q.1 < H.size := fun q hq => (P_iff.mp p1 q hq).lt
  have lb : ∀ q ∈ wb, q.1 < H.size := fun q hq => (P_iff.mp p3 q hq).lt
  have na : ∀ q ∈ wa, ¬ va_A w H.size q.1 := fun q hq h => by
    rcases A_mem h with ⟨e, h⟩ | h
    · exact d3 q hq _ (List.mem_append_left _ h) rfl
    · have := la q hq; omega
  have nb : ∀ q ∈ wb, ¬ va_A w H.size q.1 := fun q hq h => by
    rcases A_mem h with ⟨e, h⟩ | h
    · exact d6 _ h q hq rfl
    · have := lb q hq; omega
  have du := D_iff.mp hD1
  refine ⟨P_app.mpr ⟨P_iff.mpr fun q hq => (P_iff.mp p1 q hq).kept (hk _ (la q hq) (na q hq)), P_app.mpr ⟨hP1, P_iff.mpr fun q hq => (P_iff.mp p3 q hq).kept (hk _ (lb q hq) (nb q hq))⟩⟩, ?_⟩
  refine D_app.mpr ⟨d1, D_app.mpr ⟨hD1.weaken (fun _ _ _ h => hf _ h), d5, fun p hp q hq e => ?_⟩, fun p hp q hq e => ?_⟩
  · exact nb q hq (by rw [← e]; exact du.2 p hp)
  · rcases List.mem_append.mp hq with h | h
    · exact na p hp (by rw [e]; exact du.2 q h)
    · exact d3 p hp q (List.mem_append_right _ h) e
theorem subP {H : Heap} {D : va_G} {cl : List vw_C} (hP : va_P D cl (wa ++ (w ++ wb)) H) : va_P D cl w H := (P_app.mp (P_app.mp hP).2).1
theorem subD {A : Nat → Prop} (hD : va_D A (wa ++ (w ++ wb))) : va_D A w := (D_app.mp (D_app.mp hD).2.1).1
theorem v_backJ {p : Program} {R : Room} {s : State} {m : MethodId} {args : Array Value} {below : List Frame} {meth : Method} {c : Code} {Q : State → Prop} {A : Nat → Prop} {nL : Nat} {e : Env} {H : Heap} {locs : List Loc} {ls : Array Slot} {rest stk : List Value} {pc2 mc ms : Nat} {a : Array Value} {pst : Option Value → va_W → Prop} {psx : String → va_W → Prop}
    (hA : ∀ q, s.heap.size ≤ q → A q) (hl : lv_has ls nL lv) (hP : va_P E.2.1 vwCl (wa ++ (w ++ wb)) H) (hD : va_D A (wa ++ (w ++ wb))) (hS : va_S A s.heap H locs)
    (run : vx_Run p E.1 e R s m args below meth c H locs k n mc ms (F0 m pc2 ls stk) rest (QC E pst (va_A w H.size) a) (XQ E psx (va_A w H.size)) (va_A w H.size))
    (kk : ∀ r u, pst r u → V E (p, R, s, m, args, below, meth, c, Q, A, nL, e) (k + mc) (n + ms) (pc2 + 3) lv (r.toList ++ rest) (wa ++ (u ++ wb)))
    (kx : ∀ X u, psx X u → VX E (p, R, s, m, args, below, meth, c, Q, A, nL, e) (k + mc) (n + ms) pc2 lv X (wa ++ (u ++ wb))) : W p E.1 e R s m args below meth c H locs k n Q (F0 m pc2 ls stk) := by
  have hD0 := subD hD
  have hf : ∀ q, va_A w H.size q → A q := fun q h => by
    rcases h with ⟨j, e, h⟩ | h
    · exact hD0.2 j (q, e) h
    · exact hA q (Nat.le_trans hS.1 h)
  intro T hT X
  rcases run T hT X with ⟨v, st₀, t, T', L, h0, X', hL, e1, e2, ⟨⟨r, u, hoc, hp, hP1, hD1⟩, hF⟩, hgo⟩ | ⟨q, st₀, t, T', L, X9, ce, h0, X', hL, e1, e2, ⟨u, hp, hP1, hD1, hF⟩, hcell, hcv, hcl, hsteps⟩
  · cases hoc
    obtain ⟨-, hk, hS1⟩ := vx_keep h0 e1 hS (fun q _ h => hf q h) hf hL hF
    obtain ⟨j1, j2⟩ := joinPD hP hD hf hk (by rw [e1]; exact hP1) hD1
    obtain ⟨t2, a1, b1⟩ := kk _ u hp T'.heap (locs ++ L) ls hl j1 j2 hS1 T' rfl X'
    exact ⟨t2, hgo t2 a1, b1⟩
  · obtain ⟨-, hk, hS1⟩ := vx_keep h0 e1 hS (fun q _ h => hf q h) hf hL hF
    obtain ⟨j1, j2⟩ := joinPD hP hD hf hk (by rw [e1]; exact hP1) hD1
    obtain ⟨t2, a1, b1⟩ := kx X9 u hp T'.heap (locs ++ L) ls rest q ce (by rw [e1]; exact hcell) hcv hcl hl j1 j2 hS1 T' rfl X'
    exact ⟨t2, hsteps.trans a1, b1⟩
theorem v_callVJ (O : OKG E G cc own R0 tb) (d : decode cc pc = .ok (.invokevirtual index, 3)) (Lk : LkV own index y (.code y bytes maxL ret) As.length) (M : Ctr E y (.code y bytes maxL ret) rm (.ref a :: As) w post px mc ms) (q0 : Nat) (he : w[q0]? = some (a, .inr (ci, fs))) (hc : vwCl[ci]? = some (y.cls, T, N)) (hst : stk = As.reverse ++ .ref a :: st) (hW : Nat.ble (st.map fun v => v.category).sum 8 = true) (hR : rm.cells = mc ∧ rm.slots = ms ∧ rm.frames + 1 ≤ R0.frames ∧ 8 + (maxL + 11) + rm.locals ≤ R0.locals ∧ k + mc ≤ R0.cells ∧ n + ms ≤ R0.slots)
    (kk : ∀ r u, post r u → V E G (k + mc) (n + ms) (pc + 3) lv (r.toList ++ st) (wa ++ (u ++ wb))) (kx : ∀ X u, px X u → VX E G (k + mc) (n + ms) pc lv X (wa ++ (u ++ wb))) : V E G k n pc lv stk (wa ++ (w ++ wb)) := by
  obtain ⟨p, R, s, m, args, below, meth, c, Q, A, nL, e⟩ := G
  obtain ⟨hx, hb, hml, hown, hts, hE, hlocks, hnt, hA, hH, hR2, htab⟩ := O
  obtain ⟨l1, l2, l3, l4, l5, l6⟩ := Lk
  obtain ⟨r1, r2, r3, r4, r5, r6⟩ := hR
  subst hR2
  intro H locs ls hl hP hD hS
  refine v_backJ (w := w) hA hl hP hD hS (vx_runV (Ts := GW) (C := y.cls) (bytes := bytes) (maxL := maxL) (ret := ret) (As := As) (b := a) (rest := st) ⟨hx, hb, hml, hown, hts⟩ (M H.size) ⟨callB_of As.length hts (gw_good l1) rfl r1 r2 (hts _ l5) (hts _ l2) l6 ⟨r3, r4⟩, hts _ l3, hts _ l4⟩ ⟨blind_of, ?_, fun U hU hW => pre_of hE hH hA (subP hP) (subD hD) hS U hU hW⟩ rfl rfl hl.1 hst ?_ d ⟨r5, r6⟩) kk kx
  · exact va_recv hE.1 (subP hP) hc he
  · show 2 * 0 + _ ≤ 8
    have := Nat.le_of_ble_eq_true hW
    omega
/-- the words of a static call of a method with handlers -/
def LkH (own : String) (index : Nat) (y : MethodName) (cd : Cond) (na : Nat) : Prop := cd ∈ GW ∧ Cond.methodLink own index y ∈ GW ∧ Cond.static y ∈ GW ∧ Cond.initialized y.cls ∈ GW ∧ (y.cls ≠ "java/lang/invoke/MethodHandle" ∧ y.cls ≠ "java/lang/invoke/VarHandle" ∧ (parseMethodDescriptor y.desc).map (fun d => d.parameters.length) = some na)
theorem v_callHJ {hh : List (Nat × Nat × Nat × Nat)} (O : OKG E G cc own R0 tb) (d : decode cc pc = .ok (.invokestatic index, 3)) (Lk : LkH own index y (.codeWith y bytes maxL ret hh) As.length) (M : Ctr E y (.codeWith y bytes maxL ret hh) rm As w post px mc ms) (hst : stk = As.reverse ++ st) (hW : Nat.ble (st.map fun v => v.category).sum 8 = true) (hR : rm.cells = mc ∧ rm.slots = ms ∧ rm.frames + 1 ≤ R0.frames ∧ 8 + (maxL + 11) + rm.locals ≤ R0.locals ∧ k + mc ≤ R0.cells ∧ n + ms ≤ R0.slots)
    (kk : ∀ r u, post r u → V E G (k + mc) (n + ms) (pc + 3) lv (r.toList ++ st) (wa ++ (u ++ wb))) (kx : ∀ X u, px X u → VX E G (k + mc) (n + ms) pc lv X (wa ++ (u ++ wb))) : V E G k n pc lv stk (wa ++ (w ++ wb)) := by
  obtain ⟨p, R, s, m, args, below, meth, c, Q, A, nL, e⟩ := G
  obtain ⟨hx, hb, hml, hown, hts, hE, hlocks, hnt, hA, hH, hR2, htab⟩ := O
  obtain ⟨l1, l2, l3, l5, l6⟩ := Lk
  obtain ⟨r1, r2, r3, r4, r5, r6⟩ := hR
  subst hR2
  intro H locs ls hl hP hD hS
  refine v_backJ (w := w) hA hl hP hD hS (vx_runSX (Ts := GW) (hh := hh) (bytes := bytes) (maxL := maxL) (ret := ret) (As := As) (rest := st) ⟨hx, hb, hml, hown, hts⟩ (M H.size) (vx_cwSW (Ts := GW) As.length hts (fun w9 h9 => ?_) rfl r1 r2 l6 ⟨r3, r4⟩) ⟨blind_of, fun U hU hW => pre_of hE hH hA (subP hP) (subD hD) hS U hU hW⟩ rfl rfl hl.1 hst ?_ d ⟨r5, r6⟩) kk kx
  · have h10 : w9 ∈ GW := by
      simp only [va_wsS, List.mem_append, List.mem_cons, List.not_mem_nil, or_false] at h9
      rcases h9 with (rfl | rfl | rfl) | (rfl | h)
      · exact l2
      · exact l3
      · exact l5
      · exact l1
      · exact h
    exact ⟨h10, good_of_word (List.mem_filter.mp h10).2⟩
  · show 2 * 0 + _ ≤ 8
    have := Nat.le_of_ble_eq_true hW
    omega
theorem ctr_ofH {y : MethodName} {cc : ByteArray} {maxL : Nat} {ret : Option FieldType} {hh : List (Nat × Nat × Nat × Nat)} {rm : Room} {av : List Value} {w : va_W} (hst : E.1.stackTraces = false) (hy : plainName y.cls = true) (hav : (lg_sl av).length ≤ maxL)
    (body : ∀ G : GT, OKG E G cc y.cls rm (tableOf hh) → OKR E G post px mc ms ret → nLG G = maxL → V E G 0 0 0 (lv_args 0 av) [] w) : Ctr E y (.codeWith y cc maxL ret hh) rm av w post px mc ms := by
  intro sz
  refine vx_ofWH (cc := cc) (maxL := maxL) (ret := ret) (hh := hh) hy rfl ?_
  intro p e s m args below meth c s₁ B hml hv
  obtain ⟨rfl, hsz, hE, hH, hP, hD0⟩ := hv
  subst hsz
  have hts := atoms_spec (ws := .codeWith y cc maxL ret hh :: GW) B.pre
  have hown : s.vm.findClass y.cls = some m.cls := findClass_of_methodNamed B.named
  have hl := lv_entry av (n := maxL) hav
  rw [lg_entry_eq]
  have htab : c.exceptionTable.toList = tableOf hh := vx_table (x := y) B (hts _ List.mem_cons_self)
  exact body (p, rm, s, m, av.toArray, below, meth, c, vx_MQ below (QC E post (va_A w s.heap.size)) (XQ E px (va_A w s.heap.size)) av.toArray s mc ms (va_A w s.heap.size), va_A w s.heap.size, maxL, e)
    ⟨B.exec, B.bytes, hml, hown, fun x hx => hts x (List.mem_cons_of_mem _ hx), hE, B.notSynchronized, hst, fun q h => Or.inr h, hH, rfl, htab⟩ ⟨rfl, B.returns⟩ rfl s.heap [] _ hl hP (hD0.self) va_S.rf
/-- the exception X is caught by the row x -/
theorem v_catch {X name : String} {pre suf : List ExceptionTableEntry} {x : ExceptionTableEntry} (O : OKG E G cc own R0 tb) (htb : tb = pre ++ x :: suf) (hpass : ∀ z ∈ pre, z.catchType ≠ 0 ∧ ∃ nm : String, Cond.classLink own z.catchType nm ∈ GW ∧ (X, nm) ∈ ncL) (hx : covers x pc = true) (h0 : x.catchType ≠ 0) (hlink : Cond.classLink own x.catchType name ∈ GW) (hcast : Cond.castable X name ∈ NWL)
    (kk : ∀ q : Nat, V E G k n x.handlerPc lv [.ref q] w) : VX E G k n pc lv X w := by
  obtain ⟨p, R, s, m, args, below, meth, c, Q, A, nL, e⟩ := G
  obtain ⟨hx1, hb, hml, hown, hts, hE, hlocks, hnt, hA, hH, hR, htab⟩ := O
  subst htb
  intro H locs ls rest q ce hcell hv hcl hl hP hD hS
  refine vx_catch hown pre x suf htab (fun z hz => Or.inr ?_) hx h0 (hts _ hlink) (nw_use hcast (hE.2.1 _ hcast)) hcell hv hcl (kk q H locs ls hl hP hD hS)
  obtain ⟨z1, nm, z2, z3⟩ := hpass z hz
  exact ⟨z1, nm, hts _ z2, hE.2.2.2 _ z3⟩
-- what is made
theorem v_newobj {C : String} (O : OKG E G cc own R0 tb) (d : decode cc pc = .ok (.new index, 3)) (hc : vwCl[ci]? = some (C, T, N)) (hu : ∀ w ∈ u_ws C T N, w ∈ GW) (ty : Nat → FieldType) (hty : ∀ k, k < N → parseFieldDescriptor (T k).2.2.1 = some (ty k)) (h1 : Cond.classLink own index C ∈ GW) (h2 : Cond.instantiable C N ∈ GW) (h3 : Cond.initialized C ∈ GW) (hfs : ∀ j, j < N → defaultValue (ty j) = vp_V fs j) (hk : k + 1 ≤ R0.cells) (hn : n + N ≤ R0.slots)
    (kk : ∀ q : Nat, V E G (k + 1) (n + N) (pc + 3) lv (.ref q :: st) (w ++ [(q, .inr (ci, fs))])) : V E G k n pc lv st w := by
  obtain ⟨p, R, s, m, args, below, meth, c, Q, A, nL, e⟩ := G
  obtain ⟨hx, hb, hml, hown, hts, hE, hlocks, hnt, hA, hH, hR2, htab⟩ := O
  subst hR2
  intro H locs ls hl hP hD hS
  exact va_new hx hb hts hu ty hty hown (hts _ h1) (hts _ h2) (hts _ h3) hE.1 hP hD hS hA hc hfs hk hn d (fun q H1 hP hD hS => kk q H1 locs ls hl hP hD hS)
theorem v_newarr {atype : ArrayType} {ty : FieldType} {a0 : vp_A} (O : OKG E G cc own R0 tb) (d : decode cc pc = .ok (.newarray atype, 2)) (i : Nat) (hi : (tysL E.2.2)[i]? = some (E.2.2 i, ty)) (hty : newarray.typeOf atype = ty) (hw : Cond.arrayClass ty ∈ GW) (hra : ∀ (U : State) (c : ClassId), va_RA U c ty → U.vm.findClass ("[" ++ ty.toString) = some c) (ha : ∀ cA : ClassId, vp_cell cA a0 = arrV cA N (fun _ => defaultValue ty)) (hN : N < 2 ^ 31) (hbytes : N * componentBytes ty ≤ 536870912) (hk : k + 1 ≤ R0.cells) (hn : n + N ≤ R0.slots)
    (kk : ∀ q : Nat, V E G (k + 1) (n + N) (pc + 2) lv (.ref q :: st) (w ++ [(q, .inl (E.2.2 i, a0))])) : V E G k n pc lv (.int (nI N) :: st) w := by
  obtain ⟨p, R, s, m, args, below, meth, c, Q, A, nL, e⟩ := G
  obtain ⟨hx, hb, hml, hown, hts, hE, hlocks, hnt, hA, hH, hR2, htab⟩ := O
  subst hR2
  intro H locs ls hl hP hD hS
  refine va_newa hx hb (by rw [hty]; exact hts _ hw) hty hE.1 hP hD hS hA ha (nI_pos hN) (nI_clamp hN) hbytes hk hn d (fun q cA H1 hK1 hP hD hS => ?_)
  have e1 := hra s _ (hE.1.2 i _ hi).2
  have e2 := hra s _ (hK1.2 (tysL E.2.2).length (cA, ty) (by rw [List.getElem?_append_right (Nat.le_refl _)]; simp)).2
  have e3 : cA = E.2.2 i := Option.some.inj (e2.symm.trans e1)
  subst e3
  exact kk q H1 locs ls hl hP hD hS
theorem v_objInit (O : OKG E G cc own R0 tb) (d : decode cc pc = .ok (.invokespecial index, 3)) (h1 : Cond.methodLink own index Lib.objectInit ∈ GW) (h2 : Cond.instanceMethod Lib.objectInit ∈ GW) (h3 : Cond.code Lib.objectInit ⟨#[0xb1]⟩ 1 none ∈ GW) (hf : 1 ≤ R0.frames) (hlo : (st.map fun v => v.category).sum + 12 ≤ R0.locals) (kk : V E G k n (pc + 3) lv st w) : V E G k n pc lv (.ref a :: st) w := by
  obtain ⟨p, R, s, m, args, below, meth, c, Q, A, nL, e⟩ := G
  obtain ⟨hx, hb, hml, hown, hts, hE, hlocks, hnt, hA, hH, hR2, htab⟩ := O
  subst hR2
  intro H locs ls hl hP hD hS
  refine W.objInit hx hb hown (hts _ h1) (hts _ h2) (hts _ h3) rfl (hl.1.trans hml.symm) rfl d hf ?_ (kk H locs ls hl hP hD hS)
  show 2 * 0 + _ + 12 ≤ _
  omega
/-- a constructor's words -/
def LkI (own : String) (index : Nat) (y : MethodName) (cd : Cond) (na : Nat) : Prop := cd ∈ GW ∧ Cond.methodLink own index y ∈ GW ∧ Cond.instanceMethod y ∈ GW ∧ Cond.initialized y.cls ∈ GW ∧ y.name = "<init>" ∧ (y.cls ≠ "java/lang/invoke/MethodHandle" ∧ y.cls ≠ "java/lang/invoke/VarHandle" ∧ (parseMethodDescriptor y.desc).map (fun d => d.parameters.length) = some na)
def LkIN (own : String) (index : Nat) (y : MethodName) (cd : Cond) (na : Nat) : Prop := cd ∈ GW ∧ Cond.methodLinkNest own index y RX4 ∈ NWL ∧ Cond.instanceMethod y ∈ GW ∧ Cond.initialized y.cls ∈ GW ∧ y.name = "<init>" ∧ (y.cls ≠ "java/lang/invoke/MethodHandle" ∧ y.cls ≠ "java/lang/invoke/VarHandle" ∧ (parseMethodDescriptor y.desc).map (fun d => d.parameters.length) = some na)
theorem v_callIJ (O : OKG E G cc own R0 tb) (d : decode cc pc = .ok (.invokespecial index, 3)) (Lk : LkI own index y (.code y bytes maxL none) As.length) (M : Ctr E y (.code y bytes maxL none) rm (.ref a :: As) w post px mc ms) (hst : stk = As.reverse ++ .ref a :: st) (hW : Nat.ble (st.map fun v => v.category).sum 8 = true) (hR : rm.cells = mc ∧ rm.slots = ms ∧ rm.frames + 1 ≤ R0.frames ∧ 8 + (maxL + 11) + rm.locals ≤ R0.locals ∧ k + mc ≤ R0.cells ∧ n + ms ≤ R0.slots)
    (kk : ∀ r u, post r u → V E G (k + mc) (n + ms) (pc + 3) lv (r.toList ++ st) (wa ++ (u ++ wb))) (kx : ∀ X u, px X u → VX E G (k + mc) (n + ms) pc lv X (wa ++ (u ++ wb))) : V E G k n pc lv stk (wa ++ (w ++ wb)) := by
  obtain ⟨p, R, s, m, args, below, meth, c, Q, A, nL, e⟩ := G
  obtain ⟨hx, hb, hml, hown, hts, hE, hlocks, hnt, hA, hH, hR2, htab⟩ := O
  obtain ⟨l1, l2, l3, l5, l4, l6⟩ := Lk
  obtain ⟨r1, r2, r3, r4, r5, r6⟩ := hR
  subst hR2
  intro H locs ls hl hP hD hS
  refine v_backJ (w := w) hA hl hP hD hS (vx_runI (Ts := GW) (bytes := bytes) (maxL := maxL) (As := As) (b := a) (rest := st) ⟨hx, hb, hml, hown, hts⟩ (M H.size) ⟨callB_of As.length hts (gw_good l1) rfl r1 r2 (hts _ l5) (hts _ l2) l6 ⟨r3, r4⟩, l4, hts _ l3⟩ ⟨blind_of, fun U hU hW => pre_of hE hH hA (subP hP) (subD hD) hS U hU hW⟩ rfl rfl hl.1 hst ?_ d ⟨r5, r6⟩) kk kx
  · show 2 * 0 + _ ≤ 8
    have := Nat.le_of_ble_eq_true hW
    omega
theorem v_callINJ (O : OKG E G cc own R0 tb) (d : decode cc pc = .ok (.invokespecial index, 3)) (Lk : LkIN own index y (.code y bytes maxL none) As.length) (M : Ctr E y (.code y bytes maxL none) rm (.ref a :: As) w post px mc ms) (hst : stk = As.reverse ++ .ref a :: st) (hW : Nat.ble (st.map fun v => v.category).sum 8 = true) (hR : rm.cells = mc ∧ rm.slots = ms ∧ rm.frames + 1 ≤ R0.frames ∧ 8 + (maxL + 11) + rm.locals ≤ R0.locals ∧ k + mc ≤ R0.cells ∧ n + ms ≤ R0.slots)
    (kk : ∀ r u, post r u → V E G (k + mc) (n + ms) (pc + 3) lv (r.toList ++ st) (wa ++ (u ++ wb))) (kx : ∀ X u, px X u → VX E G (k + mc) (n + ms) pc lv X (wa ++ (u ++ wb))) : V E G k n pc lv stk (wa ++ (w ++ wb)) := by
  obtain ⟨p, R, s, m, args, below, meth, c, Q, A, nL, e⟩ := G
  obtain ⟨hx, hb, hml, hown, hts, hE, hlocks, hnt, hA, hH, hR2, htab⟩ := O
  obtain ⟨l1, l2, l3, l5, l4, l6⟩ := Lk
  obtain ⟨r1, r2, r3, r4, r5, r6⟩ := hR
  subst hR2
  intro H locs ls hl hP hD hS
  refine v_backJ (w := w) hA hl hP hD hS (vx_runIN (Ts := GW) (host := RX4) (bytes := bytes) (maxL := maxL) (As := As) (b := a) (rest := st) ⟨hx, hb, hml, hown, hts⟩ (M H.size) ⟨va_cnB As.length hts (gw_good l1) rfl r1 r2 (hE.2.1 _ l2) (hts _ l5) l6 ⟨r3, r4⟩, l4, hts _ l3⟩ ⟨blind_of, fun U hU hW => pre_of hE hH hA (subP hP) (subD hD) hS U hU hW⟩ rfl rfl hl.1 hst ?_ d ⟨r5, r6⟩) kk kx
  · show 2 * 0 + _ ≤ 8
    have := Nat.le_of_ble_eq_true hW
    omega
end VJ
