/-! the two worlds: the class's (18 cells) and the reference's (9 cells), in numbers -/
def WX (E : ET) (ad : Nat → Nat) (n t dr : Nat) (pw pe : Nat → Nat) (mk : Nat → Bool) (len : Nat) (cod : Nat → Nat) (fr : Bool) (ls lc u v : Nat) (su sp : Nat → Nat) (tot spr : Nat → Int64) (mm : Nat) (fs fc fw : Nat → Nat) (sc : Nat → Int64) (fe : Nat → Nat) : va_W :=
  [(ad 0, .inr (4, [.ref (ad 1), .ref (ad 2), .ref (ad 3), .ref (ad 4)])),
   (ad 1, .inr (1, [.int (nI n), .int (nI t), .int (nI dr), .ref (ad 5), .ref (ad 6), .ref (ad 7)])),
   (ad 2, .inr (3, [.int (nI len), .ref (ad 8)])),
   (ad 3, .inr (2, [.int (bI fr), .int (nI ls), .int (nI lc), .ref u, .ref v, .ref (ad 9), .ref (ad 10)])),
   (ad 4, .inr (0, [.int (nI mm), .ref (ad 11), .ref (ad 12), .ref (ad 13), .ref (ad 14), .ref (ad 15)])),
   (ad 5, .inl (E.2.2 0, 768, .inl (fun q => nI (pw q)))),
   (ad 6, .inl (E.2.2 0, 16, .inl (fun q => nI (pe q)))),
   (ad 7, .inl (E.2.2 2, 16, .inl (fun q => bI (mk q)))),
   (ad 8, .inl (E.2.2 0, 64, .inl (fun q => nI (cod q)))),
   (ad 9, .inl (E.2.2 1, 16, .inr (.inl tot))),
   (ad 10, .inl (E.2.2 1, 16, .inr (.inl spr))),
   (ad 11, .inl (E.2.2 0, 8, .inl (fun q => nI (fs q)))),
   (ad 12, .inl (E.2.2 0, 8, .inl (fun q => nI (fc q)))),
   (ad 13, .inl (E.2.2 0, 8, .inl (fun q => nI (fw q)))),
   (ad 14, .inl (E.2.2 1, 8, .inr (.inl sc))),
   (ad 15, .inl (E.2.2 0, 48, .inl (fun q => nI (fe q)))),
   (u, .inl (E.2.2 0, 768, .inl (fun q => nI (su q)))),
   (v, .inl (E.2.2 0, 768, .inl (fun q => nI (sp q))))]
def WM (E : ET) (ad : Nat → Nat) (th n t dr ms : Nat) (pe pw : Nat → Nat) (len : Nat) (cod : Nat → Nat) (mm : Nat) (fs fc fw : Nat → Nat) (sc : Nat → Int64) (li : Nat → Nat) (lm ls lq hs : Int64) : va_W :=
  [(ad 0, .inr (5, [.int (nI th), .int (nI n), .int (nI t), .int (nI dr), .int (nI ms), .ref (ad 1), .ref (ad 2), .int (nI len), .ref (ad 3), .int (nI mm), .ref (ad 4), .ref (ad 5), .ref (ad 6), .ref (ad 7), .ref (ad 8), .long lm, .long ls, .long lq, .long hs])),
   (ad 1, .inl (E.2.2 0, 16, .inl (fun q => nI (pe q)))),
   (ad 2, .inl (E.2.2 0, 768, .inl (fun q => nI (pw q)))),
   (ad 3, .inl (E.2.2 0, 64, .inl (fun q => nI (cod q)))),
   (ad 4, .inl (E.2.2 0, 8, .inl (fun q => nI (fs q)))),
   (ad 5, .inl (E.2.2 0, 8, .inl (fun q => nI (fc q)))),
   (ad 6, .inl (E.2.2 0, 8, .inl (fun q => nI (fw q)))),
   (ad 7, .inl (E.2.2 1, 8, .inr (.inl sc))),
   (ad 8, .inl (E.2.2 0, 48, .inl (fun q => nI (li q))))]
abbrev rmL (j : Nat) : Room := { frames := j, cells := 0, slots := 0, locals := 34 * j }
abbrev rmT (j : Nat) : Room := { frames := j, cells := 1, slots := 6, locals := 34 * j }
/-- comes back with r and the world w' -/
def pR (r : Option Value) (w' : va_W) : Option Value → va_W → Prop := fun r2 u => r2 = r ∧ u = w'
/-- throws X, the world as it was -/
def pX (X : String) (w' : va_W) : String → va_W → Prop := fun X2 u => X2 = X ∧ u = w'
section VD
variable {E : ET} {G : GT} {cc : ByteArray} {own : String} {R0 : Room} {tb : List ExceptionTableEntry} {k n pc : Nat} {lv : List (Nat × Value)} {st stk : List Value} {w w' : va_W} {r : Option Value}
variable {y : MethodName} {bytes : ByteArray} {maxL index a ci : Nat} {ret : Option FieldType} {rm : Room} {As : List Value} {fs : List Value} {T : u_T} {N : Nat} {X : String} {mc ms : Nat}
theorem v_V (O : OKG E G cc own R0 tb) (d : decode cc pc = .ok (.invokevirtual index, 3)) (Lk : LkV own index y (.code y bytes maxL ret) As.length) (M : Ctr E y (.code y bytes maxL ret) rm (.ref a :: As) w (pR r w') noX 0 0) (q0 : Nat) (he : w[q0]? = some (a, .inr (ci, fs))) (hc : vwCl[ci]? = some (y.cls, T, N)) (hst : stk = As.reverse ++ .ref a :: st) (hW : Nat.ble (st.map fun v => v.category).sum 8 = true) (hR : rmOK rm R0 maxL 0 0 0 0 = true) (hk : k ≤ R0.cells) (hn : n ≤ R0.slots)
    (kk : V E G k n (pc + 3) lv (r.toList ++ st) w') : V E G k n pc lv stk w :=
  v_callV O d Lk M q0 he hc hst hW (by
    obtain ⟨r1, r2, r3, r4, -, -⟩ := rmOK_spec hR
    simp only [rmOK, Bool.and_eq_true, beq_iff_eq, Nat.ble_eq]
    exact ⟨r1, r2, r3, r4, hk, hn⟩) (fun r2 u h => by obtain ⟨rfl, rfl⟩ := h; exact kk) kx_no
theorem v_VN (O : OKG E G cc own R0 tb) (d : decode cc pc = .ok (.invokevirtual index, 3)) (Lk : LkVN own index y (.code y bytes maxL ret) As.length) (M : Ctr E y (.code y bytes maxL ret) rm (.ref a :: As) w (pR r w') noX 0 0) (q0 : Nat) (he : w[q0]? = some (a, .inr (ci, fs))) (hc : vwCl[ci]? = some (y.cls, T, N)) (hst : stk = As.reverse ++ .ref a :: st) (hW : Nat.ble (st.map fun v => v.category).sum 8 = true) (hR : rmOK rm R0 maxL 0 0 0 0 = true) (hk : k ≤ R0.cells) (hn : n ≤ R0.slots)
    (kk : V E G k n (pc + 3) lv (r.toList ++ st) w') : V E G k n pc lv stk w :=
  v_callVN O d Lk M q0 he hc hst hW (by
    obtain ⟨r1, r2, r3, r4, -, -⟩ := rmOK_spec hR
    simp only [rmOK, Bool.and_eq_true, beq_iff_eq, Nat.ble_eq]
    exact ⟨r1, r2, r3, r4, hk, hn⟩) (fun r2 u h => by obtain ⟨rfl, rfl⟩ := h; exact kk) kx_no
theorem v_S (O : OKG E G cc own R0 tb) (d : decode cc pc = .ok (.invokestatic index, 3)) (Lk : LkS own index y (.code y bytes maxL ret) As.length) (M : Ctr E y (.code y bytes maxL ret) rm As w (pR r w') noX 0 0) (hst : stk = As.reverse ++ st) (hW : Nat.ble (st.map fun v => v.category).sum 8 = true) (hR : rmOK rm R0 maxL 0 0 0 0 = true) (hk : k ≤ R0.cells) (hn : n ≤ R0.slots)
    (kk : V E G k n (pc + 3) lv (r.toList ++ st) w') : V E G k n pc lv stk w :=
  v_callS O d Lk M hst hW (by
    obtain ⟨r1, r2, r3, r4, -, -⟩ := rmOK_spec hR
    simp only [rmOK, Bool.and_eq_true, beq_iff_eq, Nat.ble_eq]
    exact ⟨r1, r2, r3, r4, hk, hn⟩) (fun r2 u h => by obtain ⟨rfl, rfl⟩ := h; exact kk) kx_no
theorem v_SN (O : OKG E G cc own R0 tb) (d : decode cc pc = .ok (.invokestatic index, 3)) (Lk : LkSN own index y (.code y bytes maxL ret) As.length) (M : Ctr E y (.code y bytes maxL ret) rm As w (pR r w') noX 0 0) (hst : stk = As.reverse ++ st) (hW : Nat.ble (st.map fun v => v.category).sum 8 = true) (hR : rmOK rm R0 maxL 0 0 0 0 = true) (hk : k ≤ R0.cells) (hn : n ≤ R0.slots)
    (kk : V E G k n (pc + 3) lv (r.toList ++ st) w') : V E G k n pc lv stk w :=
  v_callSN O d Lk M hst hW (by
    obtain ⟨r1, r2, r3, r4, -, -⟩ := rmOK_spec hR
    simp only [rmOK, Bool.and_eq_true, beq_iff_eq, Nat.ble_eq]
    exact ⟨r1, r2, r3, r4, hk, hn⟩) (fun r2 u h => by obtain ⟨rfl, rfl⟩ := h; exact kk) kx_no
theorem v_ldc2 {v : Int64} (O : OKG E G cc own R0 tb) (d : decode cc pc = .ok (.ldc2_w index, 3)) (h : Cond.constantLong own index v ∈ GW) (kk : V E G k n (pc + 3) lv (.long v :: st) w) : V E G k n pc lv st w := by
  obtain ⟨p, R, s, m, args, below, meth, c, Q, A, nL, e⟩ := G
  obtain ⟨hx, hb, hml, hown, hts, -⟩ := O
  intro H locs ls hl hP hD hS
  exact lv_ldc2 hx hb hown (hts _ h) d (kk H locs ls hl hP hD hS)
end VD
