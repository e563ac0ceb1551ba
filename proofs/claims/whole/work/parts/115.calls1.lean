section VD
variable {E : ET} {G : GT} {cc : ByteArray} {own : String} {R0 : Room} {tb : List ExceptionTableEntry} {k n pc : Nat} {lv : List (Nat × Value)} {st stk : List Value} {w w' : va_W} {v : Value}
variable {y : MethodName} {bytes : ByteArray} {maxL index a ci : Nat} {ret : Option FieldType} {rm : Room} {As : List Value} {fs : List Value} {T : u_T} {N : Nat} {X : String} {mc ms : Nat}
theorem v_V1 (O : OKG E G cc own R0 tb) (d : decode cc pc = .ok (.invokevirtual index, 3)) (Lk : LkV own index y (.code y bytes maxL ret) As.length) (M : Ctr E y (.code y bytes maxL ret) rm (.ref a :: As) w (pR (some v) w') noX 0 0) (q0 : Nat) (he : w[q0]? = some (a, .inr (ci, fs))) (hc : vwCl[ci]? = some (y.cls, T, N)) (hst : stk = As.reverse ++ .ref a :: st) (hW : Nat.ble (st.map fun v => v.category).sum 8 = true) (hR : rmOK rm R0 maxL 0 0 0 0 = true) (hk : k ≤ R0.cells) (hn : n ≤ R0.slots)
    (kk : V E G k n (pc + 3) lv (v :: st) w') : V E G k n pc lv stk w :=
  v_V O d Lk M q0 he hc hst hW hR hk hn kk
theorem v_V0 (O : OKG E G cc own R0 tb) (d : decode cc pc = .ok (.invokevirtual index, 3)) (Lk : LkV own index y (.code y bytes maxL ret) As.length) (M : Ctr E y (.code y bytes maxL ret) rm (.ref a :: As) w (pR none w') noX 0 0) (q0 : Nat) (he : w[q0]? = some (a, .inr (ci, fs))) (hc : vwCl[ci]? = some (y.cls, T, N)) (hst : stk = As.reverse ++ .ref a :: st) (hW : Nat.ble (st.map fun v => v.category).sum 8 = true) (hR : rmOK rm R0 maxL 0 0 0 0 = true) (hk : k ≤ R0.cells) (hn : n ≤ R0.slots)
    (kk : V E G k n (pc + 3) lv st w') : V E G k n pc lv stk w :=
  v_V O d Lk M q0 he hc hst hW hR hk hn kk
theorem v_VN1 (O : OKG E G cc own R0 tb) (d : decode cc pc = .ok (.invokevirtual index, 3)) (Lk : LkVN own index y (.code y bytes maxL ret) As.length) (M : Ctr E y (.code y bytes maxL ret) rm (.ref a :: As) w (pR (some v) w') noX 0 0) (q0 : Nat) (he : w[q0]? = some (a, .inr (ci, fs))) (hc : vwCl[ci]? = some (y.cls, T, N)) (hst : stk = As.reverse ++ .ref a :: st) (hW : Nat.ble (st.map fun v => v.category).sum 8 = true) (hR : rmOK rm R0 maxL 0 0 0 0 = true) (hk : k ≤ R0.cells) (hn : n ≤ R0.slots)
    (kk : V E G k n (pc + 3) lv (v :: st) w') : V E G k n pc lv stk w :=
  v_VN O d Lk M q0 he hc hst hW hR hk hn kk
theorem v_VN0 (O : OKG E G cc own R0 tb) (d : decode cc pc = .ok (.invokevirtual index, 3)) (Lk : LkVN own index y (.code y bytes maxL ret) As.length) (M : Ctr E y (.code y bytes maxL ret) rm (.ref a :: As) w (pR none w') noX 0 0) (q0 : Nat) (he : w[q0]? = some (a, .inr (ci, fs))) (hc : vwCl[ci]? = some (y.cls, T, N)) (hst : stk = As.reverse ++ .ref a :: st) (hW : Nat.ble (st.map fun v => v.category).sum 8 = true) (hR : rmOK rm R0 maxL 0 0 0 0 = true) (hk : k ≤ R0.cells) (hn : n ≤ R0.slots)
    (kk : V E G k n (pc + 3) lv st w') : V E G k n pc lv stk w :=
  v_VN O d Lk M q0 he hc hst hW hR hk hn kk
theorem v_S1 (O : OKG E G cc own R0 tb) (d : decode cc pc = .ok (.invokestatic index, 3)) (Lk : LkS own index y (.code y bytes maxL ret) As.length) (M : Ctr E y (.code y bytes maxL ret) rm As w (pR (some v) w') noX 0 0) (hst : stk = As.reverse ++ st) (hW : Nat.ble (st.map fun v => v.category).sum 8 = true) (hR : rmOK rm R0 maxL 0 0 0 0 = true) (hk : k ≤ R0.cells) (hn : n ≤ R0.slots)
    (kk : V E G k n (pc + 3) lv (v :: st) w') : V E G k n pc lv stk w :=
  v_S O d Lk M hst hW hR hk hn kk
theorem v_S0 (O : OKG E G cc own R0 tb) (d : decode cc pc = .ok (.invokestatic index, 3)) (Lk : LkS own index y (.code y bytes maxL ret) As.length) (M : Ctr E y (.code y bytes maxL ret) rm As w (pR none w') noX 0 0) (hst : stk = As.reverse ++ st) (hW : Nat.ble (st.map fun v => v.category).sum 8 = true) (hR : rmOK rm R0 maxL 0 0 0 0 = true) (hk : k ≤ R0.cells) (hn : n ≤ R0.slots)
    (kk : V E G k n (pc + 3) lv st w') : V E G k n pc lv stk w :=
  v_S O d Lk M hst hW hR hk hn kk
theorem v_SN1 (O : OKG E G cc own R0 tb) (d : decode cc pc = .ok (.invokestatic index, 3)) (Lk : LkSN own index y (.code y bytes maxL ret) As.length) (M : Ctr E y (.code y bytes maxL ret) rm As w (pR (some v) w') noX 0 0) (hst : stk = As.reverse ++ st) (hW : Nat.ble (st.map fun v => v.category).sum 8 = true) (hR : rmOK rm R0 maxL 0 0 0 0 = true) (hk : k ≤ R0.cells) (hn : n ≤ R0.slots)
    (kk : V E G k n (pc + 3) lv (v :: st) w') : V E G k n pc lv stk w :=
  v_SN O d Lk M hst hW hR hk hn kk
theorem v_SN0 (O : OKG E G cc own R0 tb) (d : decode cc pc = .ok (.invokestatic index, 3)) (Lk : LkSN own index y (.code y bytes maxL ret) As.length) (M : Ctr E y (.code y bytes maxL ret) rm As w (pR none w') noX 0 0) (hst : stk = As.reverse ++ st) (hW : Nat.ble (st.map fun v => v.category).sum 8 = true) (hR : rmOK rm R0 maxL 0 0 0 0 = true) (hk : k ≤ R0.cells) (hn : n ≤ R0.slots)
    (kk : V E G k n (pc + 3) lv st w') : V E G k n pc lv stk w :=
  v_SN O d Lk M hst hW hR hk hn kk
end VD
