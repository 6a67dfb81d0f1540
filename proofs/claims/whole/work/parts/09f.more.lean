section JAZ
variable {p : Program} {l : Launch} {e : Env} {R : Room} {s : State} {m : MethodId} {args : Array Value} {below : List Frame} {meth : Method} {c : Code} {H H0 : Heap} {locs : List Loc} {cells slots : Nat} {Q : State → Prop} {cc : ByteArray} {pc : Nat} {ls : Array Slot} {rest : List Value} {D : va_G} {cy : Nat → ClassId} {o : Nat} {M : jT}
theorem j_alenz_i (hx : p.tables.exec = Jvm.exec) (hb : c.code = cc) (hK : va_K D jCl (tysF cy) s) (hG : GM D cy o M H0 H locs) {k nz : Int} {n : Nat} (hz : (n : Int) = nz) (hk : kd k = 1000 + n) (hn : n < 99000) (hdg : decode cc pc = .ok (.arraylength, 1))
    (kk : W p l e R s m args below meth c H locs cells slots Q (F0 m (pc + 1) ls (.int (J nz) :: rest))) : W p l e R s m args below meth c H locs cells slots Q (F0 m pc ls (.ref (rA o k) :: rest)) := by
  subst hz
  exact j_alen_i hx hb hK hG hk hn hdg kk
theorem j_alenz_l (hx : p.tables.exec = Jvm.exec) (hb : c.code = cc) (hK : va_K D jCl (tysF cy) s) (hG : GM D cy o M H0 H locs) {k nz : Int} {n : Nat} (hz : (n : Int) = nz) (hk : kd k = 100000 + n) (hn : n < 100000) (hdg : decode cc pc = .ok (.arraylength, 1))
    (kk : W p l e R s m args below meth c H locs cells slots Q (F0 m (pc + 1) ls (.int (J nz) :: rest))) : W p l e R s m args below meth c H locs cells slots Q (F0 m pc ls (.ref (rA o k) :: rest)) := by
  subst hz
  exact j_alen_l hx hb hK hG hk hn hdg kk
theorem j_alenz_c (hx : p.tables.exec = Jvm.exec) (hb : c.code = cc) (hK : va_K D jCl (tysF cy) s) (hG : GM D cy o M H0 H locs) {k nz : Int} {n : Nat} (hz : (n : Int) = nz) (hk : kd k = 200000 + n) (hn : n < 100000) (hdg : decode cc pc = .ok (.arraylength, 1))
    (kk : W p l e R s m args below meth c H locs cells slots Q (F0 m (pc + 1) ls (.int (J nz) :: rest))) : W p l e R s m args below meth c H locs cells slots Q (F0 m pc ls (.ref (rA o k) :: rest)) := by
  subst hz
  exact j_alen_c hx hb hK hG hk hn hdg kk
end JAZ
