theorem j_ofWx {l : Launch} {y : MethodName} {ws ws' : List Cond} {rm : Room} {as : List Value} {Qc : Array Value → State → Outcome → State → Prop} {XC : String → State → State → Prop} {mc ms : Nat} {cc : ByteArray} {maxL : Nat} {ret : Option FieldType} {D : va_G} {cy : Nat → ClassId} {o : Nat} {sK sV : Nat → Nat} {M : jT}
    (hy : plainName y.cls = true) (hw : ws = Cond.code y cc maxL ret :: ws') (hsl : (lg_sl as).length ≤ maxL)
    (body : ∀ (p : Program) (e : Env) (s : State) (m : MethodId) (args : Array Value) (below : List Frame) (meth : Method) (c : Code), p.tables.exec = Jvm.exec → c.code = cc → meth.sig.returnType = ret → meth.locks = false → (∀ x ∈ c.exceptionTable.toList, False) → c.maxLocals = maxL → s.vm.findClass y.cls = some m.cls → (∀ w ∈ ws, w.before args s = true) → va_K D jCl (tysF cy) s → SX o sK sV s → ∀ (H : Heap) (locs : List Loc), s.heap.size ≤ H.size → GM D cy o M s.heap H locs → ∀ ls : Array Slot, lv_has ls maxL (lv_args 0 as) → ∀ Qf : State → Prop, Qf = vx_MQ below Qc XC args s mc ms (oA o) → W p l e rm s m args below meth c H locs 0 0 Qf (F0 m 0 ls [])) :
    vx_Met l y ws rm (va_Pc as (GP D cy o sK sV M)) Qc XC mc ms (oA o) := by
  refine vx_ofW (cc := cc) (maxL := maxL) (ret := ret) hy hw ?_
  intro p e s m args below meth c s₁ B hml hout hv
  obtain ⟨ha, hP, hK, hSX⟩ := hv
  have hl := lv_entry as (n := maxL) hsl
  rw [ha, lg_entry_eq]
  exact body p e s m as.toArray below meth c B.exec B.bytes B.returns B.notSynchronized hout hml (findClass_of_methodNamed B.named) (fun w h => by rw [← ha]; exact atoms_spec (ws := ws) B.pre w h) hK hSX _ _ (Nat.le_refl _) ⟨hP, va_S.rf⟩ _ hl _ rfl
theorem SX_U {o : Nat} {sK sV : Nat → Nat} {s : State} (h : SX o sK sV s) : vx_Zq Bundle.tN "UNASSIGNED_STACK" Bundle.steD (oA o) s s.heap ∧ vx_Zq Bundle.tN "SUPPRESSED_SENTINEL" Bundle.listD (oA o) s s.heap := ⟨h.2.1, h.2.2.1⟩
def exB : List Cond := dcL.map Cond.declares ++ exL.map fun x => Cond.castable x x
theorem SX_B {o : Nat} {sK sV : Nat → Nat} {s : State} {args : Array Value} (h : SX o sK sV s) : ∀ w ∈ exB, w.before args s = true := by
  intro w hw
  rcases List.mem_append.mp hw with h1 | h1
  · obtain ⟨x, hx, rfl⟩ := List.mem_map.mp h1
    exact va_Nw.use rfl (h.2.2.2.2.2.1 x hx)
  · obtain ⟨x, hx, rfl⟩ := List.mem_map.mp h1
    exact va_Nw.use rfl (h.2.2.2.2.2.2.1 x hx)
abbrev exNs : List String := ["java/lang/RuntimeException", "java/lang/Exception"]
section JX
variable {p : Program} {l : Launch} {e : Env} {R : Room} {s : State} {m : MethodId} {args : Array Value} {below : List Frame} {meth : Method} {c : Code} {H : Heap} {locs : List Loc} {cells slots : Nat} {Q : State → Prop} {cc : ByteArray} {pc : Nat} {ls : Array Slot} {rest : List Value} {D : va_G} {cy : Nat → ClassId} {o : Nat} {sK sV : Nat → Nat} {M : jT}
theorem j_throw (hx : p.tables.exec = Jvm.exec) (hb : c.code = cc) (hst : l.stackTraces = false) {own cls text : String} {ik is ic si xn mc ms : Nat} {ws : List Cond} {Qc : Array Value → State → Outcome → State → Prop} {X1 : Nat → jT → Prop} (hts : ∀ w ∈ ws, w.before args s = true) (hown : s.vm.findClass own = some m.cls) (hSX : SX o sK sV s) (hG : GM D cy o M s.heap H locs) (hml : c.maxLocals = ls.size)
    (hcls : Bundle.fit cls = true) (hk : Cond.classLink own ik cls ∈ ws) (hini : Cond.initialized cls ∈ ws) (hstr : sTab[si]? = some (own, is, text)) (hw1 : ∀ w ∈ (vx_atS own ic cls exNs).filter goodWord, w ∈ ws) (hw2 : ∀ w ∈ (vx_atS own ic cls exNs).filter (fun w => !goodWord w), w ∈ exB)
    (hgood : ∀ w ∈ Cond.classLink own ik cls :: Cond.initialized cls :: vx_atS own ic cls exNs, vx_ot w = true) (hxn : cls = exN xn)
    (d0 : decode cc pc = .ok (.new ik, 3)) (d3 : decode cc (pc + 3) = .ok (.dup, 1)) (d4 : decode cc (pc + 4) = .ok (.ldc_w is, 3)) (d6 : decode cc (pc + 7) = .ok (.invokespecial ic, 3)) (d9 : decode cc (pc + 10) = .ok (.athrow, 1)) (hout : ∀ x ∈ c.exceptionTable.toList, False)
    (hRf : 5 < R.frames) (hRl : (rest.map fun v => v.category).sum + 82 ≤ R.locals) (hRc : cells + 1 ≤ R.cells) (hRs : slots + 6 ≤ R.slots) (hlocks : meth.locks = false) (hX : X1 xn M) (hm : cells + 1 ≤ mc ∧ slots + 6 ≤ ms) :
    W p l e R s m args below meth c H locs cells slots (vx_MQ below Qc (jX D cy o X1) args s mc ms (oA o)) (F0 m pc ls rest) := by
  refine vx_throwSW (A := oA o) (names := exNs) hx hb hst hown hcls (by decide +kernel) (hts _ hk) (hts _ hini) (hSX.2.2.2.1 si _ hstr) (vx_hat (fun w h => hts w (hw1 w h)) hw2 (SX_B hSX)) hgood (SX_U hSX).1 (SX_U hSX).2 hG.2 hml.symm d0 d3 d4 d6 d9 (fun x hx => (hout x hx).elim) hRf hRl hRc hRs hlocks (fun t _ hz hk => ?_) hG.2.2.2 hm.1 hm.2
  refine ⟨(M, xn), hX, ⟨hxn, ?_⟩, ⟨Nat.le_trans hG.2.1 hz, fun q h1 h2 => ?_⟩⟩
  · exact hG.1.kept (fun k q hq => hk _ ((hG.1 k q hq).lt))
  · rw [hk q (Nat.lt_of_lt_of_le h1 hG.2.1)]; exact hG.2.2.1 q h1 h2
theorem j_xout {Qc : Array Value → State → Outcome → State → Prop} {X1 : Nat → jT → Prop} {x : Nat} {q : Addr} {ce : Cell} {mc ms : Nat} (hlocks : meth.locks = false) (hout : ∀ x ∈ c.exceptionTable.toList, False) (hG : GM D cy o M s.heap H locs) (hX : X1 x M) (h1 : H[q]? = some ce) (h2 : ce.vm = .none) (h3 : s.vm.findClass (exN x) = some ce.cls) (hm : cells ≤ mc ∧ slots ≤ ms) : vx_W p l e R s m args below meth c H locs cells slots (vx_MQ below Qc (jX D cy o X1) args s mc ms (oA o)) (F0 m pc ls rest) q :=
  vx_out (fun x hx => (hout x hx).elim) hlocks h1 h2 h3 (fun t ht hal => ⟨(M, x), hX, ⟨rfl, by show va_P _ _ _ t.heap; rw [ht]; exact hG.1⟩, hG.2.F ht⟩) hG.2.2.2 hm.1 hm.2
end JX
