theorem j_ofW {l : Launch} {y : MethodName} {ws ws' : List Cond} {rm : Room} {as : List Value} {Qc : Array Value → State → Outcome → State → Prop} {mc ms : Nat} {cc : ByteArray} {maxL : Nat} {ret : Option FieldType} {D : va_G} {cy : Nat → ClassId} {o : Nat} {sK sV : Nat → Nat} {M : jT}
    (hy : plainName y.cls = true) (hw : ws = Cond.code y cc maxL ret :: ws') (hsl : (lg_sl as).length ≤ maxL)
    (body : ∀ (p : Program) (e : Env) (s : State) (m : MethodId) (args : Array Value) (below : List Frame) (meth : Method) (c : Code), p.tables.exec = Jvm.exec → c.code = cc → meth.sig.returnType = ret → meth.locks = false → c.maxLocals = maxL → s.vm.findClass y.cls = some m.cls → (∀ w ∈ ws, w.before args s = true) → va_K D jCl (tysF cy) s → SX o sK sV s → ∀ (H : Heap) (locs : List Loc), GM D cy o M s.heap H locs → ∀ ls : Array Slot, lv_has ls maxL (lv_args 0 as) → ∀ Qf : State → Prop, Qf = MQ below Qc args s mc ms (oA o) → W p l e rm s m args below meth c H locs 0 0 Qf (F0 m 0 ls [])) :
    Met l y ws rm (va_Pc as (GP D cy o sK sV M)) Qc mc ms (oA o) := by
  refine Met.ofW (cc := cc) (maxL := maxL) (ret := ret) hy hw ?_
  intro p e s m args below meth c s₁ B hml hv
  obtain ⟨ha, hP, hK, hSX⟩ := hv
  have hl := lv_entry as (n := maxL) hsl
  rw [ha, lg_entry_eq]
  exact body p e s m as.toArray below meth c B.exec B.bytes B.returns B.notSynchronized hml (findClass_of_methodNamed B.named) (fun w h => by rw [← ha]; exact atoms_spec (ws := ws) B.pre w h) hK hSX _ _ ⟨hP, va_S.rf⟩ _ hl _ rfl
