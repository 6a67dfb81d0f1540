noncomputable section
/-! making: the cells one after the other; a world of the first n cells, told by a function -/
def oF (o : Nat) : Nat → Prop := fun q => o ≤ q
def wsC (o : Nat) (C : Nat → va_E) (n : Nat) : va_W := (List.range n).map fun i => (o + i, C i)
def upC (C : Nat → va_E) (k : Nat) (e : va_E) : Nat → va_E := fun i => if i = k then e else C i
theorem wsC_len (o : Nat) (C : Nat → va_E) (n : Nat) : (wsC o C n).length = n := by simp [wsC]
theorem wsC_get (o : Nat) (C : Nat → va_E) {n i : Nat} (h : i < n) : (wsC o C n)[i]? = some (o + i, C i) := by simp [wsC, List.getElem?_map, List.getElem?_range, h]
theorem wsC_congr {o : Nat} {C C' : Nat → va_E} {n : Nat} (h : ∀ i, i < n → C i = C' i) : wsC o C n = wsC o C' n := by
  apply List.ext_getElem?
  intro i
  by_cases hi : i < n
  · rw [wsC_get o C hi, wsC_get o C' hi, h i hi]
  · rw [List.getElem?_eq_none (by rw [wsC_len]; omega), List.getElem?_eq_none (by rw [wsC_len]; omega)]
theorem wsC_snoc (o : Nat) (C : Nat → va_E) (n : Nat) (e : va_E) : wsC o C n ++ [(o + n, e)] = wsC o (upC C n e) (n + 1) := by
  have h : wsC o (upC C n e) n = wsC o C n := wsC_congr (fun i hi => by unfold upC; rw [if_neg (by omega)])
  have h2 : wsC o (upC C n e) (n + 1) = wsC o (upC C n e) n ++ [(o + n, upC C n e n)] := by simp [wsC, List.range_succ]
  rw [h2, h]
  unfold upC; rw [if_pos rfl]
theorem wsC_set (o : Nat) (C : Nat → va_E) {n k : Nat} (hk : k < n) (e : va_E) : (wsC o C n).set k (o + k, e) = wsC o (upC C k e) n := by
  apply List.ext_getElem?
  intro i
  by_cases hi : i < n
  · rw [List.getElem?_set, wsC_len, wsC_get o (upC C k e) hi]
    by_cases e1 : k = i
    · subst e1; simp [hk, upC]
    · rw [if_neg e1, wsC_get o C hi]
      unfold upC; rw [if_neg (fun q => e1 q.symm)]
  · rw [List.getElem?_eq_none (by rw [List.length_set, wsC_len]; omega), List.getElem?_eq_none (by rw [wsC_len]; omega)]
theorem wsC_D (o : Nat) (C : Nat → va_E) (n : Nat) : va_D (oF o) (wsC o C n) := by
  refine ⟨fun i j p q hp hq e => ?_, fun k q hq => ?_⟩
  · have hi := (List.getElem?_eq_some_iff.mp hp).1
    have hj := (List.getElem?_eq_some_iff.mp hq).1
    rw [wsC_len] at hi hj
    rw [wsC_get o C hi] at hp
    rw [wsC_get o C hj] at hq
    cases hp; cases hq
    simp only at e; omega
  · have hi := (List.getElem?_eq_some_iff.mp hq).1
    rw [wsC_len] at hi
    rw [wsC_get o C hi] at hq
    cases hq
    exact Nat.le_add_right _ _
/-- the heap holds the first n cells; as many are new as have been counted -/
def GC (D : va_G) (o : Nat) (C : Nat → va_E) (n : Nat) (s : State) (H : Heap) (locs : List Loc) (cells : Nat) : Prop := va_P D jCl (wsC o C n) H ∧ va_S (oF o) s.heap H locs ∧ s.heap.size + cells ≤ o + n ∧ o ≤ s.heap.size
theorem GC.congr {D : va_G} {o : Nat} {C C' : Nat → va_E} {n : Nat} {s : State} {H : Heap} {locs : List Loc} {cells : Nat} (h : GC D o C n s H locs cells) (e : ∀ i, i < n → C i = C' i) : GC D o C' n s H locs cells := by
  obtain ⟨h1, h2⟩ := h
  rw [wsC_congr e] at h1
  exact ⟨h1, h2⟩
def aoL : List String := [RX0, RX4, RX5, RX7, RX9]
def NX (U : State) : Prop := (∀ q ∈ nsL, va_Nw (.methodLinkNest q.1 q.2.1 q.2.2.1 q.2.2.2) U) ∧ ∀ C ∈ aoL, va_AO C U
theorem NX.warm {s U : State} (hW : s.WarmedH U.vm) (h : NX s) : NX U := ⟨fun q hq => va_Nw.warmM hW (h.1 q hq), fun C hC => (h.2 C hC).moved hW.alike⟩
theorem NX.calls {U : State} {g : JFrame} {mk : MethodId} {a : Array Value} (h : NX U) : NX (U.calling g mk a) := ⟨fun q hq => va_Nw.same (U := U.calling g mk a) rfl rfl (h.1 q hq), fun C hC => va_AO.moved (U := U.calling g mk a) (Vm.Alike.refl U.vm) (h.2 C hC)⟩
theorem NX.nest {U : State} (h : NX U) {q : String × Nat × MethodName × String} (i : Nat) (hq : nsL[i]? = some q) : va_Nw (.methodLinkNest q.1 q.2.1 q.2.2.1 q.2.2.2) U := h.1 q (List.mem_of_getElem? hq)
theorem NX.ao {U : State} (h : NX U) (i : Nat) {C : String} (hC : aoL[i]? = some C) {A : Array Value} : (Cond.arrayOver (.object C)).before A U = true := va_AO.use (h.2 C (List.mem_of_getElem? hC))
def GPc (D : va_G) (cy : Nat → ClassId) (o : Nat) (C : Nat → va_E) (n : Nat) (U : State) : Prop := va_P D jCl (wsC o C n) U.heap ∧ va_K D jCl (tysF cy) U ∧ NX U ∧ U.heap.size ≤ o + n ∧ o ≤ U.heap.size
def CoK (l : Launch) (y : MethodName) (ws : List Cond) (rm : Room) (D : va_G) (cy : Nat → ClassId) (o : Nat) (as : List Value) (n : Nat) (C : Nat → va_E) (n' : Nat) (C' : Nat → va_E) : Prop :=
  Met l y ws rm (va_Pc as (GPc D cy o C n)) (va_Qv (fun _ : Unit => True) (fun _ t => va_P D jCl (wsC o C' n') t.heap) (oF o)) rm.cells rm.slots (oF o)
theorem k_ofW {l : Launch} {y : MethodName} {ws ws' : List Cond} {rm : Room} {as : List Value} {cc : ByteArray} {maxL : Nat} {ret : Option FieldType} {D : va_G} {cy : Nat → ClassId} {o n n' : Nat} {C C' : Nat → va_E}
    (hy : plainName y.cls = true) (hw : ws = Cond.code y cc maxL ret :: ws') (hsl : (lg_sl as).length ≤ maxL)
    (body : ∀ (p : Program) (e : Env) (s : State) (m : MethodId) (args : Array Value) (below : List Frame) (meth : Method) (c : Code), p.tables.exec = Jvm.exec → c.code = cc → meth.sig.returnType = ret → meth.locks = false → c.maxLocals = maxL → meth.name = y.name → s.vm.findClass y.cls = some m.cls → (∀ w ∈ ws, w.before args s = true) → va_K D jCl (tysF cy) s → NX s → ∀ (H : Heap) (locs : List Loc), GC D o C n s H locs 0 → ∀ ls : Array Slot, lv_has ls maxL (lv_args 0 as) → ∀ Qf : State → Prop, Qf = MQ below (va_Qv (fun _ : Unit => True) (fun _ t => va_P D jCl (wsC o C' n') t.heap) (oF o)) args s rm.cells rm.slots (oF o) → W p l e rm s m args below meth c H locs 0 0 Qf (F0 m 0 ls [])) :
    CoK l y ws rm D cy o as n C n' C' := by
  refine Met.ofW (cc := cc) (maxL := maxL) (ret := ret) hy hw ?_
  intro p e s m args below meth c s₁ B hml hv
  obtain ⟨ha, hP, hK, hNX, hsz, ho⟩ := hv
  have hl := lv_entry as (n := maxL) hsl
  rw [ha, lg_entry_eq]
  exact body p e s m as.toArray below meth c B.exec B.bytes B.returns B.notSynchronized hml (name_of_methodNamed B.named B.method).1 (findClass_of_methodNamed B.named) (fun w h => by rw [← ha]; exact atoms_spec (ws := ws) B.pre w h) hK hNX _ _ ⟨hP, va_S.rf, hsz, ho⟩ _ hl _ rfl
section JCR
variable {p : Program} {l : Launch} {e : Env} {R : Room} {s : State} {m : MethodId} {args : Array Value} {below : List Frame} {meth : Method} {c : Code} {H : Heap} {locs : List Loc} {cells slots : Nat} {Q : State → Prop} {cc : ByteArray} {pc : Nat} {ls : Array Slot} {rest : List Value} {D : va_G} {cy : Nat → ClassId} {o n : Nat} {C : Nat → va_E} {g : JFrame}
theorem k_sz (kk : H.size ≤ s.heap.size + cells → W p l e R s m args below meth c H locs cells slots Q g) : W p l e R s m args below meth c H locs cells slots Q g :=
  fun T hT X => kk (by rw [← hT]; exact X.heapSize) T hT X
/-- the address of the newest cell -/
theorem k_adr {H1 : Heap} {q : Nat} {x : va_E} (hP : va_P D jCl (wsC o C n ++ [(q, x)]) H1) (hD : va_D (oF o) (wsC o C n ++ [(q, x)])) (hs : s.heap.size + cells ≤ o + n) (hz : H1.size ≤ s.heap.size + (cells + 1)) : q = o + n := by
  have g1 : (wsC o C n ++ [(q, x)])[n]? = some (q, x) := by rw [List.getElem?_append_right (by rw [wsC_len]; omega), wsC_len]; simp
  have h1 := (hP n _ g1).lt
  have h2 : o ≤ q := hD.2 n _ g1
  have h1 : q < H1.size := h1
  by_cases c : q = o + n
  · exact c
  · exfalso
    have hi : q - o < n := by omega
    have g2 : (wsC o C n ++ [(q, x)])[q - o]? = some (o + (q - o), C (q - o)) := by rw [List.getElem?_append_left (by rw [wsC_len]; exact hi)]; exact wsC_get o C hi
    have := hD.1 n (q - o) _ _ g1 g2 (by show q = o + (q - o); omega)
    omega
theorem k_new (hx : p.tables.exec = Jvm.exec) (hb : c.code = cc) {own K : String} {T : u_T} {N ci index : Nat} {Ts : List Cond} (hts : ∀ w ∈ Ts, w.before args s = true) (hin : ∀ w ∈ u_ws K T N, w ∈ Ts) (ty : Nat → FieldType) (hty : ∀ k, k < N → parseFieldDescriptor (T k).2.2.1 = some (ty k)) (hown : s.vm.findClass own = some m.cls) (hcl : (Cond.classLink own index K).before args s = true) (hinst : (Cond.instantiable K N).before args s = true) (hini : (Cond.initialized K).before args s = true)
    (hK : va_K D jCl (tysF cy) s) (hG : GC D o C n s H locs cells) (hc : jCl[ci]? = some (K, T, N)) {fs : List Value} (hfs : ∀ j, j < N → defaultValue (ty j) = vp_V fs j) (hcells : cells + 1 ≤ R.cells) (hslots : slots + N ≤ R.slots) (hdg : decode cc pc = .ok (.new index, 3))
    (kk : ∀ H1 : Heap, GC D o (upC C n (.inr (ci, fs))) (n + 1) s H1 locs (cells + 1) → W p l e R s m args below meth c H1 locs (cells + 1) (slots + N) Q (F0 m (pc + 3) ls (.ref (o + n) :: rest))) : W p l e R s m args below meth c H locs cells slots Q (F0 m pc ls rest) := by
  obtain ⟨h1, h2, h3, h4⟩ := hG
  refine va_new hx hb hts hin ty hty hown hcl hinst hini hK h1 (wsC_D o C n) h2 (fun q hq => Nat.le_trans h4 hq) hc hfs hcells hslots hdg (fun q H1 hP hD hS => k_sz (fun hz => ?_))
  have e := k_adr hP hD h3 hz
  subst e
  refine kk H1 ⟨by rw [← wsC_snoc]; exact hP, hS, by omega, h4⟩
theorem k_arr {tys : List (ClassId × FieldType)} {t : Nat} {cA : ClassId} {ty : FieldType} (hK : va_K D jCl (tys ++ [(cA, ty)]) s) (ht : tys[t]? = some (cy t, ty)) : cA = cy t := by
  have a1 := (hK.2 tys.length (cA, ty) (by simp)).2
  have a2 := (hK.2 t (cy t, ty) (by rw [List.getElem?_append_left (List.getElem?_eq_some_iff.mp ht).1]; exact ht)).2
  cases ty with
  | object X =>
    obtain ⟨_, _, _, _, _, e1⟩ := a1
    obtain ⟨_, _, _, _, _, e2⟩ := a2
    exact Option.some.inj (e1.symm.trans e2)
  | _ => exact Option.some.inj (a1.symm.trans a2)
theorem k_newI (hx : p.tables.exec = Jvm.exec) (hb : c.code = cc) (harr : (Cond.arrayClass .int).before args s = true) (hK : va_K D jCl (tysF cy) s) (hG : GC D o C n s H locs cells) {z : Int} {N : Nat} (hz : z = N) (hN : N < 100000000) (hcells : cells + 1 ≤ R.cells) (hslots : slots + N ≤ R.slots) (hdg : decode cc pc = .ok (.newarray .int, 2))
    (kk : ∀ H1 : Heap, GC D o (upC C n (.inl (cy 0, (N, .inl fun _ => J 0)))) (n + 1) s H1 locs (cells + 1) → W p l e R s m args below meth c H1 locs (cells + 1) (slots + N) Q (F0 m (pc + 2) ls (.ref (o + n) :: rest))) : W p l e R s m args below meth c H locs cells slots Q (F0 m pc ls (.int (J z) :: rest)) := by
  obtain ⟨h1, h2, h3, h4⟩ := hG
  subst hz
  refine va_newa (atype := .int) (ty := .int) (N' := N) (a0 := (N, .inl fun _ => J 0)) hx hb harr rfl hK h1 (wsC_D o C n) h2 (fun q hq => Nat.le_trans h4 hq) (fun cA => rfl) (by rw [J_nI (by omega)]; exact nI_pos (by omega)) (by rw [J_cl (by omega) (by omega)]; omega) (by show N * 4 ≤ 536870912; omega) hcells hslots hdg (fun q cA H1 hK1 hP hD hS => k_sz (fun hz => ?_))
  have e := k_adr hP hD h3 hz
  have e2 := k_arr (cy := cy) (t := 0) hK1 rfl
  subst e; subst e2
  exact kk H1 ⟨by rw [← wsC_snoc]; exact hP, hS, by omega, h4⟩
theorem k_newL (hx : p.tables.exec = Jvm.exec) (hb : c.code = cc) (harr : (Cond.arrayClass .long).before args s = true) (hK : va_K D jCl (tysF cy) s) (hG : GC D o C n s H locs cells) {z : Int} {N : Nat} (hz : z = N) (hN : N < 60000000) (hcells : cells + 1 ≤ R.cells) (hslots : slots + N ≤ R.slots) (hdg : decode cc pc = .ok (.newarray .long, 2))
    (kk : ∀ H1 : Heap, GC D o (upC C n (.inl (cy 1, (N, .inr (.inl fun _ => JL 0))))) (n + 1) s H1 locs (cells + 1) → W p l e R s m args below meth c H1 locs (cells + 1) (slots + N) Q (F0 m (pc + 2) ls (.ref (o + n) :: rest))) : W p l e R s m args below meth c H locs cells slots Q (F0 m pc ls (.int (J z) :: rest)) := by
  obtain ⟨h1, h2, h3, h4⟩ := hG
  subst hz
  refine va_newa (atype := .long) (ty := .long) (N' := N) (a0 := (N, .inr (.inl fun _ => JL 0))) hx hb harr rfl hK h1 (wsC_D o C n) h2 (fun q hq => Nat.le_trans h4 hq) (fun cA => rfl) (by rw [J_nI (by omega)]; exact nI_pos (by omega)) (by rw [J_cl (by omega) (by omega)]; omega) (by show N * 8 ≤ 536870912; omega) hcells hslots hdg (fun q cA H1 hK1 hP hD hS => k_sz (fun hz => ?_))
  have e := k_adr hP hD h3 hz
  have e2 := k_arr (cy := cy) (t := 1) hK1 rfl
  subst e; subst e2
  exact kk H1 ⟨by rw [← wsC_snoc]; exact hP, hS, by omega, h4⟩
theorem k_newC (hx : p.tables.exec = Jvm.exec) (hb : c.code = cc) (harr : (Cond.arrayClass .char).before args s = true) (hK : va_K D jCl (tysF cy) s) (hG : GC D o C n s H locs cells) {z : Int} {N : Nat} (hz : z = N) (hN : N < 100000000) (hcells : cells + 1 ≤ R.cells) (hslots : slots + N ≤ R.slots) (hdg : decode cc pc = .ok (.newarray .char, 2))
    (kk : ∀ H1 : Heap, GC D o (upC C n (.inl (cy 2, (N, .inl fun _ => J 0)))) (n + 1) s H1 locs (cells + 1) → W p l e R s m args below meth c H1 locs (cells + 1) (slots + N) Q (F0 m (pc + 2) ls (.ref (o + n) :: rest))) : W p l e R s m args below meth c H locs cells slots Q (F0 m pc ls (.int (J z) :: rest)) := by
  obtain ⟨h1, h2, h3, h4⟩ := hG
  subst hz
  refine va_newa (atype := .char) (ty := .char) (N' := N) (a0 := (N, .inl fun _ => J 0)) hx hb harr rfl hK h1 (wsC_D o C n) h2 (fun q hq => Nat.le_trans h4 hq) (fun cA => rfl) (by rw [J_nI (by omega)]; exact nI_pos (by omega)) (by rw [J_cl (by omega) (by omega)]; omega) (by show N * 2 ≤ 536870912; omega) hcells hslots hdg (fun q cA H1 hK1 hP hD hS => k_sz (fun hz => ?_))
  have e := k_adr hP hD h3 hz
  have e2 := k_arr (cy := cy) (t := 2) hK1 rfl
  subst e; subst e2
  exact kk H1 ⟨by rw [← wsC_snoc]; exact hP, hS, by omega, h4⟩
theorem k_newQ (hx : p.tables.exec = Jvm.exec) (hb : c.code = cc) {own K : String} {index t : Nat} (hown : s.vm.findClass own = some m.cls) (hcl : (Cond.classLink own index K).before args s = true) (hov : (Cond.arrayOver (.object K)).before args s = true) (hK : va_K D jCl (tysF cy) s) (ht : (tysF cy)[t]? = some (cy t, .object K)) (hG : GC D o C n s H locs cells) {z : Int} {N : Nat} (hz : z = N) (hN : N < 100000000) (hcells : cells + 1 ≤ R.cells) (hslots : slots + N ≤ R.slots) (hdg : decode cc pc = .ok (.anewarray index, 3))
    (kk : ∀ H1 : Heap, GC D o (upC C n (.inl (cy t, (N, .inr (.inr (.inr (.inr fun _ => none))))))) (n + 1) s H1 locs (cells + 1) → W p l e R s m args below meth c H1 locs (cells + 1) (slots + N) Q (F0 m (pc + 3) ls (.ref (o + n) :: rest))) : W p l e R s m args below meth c H locs cells slots Q (F0 m pc ls (.int (J z) :: rest)) := by
  obtain ⟨h1, h2, h3, h4⟩ := hG
  subst hz
  refine va_newq (N' := N) hx hb hown hcl (va_AO.of hov) hK h1 (wsC_D o C n) h2 (fun q hq => Nat.le_trans h4 hq) (by rw [J_nI (by omega)]; exact nI_pos (by omega)) (by rw [J_cl (by omega) (by omega)]; omega) (by omega) hcells hslots hdg (fun q cA H1 hK1 hP hD hS => k_sz (fun hz => ?_))
  have e := k_adr hP hD h3 hz
  have e2 := k_arr (cy := cy) (t := t) hK1 ht
  subst e; subst e2
  exact kk H1 ⟨by rw [← wsC_snoc]; exact hP, hS, by omega, h4⟩
theorem k_putF (hx : p.tables.exec = Jvm.exec) (hb : c.code = cc) {own K : String} {T : u_T} {N ci index k : Nat} {Ts : List Cond} (hts : ∀ w ∈ Ts, w.before args s = true) (hin : ∀ w ∈ u_ws K T N, w ∈ Ts) (ty0 : Nat → FieldType) (hty : ∀ k, k < N → parseFieldDescriptor (T k).2.2.1 = some (ty0 k)) (hnm : ∀ a, a < N → ∀ b, b < N → a ≠ b → (T a).2.1 ≠ (T b).2.1) (hown : s.vm.findClass own = some m.cls) (hK : va_K D jCl (tysF cy) s) (hG : GC D o C n s H locs cells) (hk : k < n) {fs : List Value} (he : C k = .inr (ci, fs)) (hc : jCl[ci]? = some (K, T, N)) (j : Nat) (hj : j < N ∧ (T j).2.2.2 = true ∧ j < fs.length) (hin2 : meth.name = "<init>") (hdecl : (T j).1 = own) (hlink : (Cond.fieldLink own index (T j).1 (T j).2.1 (T j).2.2.1).before args s = true) {ty : FieldType} {v : Value} (hd : parseFieldDescriptor (T j).2.2.1 = some ty) (hn : narrow ty v = v) (hfit : fits ty v = true) (hdg : decode cc pc = .ok (.putfield index, 3))
    (kk : ∀ (H1 : Heap) (locs1 : List Loc), GC D o (upC C k (.inr (ci, fs.set j v))) n s H1 locs1 cells → W p l e R s m args below meth c H1 locs1 cells slots Q (F0 m (pc + 3) ls rest)) : W p l e R s m args below meth c H locs cells slots Q (F0 m pc ls (v :: .ref (o + k) :: rest)) := by
  obtain ⟨h1, h2, h3, h4⟩ := hG
  refine va_putF (v := v) hx hb hts hin ty0 hty hnm hown hK h1 (wsC_D o C n) h2 k (by rw [wsC_get o C hk, he]) hc j hj.1 hlink (fun _ h => h) hj.2.1 hin2 hdecl hd hn hfit hj.2.2 hdg (fun H1 locs1 hP hD hS => kk H1 locs1 ⟨?_, hS, h3, h4⟩)
  rw [wsC_set o C hk] at hP; exact hP
theorem k_put (hx : p.tables.exec = Jvm.exec) (hb : c.code = cc) {own K : String} {T : u_T} {N ci index k : Nat} {Ts : List Cond} (hts : ∀ w ∈ Ts, w.before args s = true) (hin : ∀ w ∈ u_ws K T N, w ∈ Ts) (ty0 : Nat → FieldType) (hty : ∀ k, k < N → parseFieldDescriptor (T k).2.2.1 = some (ty0 k)) (hnm : ∀ a, a < N → ∀ b, b < N → a ≠ b → (T a).2.1 ≠ (T b).2.1) (hown : s.vm.findClass own = some m.cls) (hK : va_K D jCl (tysF cy) s) (hG : GC D o C n s H locs cells) (hk : k < n) {fs : List Value} (he : C k = .inr (ci, fs)) (hc : jCl[ci]? = some (K, T, N)) (j : Nat) (hj : j < N ∧ (T j).2.2.2 = false ∧ j < fs.length) (hlink : (Cond.fieldLink own index (T j).1 (T j).2.1 (T j).2.2.1).before args s = true) {ty : FieldType} {v : Value} (hd : parseFieldDescriptor (T j).2.2.1 = some ty) (hn : narrow ty v = v) (hfit : fits ty v = true) (hdg : decode cc pc = .ok (.putfield index, 3))
    (kk : ∀ (H1 : Heap) (locs1 : List Loc), GC D o (upC C k (.inr (ci, fs.set j v))) n s H1 locs1 cells → W p l e R s m args below meth c H1 locs1 cells slots Q (F0 m (pc + 3) ls rest)) : W p l e R s m args below meth c H locs cells slots Q (F0 m pc ls (v :: .ref (o + k) :: rest)) := by
  obtain ⟨h1, h2, h3, h4⟩ := hG
  refine va_put (v := v) hx hb hts hin ty0 hty hnm hown hK h1 (wsC_D o C n) h2 k (by rw [wsC_get o C hk, he]) hc j hj.1 hlink (fun _ h => h) hj.2.1 hd hn hfit hj.2.2 hdg (fun H1 locs1 hP hD hS => kk H1 locs1 ⟨?_, hS, h3, h4⟩)
  rw [wsC_set o C hk] at hP; exact hP
theorem k_get (hx : p.tables.exec = Jvm.exec) (hb : c.code = cc) {own K : String} {T : u_T} {N ci index k : Nat} {Ts : List Cond} (hts : ∀ w ∈ Ts, w.before args s = true) (hin : ∀ w ∈ u_ws K T N, w ∈ Ts) (hown : s.vm.findClass own = some m.cls) (hK : va_K D jCl (tysF cy) s) (hG : GC D o C n s H locs cells) (hk : k < n) {fs : List Value} (he : C k = .inr (ci, fs)) (hc : jCl[ci]? = some (K, T, N)) (j : Nat) (hj : j < N) {v : Value} (hv : fs[j]? = some v) (hlink : (Cond.fieldLink own index (T j).1 (T j).2.1 (T j).2.2.1).before args s = true) (hdg : decode cc pc = .ok (.getfield index, 3))
    (kk : W p l e R s m args below meth c H locs cells slots Q (F0 m (pc + 3) ls (v :: rest))) : W p l e R s m args below meth c H locs cells slots Q (F0 m pc ls (.ref (o + k) :: rest)) :=
  va_get (v := v) hx hb hts hin hown hK hG.1 k (by rw [wsC_get o C hk, he]) hc j hj hlink (fun _ h => h) hv hdg kk
theorem k_ast (hx : p.tables.exec = Jvm.exec) (hb : c.code = cc) (hK : va_K D jCl (tysF cy) s) (hG : GC D o C n s H locs cells) {k t q ci N i : Nat} {r : vw_C} {z : Int} {vs : List Value} {f : Nat → Option Nat} (hk : k < n) (he : C k = .inl (cy t, (N, .inr (.inr (.inr (.inr f)))))) (ht : (tysF cy)[t]? = some (cy t, .object r.1)) (hq : q < n) (hv : C q = .inr (ci, vs)) (hc : jCl[ci]? = some r) (hz : z = i) (hi : i < N ∧ N < 1000) (hdg : decode cc pc = .ok (.aastore, 1))
    (kk : ∀ (H1 : Heap) (locs1 : List Loc), GC D o (upC C k (.inl (cy t, (N, .inr (.inr (.inr (.inr (va_up f i (some (o + q)))))))))) n s H1 locs1 cells → W p l e R s m args below meth c H1 locs1 cells slots Q (F0 m (pc + 1) ls rest)) : W p l e R s m args below meth c H locs cells slots Q (F0 m pc ls (.ref (o + q) :: .int (J z) :: .ref (o + k) :: rest)) := by
  obtain ⟨h1, h2, h3, h4⟩ := hG
  subst hz
  have ei : (J (i : Int)).toNatClampNeg = i := by rw [J_cl (by omega) (by omega)]; omega
  refine va_astq hx hb hK h1 (wsC_D o C n) h2 k t q ci (by rw [wsC_get o C hk, he]) ht (by rw [wsC_get o C hq, hv]) hc (J_in (by omega) (by omega) (by omega)) hdg (fun H1 locs1 hP hD hS => kk H1 locs1 ⟨?_, hS, h3, h4⟩)
  rw [wsC_set o C hk, ei] at hP; exact hP
theorem k_vret {n' mc ms : Nat} {C' : Nat → va_E} (hx : p.tables.exec = Jvm.exec) (hb : c.code = cc) (hr : meth.sig.returnType = none) (hlocks : meth.locks = false) (hG : GC D o C n s H locs cells) (hn : n = n') (he : ∀ i, i < n → C i = C' i) (hm : cells ≤ mc ∧ slots ≤ ms) (hdg : decode cc pc = .ok (.return_, 1)) : W p l e R s m args below meth c H locs cells slots (MQ below (va_Qv (fun _ : Unit => True) (fun _ t => va_P D jCl (wsC o C' n') t.heap) (oF o)) args s mc ms (oF o)) (F0 m pc ls []) := by
  subst hn
  have hG' := hG.congr he
  exact W.widen (k := mc) (n := ms) hm.1 hm.2 (W.vret hx hb hr (fun t ht hW => ⟨⟨(), rfl, trivial, by show va_P _ _ _ t.heap; rw [ht]; exact hG'.1⟩, hG'.2.1.F ht⟩) hG'.2.1.2.2 hdg)
theorem GPc.blind {as : List Value} : FrameBlind (va_Pc as (GPc D cy o C n)) := by
  intro a U g mk q
  obtain ⟨q0, q1, q2, q3, q4⟩ := q
  exact ⟨q0, q1, va_K.moved (u := U) (U := U.calling g mk a) (Vm.Alike.refl U.vm) q2, q3.calls, q4⟩
theorem k_pre {as : List Value} (hK : va_K D jCl (tysF cy) s) (hNX : NX s) (hG : GC D o C n s H locs cells) (hz : H.size ≤ s.heap.size + cells) : PreS s H (va_Pc as (GPc D cy o C n)) as :=
  ⟨GPc.blind, fun U hU hW => ⟨rfl, by rw [hU]; exact hG.1, va_K.moved hW.alike hK, hNX.warm hW, by rw [hU]; have := hG.2.2.1; omega, by rw [hU]; exact Nat.le_trans hG.2.2.2 hG.2.1.1⟩⟩
theorem k_cont {n' mc ms : Nat} {C' : Nat → va_E} {a : Array Value} {st0 : List Value} (hG : GC D o C n s H locs cells) (hr : va_Run p l e R s m args below meth c H locs cells slots mc ms (F0 m pc ls st0) rest (va_Qv (fun _ : Unit => True) (fun _ t => va_P D jCl (wsC o C' n') t.heap) (oF o) a) (oF o)) (hn : n' = n + mc)
    (kk : ∀ (H1 : Heap) (locs1 : List Loc), GC D o C' n' s H1 locs1 (cells + mc) → W p l e R s m args below meth c H1 locs1 (cells + mc) (slots + ms) Q (F0 m (pc + 3) ls rest)) : W p l e R s m args below meth c H locs cells slots Q (F0 m pc ls st0) := by
  obtain ⟨h1, h2, h3, h4⟩ := hG
  refine va_callv hr h2 (fun q _ h => h) (fun q h => h) (fun u t H1 locs1 ht hvm hw hB hz hk hS => kk H1 locs1 ⟨by rw [← ht]; exact hB, hS, by omega, h4⟩)
end JCR
end
