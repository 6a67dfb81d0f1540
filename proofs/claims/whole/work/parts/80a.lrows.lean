noncomputable section
/-! the law's world: the memory, and its own row 'out' beside it -/
def ou (z : Int) : Nat → Int64 := fun j => if j = 0 then JL z else JL 0
def oe (cy : Nat → ClassId) (z : Int) : va_E := .inl (cy 1, (1, .inr (.inl (ou z))))
def nzv (z : Int) : Int := (J z).toInt
def ncL : List (String × String) := [("java/lang/IllegalArgumentException", "java/lang/IndexOutOfBoundsException"), ("java/lang/IllegalStateException", "java/lang/IndexOutOfBoundsException"), ("java/lang/IllegalStateException", "java/lang/IllegalArgumentException"), ("java/util/NoSuchElementException", "java/lang/IndexOutOfBoundsException"), ("java/util/NoSuchElementException", "java/lang/IllegalArgumentException"), ("java/lang/IllegalArgumentException", "java/util/NoSuchElementException"), ("java/lang/UnsupportedOperationException", "java/lang/IndexOutOfBoundsException"), ("java/lang/UnsupportedOperationException", "java/lang/IllegalArgumentException")]
def NC (U : State) : Prop := ∀ q ∈ ncL, va_Nc q.1 q.2 U
def OutAt (cy : Nat → ClassId) (o : Nat) (z : Int) (H : Heap) : Prop := H[o + 630]? = some (vp_cell (cy 1) (1, .inr (.inl (ou z))))
def GL (D : va_G) (cy : Nat → ClassId) (o : Nat) (sK sV : Nat → Nat) (M : jT) (z : Int) (U : State) : Prop := GP D cy o sK sV M U ∧ OutAt cy o z U.heap ∧ NC U
/-- what the heap holds in the law and in its wrappers -/
def GW (D : va_G) (cy : Nat → ClassId) (o : Nat) (M : jT) (z : Int) (H0 H : Heap) (locs : List Loc) : Prop := va_P D jCl (wsM cy o M) H ∧ OutAt cy o z H ∧ va_S (oF o) H0 H locs
abbrev LQ (D : va_G) (cy : Nat → ClassId) (o : Nat) (Q : Int → Int → jT → Prop) := va_Qi (fun (r : Int32) (u : jT × Int) => ∃ k, r = J k ∧ Q k u.2 u.1) (fun u t => va_P D jCl (wsM cy o u.1) t.heap ∧ OutAt cy o u.2 t.heap) (oF o)
def CoL (l : Launch) (y : MethodName) (ws : List Cond) (rm : Room) (D : va_G) (cy : Nat → ClassId) (o : Nat) (sK sV : Nat → Nat) (M : jT) (z : Int) (as : List Value) (Q : Int → Int → jT → Prop) : Prop := Met l y ws rm (va_Pc as (GL D cy o sK sV M z)) (LQ D cy o Q) rm.cells rm.slots (oF o)
abbrev wjW (y : MethodName) (b : ByteArray) (n : Nat) (r : Option FieldType) (hh : List (Nat × Nat × Nat × Nat)) : List Cond := .codeWith y b n r hh :: TB
theorem oAF {o q : Nat} (h : oA o q) : oF o q := h.1
theorem GL.blind {D : va_G} {cy : Nat → ClassId} {o : Nat} {sK sV : Nat → Nat} {M : jT} {z : Int} {as : List Value} : FrameBlind (va_Pc as (GL D cy o sK sV M z)) := by
  intro a U g mk q
  obtain ⟨q0, ⟨q1, q2, q3⟩, q4, q5⟩ := q
  exact ⟨q0, ⟨q1, va_K.moved (u := U) (U := U.calling g mk a) (Vm.Alike.refl U.vm) q2, q3.calls⟩, q4, fun x hx => (q5 x hx).moved (u := U) (U := U.calling g mk a) (Vm.Alike.refl U.vm)⟩
theorem OutAt.lt {cy : Nat → ClassId} {o : Nat} {z : Int} {H : Heap} (h : OutAt cy o z H) : o + 630 < H.size := (Array.getElem?_eq_some_iff.mp h).1
theorem OutAt.kept {cy : Nat → ClassId} {o : Nat} {z : Int} {H0 H : Heap} {locs : List Loc} (h : OutAt cy o z H0) (hS : va_S (oA o) H0 H locs) : OutAt cy o z H := by
  have := hS.2.1 (o + 630) h.lt (fun q => q.2 rfl)
  unfold OutAt; rw [this]; exact h
theorem va_S.toF {o : Nat} {H0 H : Heap} {locs : List Loc} (h : va_S (oA o) H0 H locs) : va_S (oF o) H0 H locs := ⟨h.1, fun q h1 h2 => h.2.1 q h1 (fun c => h2 c.1), fun x hx => (h.2.2 x hx).1⟩
theorem GM.gw {D : va_G} {cy : Nat → ClassId} {o : Nat} {M : jT} {z : Int} {H0 H : Heap} {locs : List Loc} (h : GM D cy o M H0 H locs) (ho : OutAt cy o z H0) : GW D cy o M z H0 H locs := ⟨h.1, ho.kept h.2, h.2.toF⟩
abbrev wsO (cy : Nat → ClassId) (o : Nat) (M : jT) (z : Int) : va_W := wsM cy o M ++ [(o + 630, oe cy z)]
theorem wsO_P {D : va_G} {cy : Nat → ClassId} {o : Nat} {M : jT} {z : Int} {H : Heap} : va_P D jCl (wsO cy o M z) H ↔ va_P D jCl (wsM cy o M) H ∧ OutAt cy o z H := by
  constructor
  · intro h
    refine ⟨fun k q hq => h k q ?_, ?_⟩
    · rw [List.getElem?_append_left (List.getElem?_eq_some_iff.mp hq).1]; exact hq
    · have := h 630 (o + 630, oe cy z) (by rw [List.getElem?_append_right (by rw [wsM_len]; omega), wsM_len]; rfl)
      exact this
  · rintro ⟨h1, h2⟩ k q hq
    by_cases c : k < 630
    · rw [List.getElem?_append_left (by rw [wsM_len]; exact c)] at hq
      exact h1 k q hq
    · rw [List.getElem?_append_right (by rw [wsM_len]; omega), wsM_len] at hq
      have hz : k - 630 < 1 := (List.getElem?_eq_some_iff.mp hq).1
      rw [show k - 630 = 0 by omega] at hq
      cases hq
      exact h2
theorem wsO_D (cy : Nat → ClassId) (o : Nat) (M : jT) (z : Int) : va_D (oF o) (wsO cy o M z) := by
  have hg : ∀ (i : Nat) (p : Nat × va_E), (wsO cy o M z)[i]? = some p → p.1 = o + i := by
    intro i p hp
    by_cases c : i < 630
    · rw [List.getElem?_append_left (by rw [wsM_len]; exact c)] at hp
      simp [wsM, List.getElem?_map, List.getElem?_range, c] at hp
      rw [← hp]
    · rw [List.getElem?_append_right (by rw [wsM_len]; omega), wsM_len] at hp
      have hz : i - 630 < 1 := (List.getElem?_eq_some_iff.mp hp).1
      have e : i = 630 := by omega
      rw [show i - 630 = 0 by omega] at hp
      cases hp
      rw [e]
  refine ⟨fun i j p q hp hq e => ?_, fun k q hq => ?_⟩
  · have := hg i p hp; have := hg j q hq; omega
  · have := hg k q hq
    show o ≤ q.1
    omega
theorem wsO_set (cy : Nat → ClassId) (o : Nat) (M : jT) (z x : Int) : (wsO cy o M z).set 630 (o + 630, .inl (cy 1, (1, .inr (.inl (vp_updL (ou z) 0 (JL x)))))) = wsO cy o M x := by
  have e : vp_updL (ou z) 0 (JL x) = ou x := by
    funext j; unfold vp_updL ou
    by_cases c : j = 0
    · rw [if_pos c, if_pos c]
    · rw [if_neg c, if_neg c, if_neg c]
  rw [e, List.set_append_right _ _ (by rw [wsM_len]; omega), wsM_len]
  rfl
theorem l_ofW {l : Launch} {y : MethodName} {ws ws' : List Cond} {rm : Room} {as : List Value} {cc : ByteArray} {maxL : Nat} {ret : Option FieldType} {hh : List (Nat × Nat × Nat × Nat)} {D : va_G} {cy : Nat → ClassId} {o : Nat} {sK sV : Nat → Nat} {M : jT} {z : Int} {Q : Int → Int → jT → Prop}
    (hy : plainName y.cls = true) (hw : ws = Cond.codeWith y cc maxL ret hh :: ws') (hsl : (lg_sl as).length ≤ maxL)
    (body : ∀ (p : Program) (e : Env) (s : State) (m : MethodId) (args : Array Value) (below : List Frame) (meth : Method) (c : Code), p.tables.exec = Jvm.exec → c.code = cc → meth.sig.returnType = ret → meth.locks = false → c.exceptionTable.toList = tableOf hh → c.maxLocals = maxL → s.vm.findClass y.cls = some m.cls → (∀ w ∈ ws, w.before args s = true) → va_K D jCl (tysF cy) s → SX o sK sV s → NC s → OutAt cy o z s.heap → ∀ (H : Heap) (locs : List Loc), GM D cy o M s.heap H locs → ∀ ls : Array Slot, lv_has ls maxL (lv_args 0 as) → ∀ Qf : State → Prop, Qf = MQ below (LQ D cy o Q) args s rm.cells rm.slots (oF o) → W p l e rm s m args below meth c H locs 0 0 Qf (F0 m 0 ls [])) :
    CoL l y ws rm D cy o sK sV M z as Q := by
  refine va_MetW (hh := hh) (cc := cc) (maxL := maxL) (ret := ret) hy hw ?_
  intro p e s m args below meth c s₁ B hml hv
  obtain ⟨ha, ⟨hP, hK, hSX⟩, hO, hN⟩ := hv
  have hl := lv_entry as (n := maxL) hsl
  have ht := vx_table (x := y) (l := l) B (atoms_spec (ws := ws) B.pre _ (by rw [hw]; exact List.mem_cons_self))
  rw [ha, lg_entry_eq]
  exact body p e s m as.toArray below meth c B.exec B.bytes B.returns B.notSynchronized ht hml (findClass_of_methodNamed B.named) (fun w h => by rw [← ha]; exact atoms_spec (ws := ws) B.pre w h) hK hSX hN hO _ _ ⟨hP, va_S.rf⟩ _ hl _ rfl
theorem nc_at {s : State} {q : String × String} (h : NC s) (i : Nat) (hq : ncL[i]? = some q) : va_Nc q.1 q.2 s := h q (List.mem_of_getElem? hq)
theorem cast_at {o : Nat} {sK sV : Nat → Nat} {s : State} {args : Array Value} {X : String} (h : SX o sK sV s) (i : Nat) (hq : exL[i]? = some X) : (Cond.castable X X).before args s = true := va_Nw.use rfl (h.2.2.2.2.2.2.1 X (List.mem_of_getElem? hq))
section JL0
variable {p : Program} {l : Launch} {e : Env} {R : Room} {s : State} {m : MethodId} {args : Array Value} {below : List Frame} {meth : Method} {c : Code} {H H0 : Heap} {locs : List Loc} {cells slots : Nat} {Q : State → Prop} {cc : ByteArray} {pc : Nat} {ls : Array Slot} {rest : List Value} {D : va_G} {cy : Nat → ClassId} {o : Nat} {sK sV : Nat → Nat} {M : jT} {z : Int}
theorem l_i2l (hx : p.tables.exec = Jvm.exec) (hb : c.code = cc) {x : Int} (hdg : decode cc pc = .ok (.i2l, 1)) (k : W p l e R s m args below meth c H locs cells slots Q (F0 m (pc + 1) ls (.long (JL (nzv x)) :: rest))) : W p l e R s m args below meth c H locs cells slots Q (F0 m pc ls (.int (J x) :: rest)) := by
  have e1 : (J x).toInt64 = JL (nzv x) := by
    have h := J_toL (a := nzv x) ⟨Int32.le_toInt _, Int32.toInt_lt _⟩
    unfold nzv at h ⊢
    rw [J_of] at h; exact h
  exact lv_i2l hx hb hdg e1 k
theorem l_last (hx : p.tables.exec = Jvm.exec) (hb : c.code = cc) (hK : va_K D jCl (tysF cy) s) (hG : GW D cy o M z H0 H locs) {x : Int} (hdg : decode cc pc = .ok (.lastore, 1))
    (kk : ∀ (H : Heap) (locs : List Loc), GW D cy o M x H0 H locs → W p l e R s m args below meth c H locs cells slots Q (F0 m (pc + 1) ls rest)) : W p l e R s m args below meth c H locs cells slots Q (F0 m pc ls (.long (JL x) :: .int (J 0) :: .ref (o + 630) :: rest)) := by
  obtain ⟨h1, h2, h3⟩ := hG
  refine va_last hx hb hK (wsO_P.mpr ⟨h1, h2⟩) (wsO_D cy o M z) h3 630 1 (by rw [List.getElem?_append_right (by rw [wsM_len]; omega), wsM_len]; rfl) rfl (J_in (by omega) (by omega) (by omega)) hdg (fun H1 locs1 hP hD hS => kk H1 locs1 ?_)
  rw [J_cl (by omega) (by omega)] at hP
  have hP : va_P D jCl ((wsO cy o M z).set 630 (o + 630, .inl (cy 1, (1, .inr (.inl (vp_updL (ou z) 0 (JL x))))))) H1 := hP
  rw [wsO_set] at hP
  obtain ⟨g1, g2⟩ := wsO_P.mp hP
  exact ⟨g1, g2, hS⟩
theorem l_lald (hx : p.tables.exec = Jvm.exec) (hb : c.code = cc) (hK : va_K D jCl (tysF cy) s) (hG : GW D cy o M z H0 H locs) (hdg : decode cc pc = .ok (.laload, 1))
    (kk : W p l e R s m args below meth c H locs cells slots Q (F0 m (pc + 1) ls (.long (JL z) :: rest))) : W p l e R s m args below meth c H locs cells slots Q (F0 m pc ls (.int (J 0) :: .ref (o + 630) :: rest)) := by
  obtain ⟨h1, h2, h3⟩ := hG
  refine va_lald hx hb hK (wsO_P.mpr ⟨h1, h2⟩) 630 1 (by rw [List.getElem?_append_right (by rw [wsM_len]; omega), wsM_len]; rfl) rfl (J_in (by omega) (by omega) (by omega)) hdg ?_
  rw [J_cl (by omega) (by omega)]
  exact kk
theorem l_ret {Q1 : Int → Int → jT → Prop} {k : Int} {mc ms : Nat} (hx : p.tables.exec = Jvm.exec) (hb : c.code = cc) (hr : meth.sig.returnType = some .int) (hlocks : meth.locks = false) (hG : GW D cy o M z s.heap H locs) (hq : Q1 k z M) (hm : cells ≤ mc ∧ slots ≤ ms) (hdg : decode cc pc = .ok (.ireturn, 1)) : W p l e R s m args below meth c H locs cells slots (MQ below (LQ D cy o Q1) args s mc ms (oF o)) (F0 m pc ls [.int (J k)]) :=
  W.widen (k := mc) (n := ms) hm.1 hm.2 (W.iret (v := J k) hx hb hr (fun t ht hW => ⟨⟨J k, (M, z), rfl, ⟨k, rfl, hq⟩, by show va_P _ _ _ t.heap; rw [ht]; exact hG.1, by show OutAt _ _ _ t.heap; rw [ht]; exact hG.2.1⟩, hG.2.2.F ht⟩) hG.2.2.2.2 hdg)
/-- the wrapper's two ends -/
theorem l_fin {Q1 : Int → Int → jT → Prop} {v : Int} {mc ms : Nat} (hx : p.tables.exec = Jvm.exec) (hb : c.code = cc) (hr : meth.sig.returnType = some .int) (hlocks : meth.locks = false) (hK : va_K D jCl (tysF cy) s) (hG : GW D cy o M z s.heap H locs) (hq : Q1 0 (nzv v) M) (hm : cells ≤ mc ∧ slots ≤ ms) {tgt : Nat} {off : Int} (d0 : decode cc pc = .ok (.i2l, 1)) (d1 : decode cc (pc + 1) = .ok (.lastore, 1)) (d2 : decode cc (pc + 2) = .ok (.goto off, 3)) (ht : ((pc + 2 : Nat) : Int) + off = (tgt : Int)) (d3 : decode cc tgt = .ok (.iconst 0, 1)) (d4 : decode cc (tgt + 1) = .ok (.ireturn, 1)) : W p l e R s m args below meth c H locs cells slots (MQ below (LQ D cy o Q1) args s mc ms (oF o)) (F0 m pc ls [.int (J v), .int (J 0), .ref (o + 630)]) := by
  refine l_i2l hx hb d0 ?_
  refine l_last hx hb hK hG d1 (fun H locs hG => ?_)
  refine lv_goto (tgt := tgt) hx hb d2 ht ?_
  refine lv_iconst (v := J 0) hx hb d3 (by decide) ?_
  exact l_ret hx hb hr hlocks hG hq hm d4
end JL0
end
