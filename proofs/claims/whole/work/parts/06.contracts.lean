def sTab : List (String × Nat × String) := [("ZoneCompiler", 413, "a command can't be carried out"), ("ZoneCompiler", 452, "this can't be done now"), ("ZoneCompiler", 456, "no such index"), ("ZoneCompiler", 461, "no such number"), ("ZoneCompiler", 466, "there is none"), ("ZoneCompiler", 472, "the mode tells no instant"), ("ZoneCompiler$Reader", 70, "zone"), ("ZoneCompiler$Reader", 72, "base"), ("ZoneCompiler$Reader", 74, "rule"), ("ZoneCompiler$Reader", 76, "drop"), ("ZoneCompiler$Reader", 78, "cancel"), ("ZoneCompiler$Reader", 80, "b"), ("ZoneCompiler$Reader", 82, "nnb"), ("ZoneCompiler$Reader", 84, "nnnndncn"), ("ZoneCompiler$Reader", 86, "nn"), ("ZoneCompilerModel", 296, "zone:base:rule:drop:cancel:")]
def sLen : List Nat := sTab.map fun q => q.2.2.length
def sByt : List (List Int32) := sTab.map fun q => q.2.2.toList.map fun ch => Int32.ofNat ch.toNat
def dcL : List MethodName := [Bundle.initS Bundle.tN, Bundle.initS "java/lang/Exception", Bundle.initS "java/lang/RuntimeException"]
def exL : List String := ["java/lang/IndexOutOfBoundsException", "java/lang/IllegalArgumentException", "java/lang/IllegalStateException", "java/util/NoSuchElementException", "java/lang/UnsupportedOperationException"]
def nsL : List (String × Nat × MethodName × String) := [("ZoneCompiler$Book", 23, yX9_init, "ZoneCompiler"), ("ZoneCompiler$Book", 24, yX4_init, "ZoneCompiler"), ("ZoneCompiler", 29, yX7_init, "ZoneCompiler"), ("ZoneCompiler", 36, yX5_init, "ZoneCompiler"), ("ZoneCompiler", 39, yX2_init, "ZoneCompiler"), ("ZoneCompiler", 46, yX6_init, "ZoneCompiler"), ("ZoneCompiler", 53, yX8_init, "ZoneCompiler"), ("ZoneCompiler$Plan", 89, yX10_isLocal, "ZoneCompiler")]
def SX (o : Nat) (sK sV : Nat → Nat) (U : State) : Prop :=
  (∃ t, va_Z "ZoneCompiler$Calendar" "MONTH_STARTS" "[I" (.ref t) (oA o) U U.heap ∧ va_T .int t 13 (fun j => .int (J (msV.getD j 0))) (oA o) U U.heap) ∧
  vx_Zq Bundle.tN "UNASSIGNED_STACK" Bundle.steD (oA o) U U.heap ∧ vx_Zq Bundle.tN "SUPPRESSED_SENTINEL" Bundle.listD (oA o) U U.heap ∧
  (∀ (i : Nat) (q : String × Nat × String), sTab[i]? = some q → vk_R q.1 q.2.1 q.2.2 (sK i) U) ∧ vk_S 16 sLen sByt sK sV (oA o) U U.heap ∧ (∀ x ∈ dcL, va_Nw (.declares x) U) ∧ (∀ X ∈ exL, va_Nw (.castable X X) U) ∧ va_Z "java/lang/String" "COMPACT_STRINGS" "Z" (.int 1) (oA o) U U.heap ∧ (∀ q ∈ nsL, va_Nw (.methodLinkNest q.1 q.2.1 q.2.2.1 q.2.2.2) U) ∧ vx_Zq "jdk/internal/util/Preconditions" "SIOOBE_FORMATTER" "Ljava/util/function/BiFunction;" (oA o) U U.heap
theorem SX.warm {o : Nat} {sK sV : Nat → Nat} {s U : State} (hW : s.WarmedH U.vm) (hh : ∀ a : Nat, a < s.heap.size → ¬ oA o a → U.heap[a]? = s.heap[a]?) (h : SX o sK sV s) : SX o sK sV U := by
  obtain ⟨⟨t, h1, h2⟩, h3, h4, h5, h6, h7, h8, h9, h10, h11⟩ := h
  exact ⟨⟨t, (va_Z.moved hW.alike h1).kept hh, (va_T.moved hW.alike h2).kept hh⟩, (vx_Zq.moved hW.alike h3).kept hh, (vx_Zq.moved hW.alike h4).kept hh, fun i q hq => vk_R.warm hW (h5 i q hq), (vk_S.moved hW.alike h6).kept hh, fun x hx => va_Nw.warmD hW (h7 x hx), fun x hx => va_Nw.warmC hW (h8 x hx), (va_Z.moved hW.alike h9).kept hh, fun q hq => va_Nw.warmM hW (h10 q hq), (vx_Zq.moved hW.alike h11).kept hh⟩
theorem SX.calls {o : Nat} {sK sV : Nat → Nat} {U : State} {g : JFrame} {mk : MethodId} {a : Array Value} (h : SX o sK sV U) : SX o sK sV (U.calling g mk a) := by
  obtain ⟨⟨t, h1, h2⟩, h3, h4, h5, h6, h7, h8, h9, h10, h11⟩ := h
  exact ⟨⟨t, va_Z.moved (U := U.calling g mk a) (Vm.Alike.refl U.vm) h1, va_T.moved (U := U.calling g mk a) (Vm.Alike.refl U.vm) h2⟩, vx_Zq.moved (U := U.calling g mk a) (Vm.Alike.refl U.vm) h3, vx_Zq.moved (U := U.calling g mk a) (Vm.Alike.refl U.vm) h4, fun i q hq => vk_R.same (U := U.calling g mk a) rfl (h5 i q hq), vk_S.moved (U := U.calling g mk a) (Vm.Alike.refl U.vm) h6, fun x hx => va_Nw.same (U := U.calling g mk a) rfl rfl (h7 x hx), fun x hx => va_Nw.same (U := U.calling g mk a) rfl rfl (h8 x hx), va_Z.moved (U := U.calling g mk a) (Vm.Alike.refl U.vm) h9, fun q hq => va_Nw.same (U := U.calling g mk a) rfl rfl (h10 q hq), vx_Zq.moved (U := U.calling g mk a) (Vm.Alike.refl U.vm) h11⟩
theorem SX.nest {o : Nat} {sK sV : Nat → Nat} {U : State} (h : SX o sK sV U) {q : String × Nat × MethodName × String} (i : Nat) (hq : nsL[i]? = some q) : va_Nw (.methodLinkNest q.1 q.2.1 q.2.2.1 q.2.2.2) U := h.2.2.2.2.2.2.2.2.1 q (List.mem_of_getElem? hq)
/-- what a method finds: the memory, the tables, what lies below -/
def GP (D : va_G) (cy : Nat → ClassId) (o : Nat) (sK sV : Nat → Nat) (M : jT) (U : State) : Prop := va_P D jCl (wsM cy o M) U.heap ∧ va_K D jCl (tysF cy) U ∧ SX o sK sV U
theorem GP.blind {D : va_G} {cy : Nat → ClassId} {o : Nat} {sK sV : Nat → Nat} {M : jT} {as : List Value} : FrameBlind (va_Pc as (GP D cy o sK sV M)) := by
  intro a U g mk q
  obtain ⟨q0, q1, q2, q3⟩ := q
  exact ⟨q0, q1, va_K.moved (u := U) (U := U.calling g mk a) (Vm.Alike.refl U.vm) q2, q3.calls⟩
theorem GP.pay {D : va_G} {cy : Nat → ClassId} {o : Nat} {sK sV : Nat → Nat} {M : jT} {s U : State} {H : Heap} {locs : List Loc} (hK : va_K D jCl (tysF cy) s) (hSX : SX o sK sV s) (hG : GM D cy o M s.heap H locs) (hU : U.heap = H) (hW : s.WarmedH U.vm) : GP D cy o sK sV M U :=
  ⟨by rw [hU]; exact hG.1, va_K.moved hW.alike hK, hSX.warm hW (fun a h1 h2 => by rw [hU]; exact hG.2.2.1 a h1 h2)⟩
abbrev wj (y : MethodName) (b : ByteArray) (n : Nat) (r : Option FieldType) : List Cond := .code y b n r :: TB
abbrev jB (D : va_G) (cy : Nat → ClassId) (o : Nat) : jT → State → Prop := fun M' t => va_P D jCl (wsM cy o M') t.heap
abbrev jQi (D : va_G) (cy : Nat → ClassId) (o : Nat) (Q : Int → jT → Prop) := va_Qi (fun (r : Int32) (M' : jT) => ∃ z, r = J z ∧ Q z M') (jB D cy o) (oA o)
abbrev jQv (D : va_G) (cy : Nat → ClassId) (o : Nat) (Q : jT → Prop) := va_Qv (fun (M' : jT) => Q M') (jB D cy o) (oA o)
abbrev jQr (D : va_G) (cy : Nat → ClassId) (o kk : Nat) (Q : Int → jT → Prop) := va_Qr (fun (u : jT × Int) => Q u.2 u.1 ∧ kd u.2 = kk) (fun u a t => a = rA o u.2 ∧ jB D cy o u.1 t) (oA o)
abbrev jQs (D : va_G) (cy : Nat → ClassId) (o : Nat) (sK : Nat → Nat) (Q : Nat → jT → Prop) := va_Qr (fun (u : jT × Nat) => Q u.2 u.1 ∧ u.2 < 16) (fun u a t => a = sK u.2 ∧ jB D cy o u.1 t) (oA o)
def exN (e : Nat) : String := if e = 1 then "java/lang/IndexOutOfBoundsException" else if e = 2 then "java/lang/IllegalArgumentException" else if e = 3 then "java/lang/IllegalStateException" else if e = 4 then "java/util/NoSuchElementException" else "java/lang/UnsupportedOperationException"
abbrev jX (D : va_G) (cy : Nat → ClassId) (o : Nat) (X : Nat → jT → Prop) := vx_X (fun (u : jT × Nat) => X u.2 u.1) (fun E u t => E = exN u.2 ∧ jB D cy o u.1 t) (oA o)
def CoI (l : Launch) (y : MethodName) (ws : List Cond) (rm : Room) (D : va_G) (cy : Nat → ClassId) (o : Nat) (sK sV : Nat → Nat) (M : jT) (as : List Value) (Q : Int → jT → Prop) : Prop := Met l y ws rm (va_Pc as (GP D cy o sK sV M)) (jQi D cy o Q) rm.cells rm.slots (oA o)
def CoV (l : Launch) (y : MethodName) (ws : List Cond) (rm : Room) (D : va_G) (cy : Nat → ClassId) (o : Nat) (sK sV : Nat → Nat) (M : jT) (as : List Value) (Q : jT → Prop) : Prop := Met l y ws rm (va_Pc as (GP D cy o sK sV M)) (jQv D cy o Q) rm.cells rm.slots (oA o)
def CoR (l : Launch) (y : MethodName) (ws : List Cond) (rm : Room) (D : va_G) (cy : Nat → ClassId) (o : Nat) (sK sV : Nat → Nat) (M : jT) (as : List Value) (kk : Nat) (Q : Int → jT → Prop) : Prop := Met l y ws rm (va_Pc as (GP D cy o sK sV M)) (jQr D cy o kk Q) rm.cells rm.slots (oA o)
def CoS (l : Launch) (y : MethodName) (ws : List Cond) (rm : Room) (D : va_G) (cy : Nat → ClassId) (o : Nat) (sK sV : Nat → Nat) (M : jT) (as : List Value) (Q : Nat → jT → Prop) : Prop := Met l y ws rm (va_Pc as (GP D cy o sK sV M)) (jQs D cy o sK Q) rm.cells rm.slots (oA o)
def CxI (l : Launch) (y : MethodName) (ws : List Cond) (rm : Room) (D : va_G) (cy : Nat → ClassId) (o : Nat) (sK sV : Nat → Nat) (M : jT) (as : List Value) (Q : Int → jT → Prop) (X : Nat → jT → Prop) : Prop := vx_Met l y ws rm (va_Pc as (GP D cy o sK sV M)) (jQi D cy o Q) (jX D cy o X) rm.cells rm.slots (oA o)
def CxV (l : Launch) (y : MethodName) (ws : List Cond) (rm : Room) (D : va_G) (cy : Nat → ClassId) (o : Nat) (sK sV : Nat → Nat) (M : jT) (as : List Value) (Q : jT → Prop) (X : Nat → jT → Prop) : Prop := vx_Met l y ws rm (va_Pc as (GP D cy o sK sV M)) (jQv D cy o Q) (jX D cy o X) rm.cells rm.slots (oA o)
/-- words -/
theorem tb_good {w : Cond} (h : w ∈ TB) : goodWord w = true := (List.mem_filter.mp h).2
theorem gj_self {y y' : MethodName} {b b' : ByteArray} {n n' : Nat} {r r' : Option FieldType} (h : Cond.code y b n r ∈ TB) : GoodIn (wj y' b' n' r') (wj y b n r) := by
  intro w hw
  have h1 : w ∈ TB := (List.mem_cons.mp hw).elim (fun e => by rw [e]; exact h) id
  exact ⟨List.mem_cons_of_mem _ h1, good_of_word (tb_good h1)⟩
theorem gj_app {y' : MethodName} {b' : ByteArray} {n' : Nat} {r' : Option FieldType} {a ws : List Cond} (ha : ∀ w ∈ a, w ∈ TB) (h : GoodIn (wj y' b' n' r') ws) : GoodIn (wj y' b' n' r') (a ++ ws) := by
  intro w hw
  rcases List.mem_append.mp hw with h1 | h1
  · exact ⟨List.mem_cons_of_mem _ (ha w h1), good_of_word (tb_good (ha w h1))⟩
  · exact h w h1
theorem gj_V {own C : String} {idx : Nat} {y y' : MethodName} {b b' : ByteArray} {n n' : Nat} {r r' : Option FieldType} (hl : Cond.methodLink own idx y ∈ TB) (hi : Cond.instanceMethod y ∈ TB) (hs : Cond.selects C y y ∈ TB) (hn : Cond.initialized C ∈ TB) (hc : Cond.code y b n r ∈ TB) : GoodIn (wj y' b' n' r') (wsV own idx C y (wj y b n r)) :=
  gj_app (fun w hw => by simp only [List.mem_cons, List.not_mem_nil, or_false] at hw; rcases hw with rfl | rfl | rfl | rfl <;> assumption) (gj_self hc)
theorem gj_S {own : String} {idx : Nat} {y y' : MethodName} {b b' : ByteArray} {n n' : Nat} {r r' : Option FieldType} (hl : Cond.methodLink own idx y ∈ TB) (hi : Cond.static y ∈ TB) (hn : Cond.initialized y.cls ∈ TB) (hc : Cond.code y b n r ∈ TB) : GoodIn (wj y' b' n' r') (va_wsS own idx y (wj y b n r)) :=
  gj_app (fun w hw => by simp only [List.mem_cons, List.not_mem_nil, or_false] at hw; rcases hw with rfl | rfl | rfl <;> assumption) (gj_self hc)
section JC
variable {p : Program} {l : Launch} {e : Env} {R : Room} {s : State} {m : MethodId} {args : Array Value} {below : List Frame} {meth : Method} {c : Code} {H : Heap} {locs : List Loc} {cells slots : Nat} {Q : State → Prop} {cc : ByteArray} {pc : Nat} {ls : Array Slot} {rest st0 : List Value} {D : va_G} {cy : Nat → ClassId} {o : Nat} {sK sV : Nat → Nat} {M : jT} {own C : String} {index n nL maxL ci : Nat} {y : MethodName} {bytes : ByteArray} {ret : Option FieldType} {ws Ts : List Cond} {rm : Room} {As : List Value} {k : Int} {T : u_T} {N : Nat}
theorem j_recv (hK : va_K D jCl (tysF cy) s) (hG : GM D cy o M s.heap H locs) (hc : jCl[ci]? = some (C, T, N)) (hk : kd k = ci + 1) (hci : ci < 11) : ∃ cell : Cell, H[rA o k]? = some cell ∧ cell.vm.isStatics = false ∧ s.vm.findClass C = some cell.cls := by
  have hr := kd_rng (k := k) (by omega)
  have he : ce cy o k (M k) = .inr (ci, fl o (M k) (ci + 1) k) := by
    unfold ce; rw [hk, if_pos (by omega)]; rfl
  have hw := wsM_get cy o M hr.1 hr.2
  rw [he] at hw
  exact va_recv hK hG.1 hc hw
theorem j_preV (hK : va_K D jCl (tysF cy) s) (hSX : SX o sK sV s) (hG : GM D cy o M s.heap H locs) (hc : jCl[ci]? = some (C, T, N)) (hk : kd k = ci + 1) (hci : ci < 11) : PreV s H C (rA o k) (va_Pc (.ref (rA o k) :: As) (GP D cy o sK sV M)) As :=
  ⟨GP.blind, j_recv hK hG hc hk hci, fun U hU hW => ⟨rfl, GP.pay hK hSX hG hU hW⟩⟩
theorem j_preS (hK : va_K D jCl (tysF cy) s) (hSX : SX o sK sV s) (hG : GM D cy o M s.heap H locs) : PreS s H (va_Pc As (GP D cy o sK sV M)) As :=
  ⟨GP.blind, fun U hU hW => ⟨rfl, GP.pay hK hSX hG hU hW⟩⟩
theorem j_conti {Q1 : Int → jT → Prop} {a : Array Value} {mc ms : Nat} (hr : va_Run p l e R s m args below meth c H locs cells slots mc ms (F0 m pc ls st0) rest (jQi D cy o Q1 a) (oA o)) {c2 s2 : Nat} (hG : GM D cy o M s.heap H locs) (he : cells + mc ≤ c2 ∧ slots + ms ≤ s2)
    (kk : ∀ (z : Int) (M : jT), Q1 z M → ∀ (H : Heap) (locs : List Loc), GM D cy o M s.heap H locs → W p l e R s m args below meth c H locs c2 s2 Q (F0 m (pc + 3) ls (.int (J z) :: rest))) : W p l e R s m args below meth c H locs cells slots Q (F0 m pc ls st0) := by
  refine va_calli hr hG.2 (fun q _ h => h) (fun q h => h) (fun r u t H1 locs1 ht hvm hw hB hz hk hS => ?_)
  obtain ⟨z, rfl, hq⟩ := hw
  refine W.widen (k := c2) (n := s2) he.1 he.2 ?_
  exact kk z u hq H1 locs1 ⟨by rw [← ht]; exact hB, hS⟩
theorem j_contv {Q1 : jT → Prop} {a : Array Value} {mc ms : Nat} (hr : va_Run p l e R s m args below meth c H locs cells slots mc ms (F0 m pc ls st0) rest (jQv D cy o Q1 a) (oA o)) {c2 s2 : Nat} (hG : GM D cy o M s.heap H locs) (he : cells + mc ≤ c2 ∧ slots + ms ≤ s2)
    (kk : ∀ (M : jT), Q1 M → ∀ (H : Heap) (locs : List Loc), GM D cy o M s.heap H locs → W p l e R s m args below meth c H locs c2 s2 Q (F0 m (pc + 3) ls rest)) : W p l e R s m args below meth c H locs cells slots Q (F0 m pc ls st0) := by
  refine va_callv hr hG.2 (fun q _ h => h) (fun q h => h) (fun u t H1 locs1 ht hvm hw hB hz hk hS => ?_)
  refine W.widen (k := c2) (n := s2) he.1 he.2 ?_
  exact kk u hw H1 locs1 ⟨by rw [← ht]; exact hB, hS⟩
theorem j_contr {Q1 : Int → jT → Prop} {a : Array Value} {mc ms kq : Nat} (hr : va_Run p l e R s m args below meth c H locs cells slots mc ms (F0 m pc ls st0) rest (jQr D cy o kq Q1 a) (oA o)) {c2 s2 : Nat} (hG : GM D cy o M s.heap H locs) (he : cells + mc ≤ c2 ∧ slots + ms ≤ s2)
    (kk : ∀ (z : Int) (M : jT), Q1 z M → kd z = kq → ∀ (H : Heap) (locs : List Loc), GM D cy o M s.heap H locs → W p l e R s m args below meth c H locs c2 s2 Q (F0 m (pc + 3) ls (.ref (rA o z) :: rest))) : W p l e R s m args below meth c H locs cells slots Q (F0 m pc ls st0) := by
  refine va_callr hr hG.2 (fun q _ h => h) (fun q h => h) (fun u ra t H1 locs1 ht hvm hw hB hz hk hS => ?_)
  obtain ⟨rfl, hB⟩ := hB
  refine W.widen (k := c2) (n := s2) he.1 he.2 ?_
  exact kk u.2 u.1 hw.1 hw.2 H1 locs1 ⟨by rw [← ht]; exact hB, hS⟩
theorem j_conts {Q1 : Nat → jT → Prop} {a : Array Value} {mc ms : Nat} (hr : va_Run p l e R s m args below meth c H locs cells slots mc ms (F0 m pc ls st0) rest (jQs D cy o sK Q1 a) (oA o)) {c2 s2 : Nat} (hG : GM D cy o M s.heap H locs) (he : cells + mc ≤ c2 ∧ slots + ms ≤ s2)
    (kk : ∀ (z : Nat) (M : jT), Q1 z M → z < 16 → ∀ (H : Heap) (locs : List Loc), GM D cy o M s.heap H locs → W p l e R s m args below meth c H locs c2 s2 Q (F0 m (pc + 3) ls (.ref (sK z) :: rest))) : W p l e R s m args below meth c H locs cells slots Q (F0 m pc ls st0) := by
  refine va_callr hr hG.2 (fun q _ h => h) (fun q h => h) (fun u ra t H1 locs1 ht hvm hw hB hz hk hS => ?_)
  obtain ⟨rfl, hB⟩ := hB
  refine W.widen (k := c2) (n := s2) he.1 he.2 ?_
  exact kk u.2 u.1 hw.1 hw.2 H1 locs1 ⟨by rw [← ht]; exact hB, hS⟩
theorem j_contxi {Q1 : Int → jT → Prop} {X1 : Nat → jT → Prop} {a : Array Value} {mc ms : Nat} (hr : vx_Run p l e R s m args below meth c H locs cells slots mc ms (F0 m pc ls st0) rest (jQi D cy o Q1 a) (jX D cy o X1) (oA o)) {c2 s2 : Nat} (hG : GM D cy o M s.heap H locs) (he : cells + mc ≤ c2 ∧ slots + ms ≤ s2)
    (kx : ∀ (x : Nat) (M : jT), X1 x M → ∀ (ce : Cell) (q : Addr) (H : Heap) (locs : List Loc), GM D cy o M s.heap H locs → H[q]? = some ce → ce.vm = .none → s.vm.findClass (exN x) = some ce.cls → vx_W p l e R s m args below meth c H locs c2 s2 Q (F0 m pc ls rest) q)
    (kk : ∀ (z : Int) (M : jT), Q1 z M → ∀ (H : Heap) (locs : List Loc), GM D cy o M s.heap H locs → W p l e R s m args below meth c H locs c2 s2 Q (F0 m (pc + 3) ls (.int (J z) :: rest))) : W p l e R s m args below meth c H locs cells slots Q (F0 m pc ls st0) := by
  refine vx_calli hr hG.2 (fun q _ h => h) (fun q h => h) (fun q _ h => h) (fun E ce q9 u t H1 locs1 ht hvm hp hB hz hk hS h1 h2 h3 => ?_) (fun r u t H1 locs1 ht hvm hw hB hz hk hS => ?_)
  · obtain ⟨rfl, hB⟩ := hB
    refine vx_widen (k := c2) (n := s2) he.1 he.2 ?_
    exact kx u.2 u.1 hp ce q9 H1 locs1 ⟨by rw [← ht]; exact hB, hS⟩ h1 h2 h3
  · obtain ⟨z, rfl, hq⟩ := hw
    refine W.widen (k := c2) (n := s2) he.1 he.2 ?_
    exact kk z u hq H1 locs1 ⟨by rw [← ht]; exact hB, hS⟩
theorem j_contxv {Q1 : jT → Prop} {X1 : Nat → jT → Prop} {a : Array Value} {mc ms : Nat} (hr : vx_Run p l e R s m args below meth c H locs cells slots mc ms (F0 m pc ls st0) rest (jQv D cy o Q1 a) (jX D cy o X1) (oA o)) {c2 s2 : Nat} (hG : GM D cy o M s.heap H locs) (he : cells + mc ≤ c2 ∧ slots + ms ≤ s2)
    (kx : ∀ (x : Nat) (M : jT), X1 x M → ∀ (ce : Cell) (q : Addr) (H : Heap) (locs : List Loc), GM D cy o M s.heap H locs → H[q]? = some ce → ce.vm = .none → s.vm.findClass (exN x) = some ce.cls → vx_W p l e R s m args below meth c H locs c2 s2 Q (F0 m pc ls rest) q)
    (kk : ∀ (M : jT), Q1 M → ∀ (H : Heap) (locs : List Loc), GM D cy o M s.heap H locs → W p l e R s m args below meth c H locs c2 s2 Q (F0 m (pc + 3) ls rest)) : W p l e R s m args below meth c H locs cells slots Q (F0 m pc ls st0) := by
  refine vx_callv hr hG.2 (fun q _ h => h) (fun q h => h) (fun q _ h => h) (fun E ce q9 u t H1 locs1 ht hvm hp hB hz hk hS h1 h2 h3 => ?_) (fun u t H1 locs1 ht hvm hw hB hz hk hS => ?_)
  · obtain ⟨rfl, hB⟩ := hB
    refine vx_widen (k := c2) (n := s2) he.1 he.2 ?_
    exact kx u.2 u.1 hp ce q9 H1 locs1 ⟨by rw [← ht]; exact hB, hS⟩ h1 h2 h3
  · refine W.widen (k := c2) (n := s2) he.1 he.2 ?_
    exact kk u hw H1 locs1 ⟨by rw [← ht]; exact hB, hS⟩
theorem j_ireti {Q1 : Int → jT → Prop} {z : Int} {mc ms : Nat} (hx : p.tables.exec = Jvm.exec) (hb : c.code = cc) (hr : meth.sig.returnType = some .int) (hlocks : meth.locks = false) (hG : GM D cy o M s.heap H locs) (hq : Q1 z M) (hm : cells ≤ mc ∧ slots ≤ ms) (hdg : decode cc pc = .ok (.ireturn, 1)) : W p l e R s m args below meth c H locs cells slots (MQ below (jQi D cy o Q1) args s mc ms (oA o)) (F0 m pc ls [.int (J z)]) :=
  W.widen (k := mc) (n := ms) hm.1 hm.2 (W.iret (v := J z) hx hb hr (fun t ht hW => ⟨⟨J z, M, rfl, ⟨z, rfl, hq⟩, by show va_P _ _ _ t.heap; rw [ht]; exact hG.1⟩, hG.2.F ht⟩) hG.2.2.2 hdg)
theorem j_iretn {Q1 : Int → jT → Prop} {z : Int} {mc ms : Nat} {ty : FieldType} (hx : p.tables.exec = Jvm.exec) (hb : c.code = cc) (hr : meth.sig.returnType = some ty) (hlocks : meth.locks = false) (hn : narrow ty (.int (J z)) = .int (J z)) (hG : GM D cy o M s.heap H locs) (hq : Q1 z M) (hm : cells ≤ mc ∧ slots ≤ ms) (hdg : decode cc pc = .ok (.ireturn, 1)) : W p l e R s m args below meth c H locs cells slots (MQ below (jQi D cy o Q1) args s mc ms (oA o)) (F0 m pc ls [.int (J z)]) :=
  W.widen (k := mc) (n := ms) hm.1 hm.2 (W.zret (v := J z) hx hb hr hn (fun t ht hW => ⟨⟨J z, M, rfl, ⟨z, rfl, hq⟩, by show va_P _ _ _ t.heap; rw [ht]; exact hG.1⟩, hG.2.F ht⟩) hG.2.2.2 hdg)
theorem j_vret {Q1 : jT → Prop} {mc ms : Nat} (hx : p.tables.exec = Jvm.exec) (hb : c.code = cc) (hr : meth.sig.returnType = none) (hlocks : meth.locks = false) (hG : GM D cy o M s.heap H locs) (hq : Q1 M) (hm : cells ≤ mc ∧ slots ≤ ms) (hdg : decode cc pc = .ok (.return_, 1)) : W p l e R s m args below meth c H locs cells slots (MQ below (jQv D cy o Q1) args s mc ms (oA o)) (F0 m pc ls []) :=
  W.widen (k := mc) (n := ms) hm.1 hm.2 (W.vret hx hb hr (fun t ht hW => ⟨⟨M, rfl, hq, by show va_P _ _ _ t.heap; rw [ht]; exact hG.1⟩, hG.2.F ht⟩) hG.2.2.2 hdg)
theorem j_aretr {Q1 : Int → jT → Prop} {z : Int} {mc ms kq : Nat} {rt : FieldType} (hx : p.tables.exec = Jvm.exec) (hb : c.code = cc) (hr : meth.sig.returnType = some rt) (hrt : (∃ n, rt = .object n) ∨ ∃ t, rt = .array t) (hlocks : meth.locks = false) (hG : GM D cy o M s.heap H locs) (hkz : kd z = kq) (hq : Q1 z M) (hm : cells ≤ mc ∧ slots ≤ ms) (hdg : decode cc pc = .ok (.areturn, 1)) : W p l e R s m args below meth c H locs cells slots (MQ below (jQr D cy o kq Q1) args s mc ms (oA o)) (F0 m pc ls [.ref (rA o z)]) :=
  W.widen (k := mc) (n := ms) hm.1 hm.2 (W.aret (v := .ref (rA o z)) hx hb hr hrt (Or.inr ⟨_, rfl⟩) (fun t ht hW => ⟨⟨(M, z), rA o z, rfl, ⟨hq, hkz⟩, rfl, by show va_P _ _ _ t.heap; rw [ht]; exact hG.1⟩, hG.2.F ht⟩) hG.2.2.2 hdg)
theorem j_arets {Q1 : Nat → jT → Prop} {z mc ms : Nat} {rt : FieldType} (hx : p.tables.exec = Jvm.exec) (hb : c.code = cc) (hr : meth.sig.returnType = some rt) (hrt : (∃ n, rt = .object n) ∨ ∃ t, rt = .array t) (hlocks : meth.locks = false) (hG : GM D cy o M s.heap H locs) (hz : z < 16) (hq : Q1 z M) (hm : cells ≤ mc ∧ slots ≤ ms) (hdg : decode cc pc = .ok (.areturn, 1)) : W p l e R s m args below meth c H locs cells slots (MQ below (jQs D cy o sK Q1) args s mc ms (oA o)) (F0 m pc ls [.ref (sK z)]) :=
  W.widen (k := mc) (n := ms) hm.1 hm.2 (W.aret (v := .ref (sK z)) hx hb hr hrt (Or.inr ⟨_, rfl⟩) (fun t ht hW => ⟨⟨(M, z), sK z, rfl, ⟨hq, hz⟩, rfl, by show va_P _ _ _ t.heap; rw [ht]; exact hG.1⟩, hG.2.F ht⟩) hG.2.2.2 hdg)
end JC
