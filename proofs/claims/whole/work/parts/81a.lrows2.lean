noncomputable section
/-! the law's walk: one call of each side, then the comparison -/
def EQ (W : (Int → jT → Prop) → Prop) (k z : Int) : Prop := (0 ≤ k ∧ k ≤ 3) ∧ ∃ Qp : Int → jT → Prop, W Qp ∧ ∀ b M2, Qp b M2 → M2 608 0 = k ∧ Inv M2 ∧ (k = 0 → nzv b = z)
theorem EQ_ok {W : (Int → jT → Prop) → Prop} {v : Int} (h : OKq W v) : EQ W 0 (nzv v) := ⟨⟨by omega, by omega⟩, _, h, fun b M2 q => ⟨q.1, q.2.2, fun _ => by rw [q.2.1]⟩⟩
theorem EQ_ex {W : (Int → jT → Prop) → Prop} {l : List Nat} {e : Nat} {k z : Int} (h : EXq W l e) (hk : kx l e = k) (h1 : 1 ≤ k ∧ k ≤ 3) : EQ W k z := ⟨⟨by omega, by omega⟩, _, h.2, fun b M2 q => ⟨by rw [q.1, hk], q.2, fun c => by omega⟩⟩
theorem EX_1 {W : (Int → jT → Prop) → Prop} {a e : Nat} {z : Int} (ka : kx [a] a = 1) (h : EXq W [a] e) : (e = a ∧ EQ W 1 z) := by
  have h1 := h.1
  simp only [List.mem_cons, List.not_mem_nil, or_false] at h1
  subst h1
  exact ⟨rfl, EQ_ex h ka (by omega)⟩
theorem EX_2 {W : (Int → jT → Prop) → Prop} {a b e : Nat} {z : Int} (ka : kx [a, b] a = 1) (kb : kx [a, b] b = 2) (h : EXq W [a, b] e) : (e = a ∧ EQ W 1 z) ∨ (e = b ∧ EQ W 2 z) := by
  have h1 := h.1
  simp only [List.mem_cons, List.not_mem_nil, or_false] at h1
  rcases h1 with h1 | h1
  · subst h1; exact Or.inl ⟨rfl, EQ_ex h ka (by omega)⟩
  · subst h1; exact Or.inr ⟨rfl, EQ_ex h kb (by omega)⟩
theorem EX_3 {W : (Int → jT → Prop) → Prop} {a b d e : Nat} {z : Int} (ka : kx [a, b, d] a = 1) (kb : kx [a, b, d] b = 2) (kd : kx [a, b, d] d = 3) (h : EXq W [a, b, d] e) : (e = a ∧ EQ W 1 z) ∨ (e = b ∧ EQ W 2 z) ∨ (e = d ∧ EQ W 3 z) := by
  have h1 := h.1
  simp only [List.mem_cons, List.not_mem_nil, or_false] at h1
  rcases h1 with h1 | h1 | h1
  · subst h1; exact Or.inl ⟨rfl, EQ_ex h ka (by omega)⟩
  · subst h1; exact Or.inr (Or.inl ⟨rfl, EQ_ex h kb (by omega)⟩)
  · subst h1; exact Or.inr (Or.inr ⟨rfl, EQ_ex h kd (by omega)⟩)
def LA (p : Program) (l : Launch) (s : State) (m : MethodId) (meth : Method) (c : Code) (b L : Nat) (xs : Nat → Int32) (D : va_G) (cy : Nat → ClassId) (o : Nat) (sK sV : Nat → Nat) : Prop :=
  p.tables.exec = Jvm.exec ∧ c.code = cL_law ∧ c.maxLocals = 7 ∧ s.vm.findClass RL = some m.cls ∧ (∀ w ∈ TB, w.before #[Value.ref b] s = true) ∧ va_X b L xs s s.heap ∧ b < s.heap.size ∧ va_K D jCl (tysF cy) s ∧ SX o sK sV s ∧ NC s ∧ s.heap.size = o ∧ l.stackTraces = false
abbrev lw_l (o b : Nat) (i : Int) : List (Nat × Value) := [(4, .int (J i)), (3, .ref (o + 630)), (2, .ref (rA o 608)), (1, .ref (rA o 0)), (0, .ref b)]
def xA (xs : Nat → Int32) (i j : Int) : Int := (xs (i + j).toNat).toInt
theorem xA_rg (xs : Nat → Int32) (i j : Int) : rg (xA xs i j) := ⟨Int32.le_toInt _, Int32.toInt_lt _⟩
theorem gl_SW {own : String} {idx : Nat} {y : MethodName} {b : ByteArray} {n : Nat} {r : Option FieldType} {hh : List (Nat × Nat × Nat × Nat)} (hl : Cond.methodLink own idx y ∈ TB) (hi : Cond.static y ∈ TB) (hn : Cond.initialized y.cls ∈ TB) (hc : Cond.codeWith y b n r hh ∈ TB) : GoodIn TB (va_wsS own idx y (wjW y b n r hh)) := by
  intro w hw
  have h2 : w ∈ TB := by
    rcases List.mem_append.mp hw with h1 | h1
    · simp only [List.mem_cons, List.not_mem_nil, or_false] at h1
      rcases h1 with rfl | rfl | rfl <;> assumption
    · exact (List.mem_cons.mp h1).elim (fun e => by rw [e]; exact hc) id
  exact ⟨h2, good_of_word (tb_good h2)⟩
theorem gl_V {own C : String} {idx : Nat} {y : MethodName} {b : ByteArray} {n : Nat} {r : Option FieldType} (hl : Cond.methodLink own idx y ∈ TB) (hi : Cond.instanceMethod y ∈ TB) (hs : Cond.selects C y y ∈ TB) (hn : Cond.initialized C ∈ TB) (hc : Cond.code y b n r ∈ TB) : GoodIn TB (wsV own idx C y (wj y b n r)) := by
  intro w hw
  have h2 : w ∈ TB := by
    rcases List.mem_append.mp hw with h1 | h1
    · simp only [List.mem_cons, List.not_mem_nil, or_false] at h1
      rcases h1 with rfl | rfl | rfl | rfl <;> assumption
    · exact (List.mem_cons.mp h1).elim (fun e => by rw [e]; exact hc) id
  exact ⟨h2, good_of_word (tb_good h2)⟩
section JL1
variable {p : Program} {l : Launch} {e : Env} {R : Room} {s : State} {m : MethodId} {args : Array Value} {below : List Frame} {meth : Method} {c : Code} {H H0 : Heap} {locs : List Loc} {cells slots : Nat} {Q : State → Prop} {cc : ByteArray} {pc : Nat} {ls : Array Slot} {rest st0 : List Value} {D : va_G} {cy : Nat → ClassId} {o : Nat} {sK sV : Nat → Nat} {M : jT} {z : Int}
theorem l_recv {C : String} {T : u_T} {N ci : Nat} {k : Int} (hK : va_K D jCl (tysF cy) s) (hG : GW D cy o M z s.heap H locs) (hc : jCl[ci]? = some (C, T, N)) (hk : kd k = ci + 1) (hci : ci < 11) : ∃ cell : Cell, H[rA o k]? = some cell ∧ cell.vm.isStatics = false ∧ s.vm.findClass C = some cell.cls := by
  have hr := kd_rng (k := k) (by omega)
  have he : ce cy o k (M k) = .inr (ci, fl o (M k) (ci + 1) k) := by
    unfold ce; rw [hk, if_pos (by omega)]; rfl
  have hw := wsM_get cy o M hr.1 hr.2
  rw [he] at hw
  exact va_recv hK hG.1 hc hw
theorem l_pay {U : State} (hK : va_K D jCl (tysF cy) s) (hSX : SX o sK sV s) (ho : s.heap.size = o) (hG : GW D cy o M z s.heap H locs) (hU : U.heap = H) (hW : s.WarmedH U.vm) : GP D cy o sK sV M U :=
  ⟨by rw [hU]; exact hG.1, va_K.moved hW.alike hK, hSX.warm hW (fun a h1 h2 => by rw [hU]; exact hG.2.2.2.1 a h1 (fun q => by have q : o ≤ a := q; omega))⟩
theorem l_preV {C : String} {T : u_T} {N ci : Nat} {k : Int} {As : List Value} (hK : va_K D jCl (tysF cy) s) (hSX : SX o sK sV s) (ho : s.heap.size = o) (hG : GW D cy o M z s.heap H locs) (hc : jCl[ci]? = some (C, T, N)) (hk : kd k = ci + 1) (hci : ci < 11) : PreV s H C (rA o k) (va_Pc (.ref (rA o k) :: As) (GP D cy o sK sV M)) As :=
  ⟨GP.blind, l_recv hK hG hc hk hci, fun U hU hW => ⟨rfl, l_pay hK hSX ho hG hU hW⟩⟩
theorem l_preS {As : List Value} (hK : va_K D jCl (tysF cy) s) (hSX : SX o sK sV s) (hN : NC s) (ho : s.heap.size = o) (hG : GW D cy o M z s.heap H locs) : PreS s H (va_Pc As (GL D cy o sK sV M z)) As :=
  ⟨GL.blind, fun U hU hW => ⟨rfl, l_pay hK hSX ho hG hU hW, by rw [hU]; exact hG.2.1, fun q hq => (hN q hq).moved hW.alike⟩⟩
theorem l_cont {Q1 : Int → Int → jT → Prop} {a : Array Value} {mc ms : Nat} (hr : va_Run p l e R s m args below meth c H locs cells slots mc ms (F0 m pc ls st0) rest (LQ D cy o Q1 a) (oF o)) {c2 s2 : Nat} (hG : GW D cy o M z H0 H locs) (he : cells + mc ≤ c2 ∧ slots + ms ≤ s2)
    (kk : ∀ (k z : Int) (M : jT), Q1 k z M → ∀ (H : Heap) (locs : List Loc), GW D cy o M z H0 H locs → W p l e R s m args below meth c H locs c2 s2 Q (F0 m (pc + 3) ls (.int (J k) :: rest))) : W p l e R s m args below meth c H locs cells slots Q (F0 m pc ls st0) := by
  refine va_calli hr hG.2.2 (fun q _ h => h) (fun q h => h) (fun r u t H1 locs1 ht hvm hw hB hz hk hS => ?_)
  obtain ⟨k, rfl, hq⟩ := hw
  refine W.widen (k := c2) (n := s2) he.1 he.2 ?_
  exact kk k u.2 u.1 hq H1 locs1 ⟨by rw [← ht]; exact hB.1, by rw [← ht]; exact hB.2, hS⟩
theorem l_conti {Q1 : Int → jT → Prop} {a : Array Value} {mc ms : Nat} (hr : va_Run p l e R s m args below meth c H locs cells slots mc ms (F0 m pc ls st0) rest (jQi D cy o Q1 a) (oA o)) {c2 s2 : Nat} (hG : GW D cy o M z H0 H locs) (he : cells + mc ≤ c2 ∧ slots + ms ≤ s2)
    (kk : ∀ (v : Int) (M : jT), Q1 v M → ∀ (H : Heap) (locs : List Loc), GW D cy o M z H0 H locs → W p l e R s m args below meth c H locs c2 s2 Q (F0 m (pc + 3) ls (.int (J v) :: rest))) : W p l e R s m args below meth c H locs cells slots Q (F0 m pc ls st0) := by
  refine va_calli hr hG.2.2 (fun q _ h => h.1) (fun q h => h.1) (fun r u t H1 locs1 ht hvm hw hB hz hk hS => ?_)
  obtain ⟨v, rfl, hq⟩ := hw
  refine W.widen (k := c2) (n := s2) he.1 he.2 ?_
  refine kk v u hq H1 locs1 ⟨by rw [← ht]; exact hB, ?_, hS⟩
  have h1 := hk (o + 630) hG.2.1.lt (fun q => q.2 rfl)
  unfold OutAt; rw [h1]; exact hG.2.1
theorem l_arg (hx : p.tables.exec = Jvm.exec) (hb : c.code = cc) {b L : Nat} {xs : Nat → Int32} {i j : Int} (hX : va_X b L xs s s.heap) (hbl : b < s.heap.size) (ho : s.heap.size = o) (hG : GW D cy o M z s.heap H locs) (h0 : ls[0]? = some (.val (.ref b))) (h4 : ls[4]? = some (.val (.int (J i)))) (hi : 0 ≤ i ∧ i + 6 < L ∧ L < 100000) (hj : 0 ≤ j ∧ j ≤ 6)
    (d0 : decode cc pc = .ok (.aload_n 0, 1)) (d1 : decode cc (pc + 1) = .ok (.iload 4, 2)) (d2 : decode cc (pc + 3) = .ok (.iconst j, 1)) (d3 : decode cc (pc + 4) = .ok (.iadd, 1)) (d4 : decode cc (pc + 5) = .ok (.iaload, 1))
    (kk : W p l e R s m args below meth c H locs cells slots Q (F0 m (pc + 6) ls (.int (J (xA xs i j)) :: rest))) : W p l e R s m args below meth c H locs cells slots Q (F0 m pc ls rest) := by
  refine lv_aload_n hx hb d0 rfl h0 ?_
  refine lv_iload hx hb d1 h4 ?_
  refine lv_iconst (v := J j) hx hb d2 rfl ?_
  refine j_iadd hx hb d3 ?_
  refine va_sld (A := oF o) hx hb hX hbl (fun q => by have q : o ≤ b := q; omega) hG.2.2 (J_in (by omega) (by omega) (by omega)) d4 ?_
  rw [J_cl (by omega) (by omega), ← J_of (xs (i + j).toNat)]
  exact kk
theorem l_arg6 (hx : p.tables.exec = Jvm.exec) (hb : c.code = cc) {b L : Nat} {xs : Nat → Int32} {i : Int} (hX : va_X b L xs s s.heap) (hbl : b < s.heap.size) (ho : s.heap.size = o) (hG : GW D cy o M z s.heap H locs) (h0 : ls[0]? = some (.val (.ref b))) (h4 : ls[4]? = some (.val (.int (J i)))) (hi : 0 ≤ i ∧ i + 6 < L ∧ L < 100000)
    (d0 : decode cc pc = .ok (.aload_n 0, 1)) (d1 : decode cc (pc + 1) = .ok (.iload 4, 2)) (d2 : decode cc (pc + 3) = .ok (.bipush 6, 2)) (d3 : decode cc (pc + 5) = .ok (.iadd, 1)) (d4 : decode cc (pc + 6) = .ok (.iaload, 1))
    (kk : W p l e R s m args below meth c H locs cells slots Q (F0 m (pc + 7) ls (.int (J (xA xs i 6)) :: rest))) : W p l e R s m args below meth c H locs cells slots Q (F0 m pc ls rest) := by
  refine lv_aload_n hx hb d0 rfl h0 ?_
  refine lv_iload hx hb d1 h4 ?_
  refine lv_bipush (v := J 6) hx hb d2 (by decide) ?_
  refine j_iadd hx hb d3 ?_
  refine va_sld (A := oF o) hx hb hX hbl (fun q => by have q : o ≤ b := q; omega) hG.2.2 (J_in (by omega) (by omega) (by omega)) d4 ?_
  rw [J_cl (by omega) (by omega), ← J_of (xs (i + 6).toNat)]
  exact kk
end JL1
section JL2
variable {p : Program} {l : Launch} {e : Env} {s : State} {m : MethodId} {below : List Frame} {meth : Method} {c : Code} {H : Heap} {locs : List Loc} {cells slots : Nat} {Q : State → Prop} {pc : Nat} {ls : Array Slot} {rest st0 : List Value} {D : va_G} {cy : Nat → ClassId} {o b L : Nat} {xs : Nat → Int32} {sK sV : Nat → Nat} {M : jT} {z i k v : Int}
theorem nzv_rl (v : Int) : rl (nzv v) := by
  have h1 := Int32.le_toInt (J v)
  have h2 := Int32.toInt_lt (J v)
  unfold nzv
  exact ⟨by omega, by omega⟩
/-- from the reference's answer to the end of the case -/
theorem l_tail (S : LA p l s m meth c b L xs D cy o sK sV) (hG : GW D cy o M z s.heap H locs) (hI : Inv M) (hl : lv_has ls 7 ((5, .int (J k)) :: lw_l o b i)) (hk : (0 ≤ k ∧ k ≤ 3) ∧ M 608 0 = k ∧ (k = 0 → nzv v = z)) (hf : cells ≤ 601024 ∧ slots ≤ 7293034) {off : Int}
    (d0 : decode cL_law pc = .ok (.istore 6, 2)) (d1 : decode cL_law (pc + 2) = .ok (.aload_n 2, 1)) (d2 : decode cL_law (pc + 3) = .ok (.invokevirtual 153, 3)) (d3 : decode cL_law (pc + 6) = .ok (.iload 5, 2)) (d4 : decode cL_law (pc + 8) = .ok (.if_icmp .eq 5, 3)) (d5 : decode cL_law (pc + 13) = .ok (.iload 5, 2)) (d6 : decode cL_law (pc + 15) = .ok (.ifCond .ne 15, 3)) (d7 : decode cL_law (pc + 18) = .ok (.aload_n 3, 1)) (d8 : decode cL_law (pc + 19) = .ok (.iconst 0, 1)) (d9 : decode cL_law (pc + 20) = .ok (.laload, 1)) (d10 : decode cL_law (pc + 21) = .ok (.iload 6, 2)) (d11 : decode cL_law (pc + 23) = .ok (.i2l, 1)) (d12 : decode cL_law (pc + 24) = .ok (.lcmp, 1)) (d13 : decode cL_law (pc + 25) = .ok (.ifCond .eq 5, 3)) (d14 : decode cL_law (pc + 30) = .ok (.goto off, 3)) (ho : ((pc + 30 : Nat) : Int) + off = 3058)
    (kk : ∀ (M : jT) (z : Int) (H : Heap) (locs : List Loc) (ls : Array Slot), GW D cy o M z s.heap H locs → Inv M → lv_has ls 7 (lw_l o b i) → W p l e room_1 s m #[.ref b] below meth c H locs cells slots Q (F0 m 3058 ls [])) : W p l e room_1 s m #[.ref b] below meth c H locs cells slots Q (F0 m pc ls [.int (J v)]) := by
  obtain ⟨hx, hb, hml, hown, hts, hX, hbl, hK, hSX, hN, hso, hst⟩ := S
  refine lv_istore (lv' := (6, .int (J v)) :: (5, .int (J k)) :: lw_l o b i) hx hb d0 hl (by decide) rfl (fun ls hl => ?_)
  refine lv_aload_n hx hb d1 rfl (lv_at hl 4 rfl) ?_
  refine l_conti (va_runV (As := []) (rest := []) ⟨hx, hb, hml, hown, hts⟩ (A_X11_thrown l (a0 := 608) rfl) (cwV 0 hts (gl_V ml_RL_153 i_X11_thrown s_X11_thrown n_RX11 k_X11_thrown) rfl rfl rfl (by decide +kernel) ⟨by exact Nat.le_of_ble_eq_true rfl, by exact Nat.le_of_ble_eq_true rfl⟩) (l_preV hK hSX hso hG (ci := 10) rfl rfl (by decide)) rfl rfl hl.1 rfl (lv_room (Nat.le_of_ble_eq_true rfl)) d2 ⟨hf.1, hf.2⟩) hG (c2 := cells) (s2 := slots) ⟨Nat.le_refl _, Nat.le_refl _⟩ (fun t M3 ht H locs hG => ?_)
  obtain ⟨ht, hM⟩ := ht
  rw [hM] at hG
  have ht : t = k := by rw [ht, ← hk.2.1]; rfl
  subst ht
  have hr : rg t := ⟨by omega, by omega⟩
  refine lv_iload hx hb d3 (lv_at hl 1 rfl) ?_
  refine j_icmp_eq (tgt := pc + 13) hx hb d4 (by omega) hr hr (fun _ => ?_) (fun q => absurd rfl q)
  refine lv_iload hx hb d5 (lv_at hl 1 rfl) ?_
  have hout : W p l e room_1 s m #[.ref b] below meth c H locs cells slots Q (F0 m (pc + 30) ls []) := by
    refine lv_goto (tgt := 3058) hx hb d14 (by omega) ?_
    exact kk M z H locs ls hG hI (lv_sub hl [2, 3, 4, 5, 6] rfl)
  refine j_if_ne (tgt := pc + 30) hx hb d6 (by omega) hr (fun _ => hout) (fun q => ?_)
  have hz := hk.2.2 q
  refine lv_aload_n hx hb d7 rfl (lv_at hl 3 rfl) ?_
  refine lv_iconst (v := J 0) hx hb d8 (by decide) ?_
  refine l_lald hx hb hK hG d9 ?_
  refine lv_iload hx hb d10 (lv_at hl 0 rfl) ?_
  refine l_i2l hx hb d11 ?_
  rw [hz]
  have hzr : rl z := by rw [← hz]; exact nzv_rl v
  exact j_lcmp_eq (tgt := pc + 30) hx hb d12 d13 (by omega) hzr hzr (fun _ => hout) (fun q => absurd rfl q)
end JL2
end
