noncomputable section
def slS : Nat := 41620
theorem gl_self {y : MethodName} {b : ByteArray} {n : Nat} {r : Option FieldType} (h : Cond.code y b n r ∈ TB) : GoodIn TB (wj y b n r) := by
  intro w hw
  have h1 : w ∈ TB := (List.mem_cons.mp hw).elim (fun e => by rw [e]; exact h) id
  exact ⟨h1, good_of_word (tb_good h1)⟩
theorem l_loop {p : Program} {l : Launch} {e : Env} {s : State} {m : MethodId} {below : List Frame} {meth : Method} {c : Code} {Q : State → Prop} {D : va_G} {cy : Nat → ClassId} {o b L : Nat} {xs : Nat → Int32} {sK sV : Nat → Nat} (S : LA p l s m meth c b L xs D cy o sK sV) (hL : L ≤ 3584) (hend : ∀ (H : Heap) (ls : Array Slot), W p l e room_1 s m #[.ref b] below meth c H [] 601024 7293034 Q (F0 m 3065 ls [.int 1])) :
    ∀ (r n : Nat), 512 ≤ n + r → n ≤ 512 → ∀ (i : Int), i = 7 * n → ∀ (M : jT) (z : Int) (H : Heap) (locs : List Loc) (ls : Array Slot), GW D cy o M z s.heap H locs → Inv M → lv_has ls 7 (lw_l o b i) → W p l e room_1 s m #[.ref b] below meth c H locs (631 + n) (slS + 6 * n) Q (F0 m 23 ls []) := by
  obtain ⟨hx, hb, hml, hown, hts, hX, hbl, hK, hSX, hN, hso, hst⟩ := S
  have S : LA p l s m meth c b L xs D cy o sK sV := ⟨hx, hb, hml, hown, hts, hX, hbl, hK, hSX, hN, hso, hst⟩
  have hbA : ¬ oF o b := fun q => by have q : o ≤ b := q; omega
  have out : ∀ (n : Nat), n ≤ 512 → ∀ (M : jT) (z : Int) (H : Heap) (locs : List Loc) (ls : Array Slot), GW D cy o M z s.heap H locs → W p l e room_1 s m #[.ref b] below meth c H locs (631 + n) (slS + 6 * n) Q (F0 m 3064 ls []) := by
    intro n hn M z H locs ls hG
    refine va_forget (fun q hq => by have h : o ≤ q.base := hG.2.2.2.2 q hq; omega) ?_
    refine lv_iconst (v := J 1) hx hb dL_law_3064 (by decide) ?_
    refine W.widen (k := 601024) (n := 7293034) (by omega) (by unfold slS; omega) ?_
    exact hend H ls
  intro r
  induction r with
  | zero =>
    intro n h1 h2 i hi M z H locs ls hG hI hl
    refine lv_iload hx hb dL_law_23 (lv_at hl 0 rfl) ?_
    refine lv_aload_n hx hb dL_law_25 rfl (lv_at hl 4 rfl) ?_
    refine va_slen (A := oF o) hx hb hX hbl hbA hG.2.2 dL_law_26 ?_
    rw [show Int32.ofNat L = J (L : Int) by rw [J_nI (by omega)]; rfl]
    refine lv_bipush (v := J 7) hx hb dL_law_27 (by decide) ?_
    refine j_isub hx hb dL_law_29 ?_
    refine j_icmp_gt (tgt := 3064) hx hb dL_law_30 (by decide) ⟨by omega, by omega⟩ ⟨by omega, by omega⟩ (fun _ => ?_) (fun q => by omega)
    exact out n h2 M z H locs ls hG
  | succ r ih =>
    intro n h1 h2 i hi M z H locs ls hG hI hl
    refine lv_iload hx hb dL_law_23 (lv_at hl 0 rfl) ?_
    refine lv_aload_n hx hb dL_law_25 rfl (lv_at hl 4 rfl) ?_
    refine va_slen (A := oF o) hx hb hX hbl hbA hG.2.2 dL_law_26 ?_
    rw [show Int32.ofNat L = J (L : Int) by rw [J_nI (by omega)]; rfl]
    refine lv_bipush (v := J 7) hx hb dL_law_27 (by decide) ?_
    refine j_isub hx hb dL_law_29 ?_
    refine j_icmp_gt (tgt := 3064) hx hb dL_law_30 (by decide) ⟨by omega, by omega⟩ ⟨by omega, by omega⟩ (fun _ => ?_) (fun q => ?_)
    · exact out n h2 M z H locs ls hG
    have hi7 : 0 ≤ i ∧ i + 6 < L ∧ L < 100000 := by omega
    have hf : 631 + n + 1 ≤ 601024 ∧ slS + 6 * n + 6 ≤ 7293034 := ⟨by omega, by unfold slS; omega⟩
    have next : ∀ (M : jT) (z : Int) (H : Heap) (locs : List Loc) (ls : Array Slot), GW D cy o M z s.heap H locs → Inv M → lv_has ls 7 (lw_l o b i) → W p l e room_1 s m #[.ref b] below meth c H locs (631 + n + 1) (slS + 6 * n + 6) Q (F0 m 3058 ls []) := by
      intro M z H locs ls hG hI hl
      refine j_iinc hx hb dL_law_3058 hl (k := 0) rfl (by decide) (fun y ey ls hl => ?_)
      refine lv_goto (tgt := 23) hx hb dL_law_3061 (by decide) ?_
      exact ih (n + 1) (by omega) (by omega) y (by omega) M z H locs ls hG hI hl
    refine lv_aload_n hx hb dL_law_33 rfl (lv_at hl 4 rfl) ?_
    refine lv_iload hx hb dL_law_34 (lv_at hl 0 rfl) ?_
    refine va_sld (A := oF o) hx hb hX hbl hbA hG.2.2 (J_in (by omega) (by omega) (by omega)) dL_law_36 ?_
    generalize hxv : xs (J i).toNatClampNeg = x0
    rw [← J_of x0]
    refine lv_bipush (v := J 63) hx hb dL_law_37 (by decide) ?_
    refine j_iand hx hb 6 (by decide) dL_law_39 (by decide) ?_
    have hv : 0 ≤ x0.toInt % 2 ^ 6 ∧ x0.toInt % 2 ^ 6 < 64 := by omega
    generalize x0.toInt % 2 ^ 6 = v at hv
    have hc : 40 < v ∨ v = 0 ∨ v = 1 ∨ v = 2 ∨ v = 3 ∨ v = 4 ∨ v = 5 ∨ v = 6 ∨ v = 7 ∨ v = 8 ∨ v = 9 ∨ v = 10 ∨ v = 11 ∨ v = 12 ∨ v = 13 ∨ v = 14 ∨ v = 15 ∨ v = 16 ∨ v = 17 ∨ v = 18 ∨ v = 19 ∨ v = 20 ∨ v = 21 ∨ v = 22 ∨ v = 23 ∨ v = 24 ∨ v = 25 ∨ v = 26 ∨ v = 27 ∨ v = 28 ∨ v = 29 ∨ v = 30 ∨ v = 31 ∨ v = 32 ∨ v = 33 ∨ v = 34 ∨ v = 35 ∨ v = 36 ∨ v = 37 ∨ v = 38 ∨ v = 39 ∨ v = 40 := by omega
    rcases hc with hv4 | rfl | rfl | rfl | rfl | rfl | rfl | rfl | rfl | rfl | rfl | rfl | rfl | rfl | rfl | rfl | rfl | rfl | rfl | rfl | rfl | rfl | rfl | rfl | rfl | rfl | rfl | rfl | rfl | rfl | rfl | rfl | rfl | rfl | rfl | rfl | rfl | rfl | rfl | rfl | rfl | rfl
    · refine lv_tableOut (tgt := 3058) hx hb dL_law_40 (Or.inr ?_) (by decide) ?_
      · rw [J_toInt ⟨by omega, by omega⟩]; exact hv4
      · exact W.widen (k := 631 + n + 1) (n := slS + 6 * n + 6) (by omega) (by omega) (next M z H locs ls hG hI hl)
    · refine lv_tableIn (tgt := 220) (off := 180) hx hb dL_law_40 (by decide +kernel) (by decide +kernel) (by decide +kernel) (by decide) ?_
      exact lc_0 S hG hI hi7 hl hf next
    · refine lv_tableIn (tgt := 300) (off := 260) hx hb dL_law_40 (by decide +kernel) (by decide +kernel) (by decide +kernel) (by decide) ?_
      exact lc_1 S hG hI hi7 hl hf next
    · refine lv_tableIn (tgt := 368) (off := 328) hx hb dL_law_40 (by decide +kernel) (by decide +kernel) (by decide +kernel) (by decide) ?_
      exact lc_2 S hG hI hi7 hl hf next
    · refine lv_tableIn (tgt := 424) (off := 384) hx hb dL_law_40 (by decide +kernel) (by decide +kernel) (by decide +kernel) (by decide) ?_
      exact lc_3 S hG hI hi7 hl hf next
    · refine lv_tableIn (tgt := 504) (off := 464) hx hb dL_law_40 (by decide +kernel) (by decide +kernel) (by decide +kernel) (by decide) ?_
      exact lc_4 S hG hI hi7 hl hf next
    · refine lv_tableIn (tgt := 622) (off := 582) hx hb dL_law_40 (by decide +kernel) (by decide +kernel) (by decide +kernel) (by decide) ?_
      exact lc_5 S hG hI hi7 hl hf next
    · refine lv_tableIn (tgt := 690) (off := 650) hx hb dL_law_40 (by decide +kernel) (by decide +kernel) (by decide +kernel) (by decide) ?_
      exact lc_6 S hG hI hi7 hl hf next
    · refine lv_tableIn (tgt := 758) (off := 718) hx hb dL_law_40 (by decide +kernel) (by decide +kernel) (by decide +kernel) (by decide) ?_
      exact lc_7 S hG hI hi7 hl hf next
    · refine lv_tableIn (tgt := 838) (off := 798) hx hb dL_law_40 (by decide +kernel) (by decide +kernel) (by decide +kernel) (by decide) ?_
      exact lc_8 S hG hI hi7 hl hf next
    · refine lv_tableIn (tgt := 918) (off := 878) hx hb dL_law_40 (by decide +kernel) (by decide +kernel) (by decide +kernel) (by decide) ?_
      exact lc_9 S hG hI hi7 hl hf next
    · refine lv_tableIn (tgt := 998) (off := 958) hx hb dL_law_40 (by decide +kernel) (by decide +kernel) (by decide +kernel) (by decide) ?_
      exact lc_10 S hG hI hi7 hl hf next
    · refine lv_tableIn (tgt := 1078) (off := 1038) hx hb dL_law_40 (by decide +kernel) (by decide +kernel) (by decide +kernel) (by decide) ?_
      exact lc_11 S hG hI hi7 hl hf next
    · refine lv_tableIn (tgt := 1146) (off := 1106) hx hb dL_law_40 (by decide +kernel) (by decide +kernel) (by decide +kernel) (by decide) ?_
      exact lc_12 S hG hI hi7 hl hf next
    · refine lv_tableIn (tgt := 1214) (off := 1174) hx hb dL_law_40 (by decide +kernel) (by decide +kernel) (by decide +kernel) (by decide) ?_
      exact lc_13 S hG hI hi7 hl hf next
    · refine lv_tableIn (tgt := 1282) (off := 1242) hx hb dL_law_40 (by decide +kernel) (by decide +kernel) (by decide +kernel) (by decide) ?_
      exact lc_14 S hG hI hi7 hl hf next
    · refine lv_tableIn (tgt := 1350) (off := 1310) hx hb dL_law_40 (by decide +kernel) (by decide +kernel) (by decide +kernel) (by decide) ?_
      exact lc_15 S hG hI hi7 hl hf next
    · refine lv_tableIn (tgt := 1418) (off := 1378) hx hb dL_law_40 (by decide +kernel) (by decide +kernel) (by decide +kernel) (by decide) ?_
      exact lc_16 S hG hI hi7 hl hf next
    · refine lv_tableIn (tgt := 1486) (off := 1446) hx hb dL_law_40 (by decide +kernel) (by decide +kernel) (by decide +kernel) (by decide) ?_
      exact lc_17 S hG hI hi7 hl hf next
    · refine lv_tableIn (tgt := 1566) (off := 1526) hx hb dL_law_40 (by decide +kernel) (by decide +kernel) (by decide +kernel) (by decide) ?_
      exact lc_18 S hG hI hi7 hl hf next
    · refine lv_tableIn (tgt := 1658) (off := 1618) hx hb dL_law_40 (by decide +kernel) (by decide +kernel) (by decide +kernel) (by decide) ?_
      exact lc_19 S hG hI hi7 hl hf next
    · refine lv_tableIn (tgt := 1726) (off := 1686) hx hb dL_law_40 (by decide +kernel) (by decide +kernel) (by decide +kernel) (by decide) ?_
      exact lc_20 S hG hI hi7 hl hf next
    · refine lv_tableIn (tgt := 1806) (off := 1766) hx hb dL_law_40 (by decide +kernel) (by decide +kernel) (by decide +kernel) (by decide) ?_
      exact lc_21 S hG hI hi7 hl hf next
    · refine lv_tableIn (tgt := 1924) (off := 1884) hx hb dL_law_40 (by decide +kernel) (by decide +kernel) (by decide +kernel) (by decide) ?_
      exact lc_22 S hG hI hi7 hl hf next
    · refine lv_tableIn (tgt := 2016) (off := 1976) hx hb dL_law_40 (by decide +kernel) (by decide +kernel) (by decide +kernel) (by decide) ?_
      exact lc_23 S hG hI hi7 hl hf next
    · refine lv_tableIn (tgt := 2084) (off := 2044) hx hb dL_law_40 (by decide +kernel) (by decide +kernel) (by decide +kernel) (by decide) ?_
      exact lc_24 S hG hI hi7 hl hf next
    · refine lv_tableIn (tgt := 2164) (off := 2124) hx hb dL_law_40 (by decide +kernel) (by decide +kernel) (by decide +kernel) (by decide) ?_
      exact lc_25 S hG hI hi7 hl hf next
    · refine lv_tableIn (tgt := 2232) (off := 2192) hx hb dL_law_40 (by decide +kernel) (by decide +kernel) (by decide +kernel) (by decide) ?_
      exact lc_26 S hG hI hi7 hl hf next
    · refine lv_tableIn (tgt := 2312) (off := 2272) hx hb dL_law_40 (by decide +kernel) (by decide +kernel) (by decide +kernel) (by decide) ?_
      exact lc_27 S hG hI hi7 hl hf next
    · refine lv_tableIn (tgt := 2380) (off := 2340) hx hb dL_law_40 (by decide +kernel) (by decide +kernel) (by decide +kernel) (by decide) ?_
      exact lc_28 S hG hI hi7 hl hf next
    · refine lv_tableIn (tgt := 2448) (off := 2408) hx hb dL_law_40 (by decide +kernel) (by decide +kernel) (by decide +kernel) (by decide) ?_
      exact lc_29 S hG hI hi7 hl hf next
    · refine lv_tableIn (tgt := 2516) (off := 2476) hx hb dL_law_40 (by decide +kernel) (by decide +kernel) (by decide +kernel) (by decide) ?_
      exact lc_30 S hG hI hi7 hl hf next
    · refine lv_tableIn (tgt := 2584) (off := 2544) hx hb dL_law_40 (by decide +kernel) (by decide +kernel) (by decide +kernel) (by decide) ?_
      exact lc_31 S hG hI hi7 hl hf next
    · refine lv_tableIn (tgt := 2664) (off := 2624) hx hb dL_law_40 (by decide +kernel) (by decide +kernel) (by decide +kernel) (by decide) ?_
      exact lc_32 S hG hI hi7 hl hf next
    · refine lv_tableIn (tgt := 2720) (off := 2680) hx hb dL_law_40 (by decide +kernel) (by decide +kernel) (by decide +kernel) (by decide) ?_
      exact lc_33 S hG hI hi7 hl hf next
    · refine lv_tableIn (tgt := 2764) (off := 2724) hx hb dL_law_40 (by decide +kernel) (by decide +kernel) (by decide +kernel) (by decide) ?_
      exact lc_34 S hG hI hi7 hl hf next
    · refine lv_tableIn (tgt := 2777) (off := 2737) hx hb dL_law_40 (by decide +kernel) (by decide +kernel) (by decide +kernel) (by decide) ?_
      exact lc_35 S hG hI hi7 hl hf next
    · refine lv_tableIn (tgt := 2845) (off := 2805) hx hb dL_law_40 (by decide +kernel) (by decide +kernel) (by decide +kernel) (by decide) ?_
      exact lc_36 S hG hI hi7 hl hf next
    · refine lv_tableIn (tgt := 2901) (off := 2861) hx hb dL_law_40 (by decide +kernel) (by decide +kernel) (by decide +kernel) (by decide) ?_
      exact lc_37 S hG hI hi7 hl hf next
    · refine lv_tableIn (tgt := 2945) (off := 2905) hx hb dL_law_40 (by decide +kernel) (by decide +kernel) (by decide +kernel) (by decide) ?_
      exact lc_38 S hG hI hi7 hl hf next
    · refine lv_tableIn (tgt := 2958) (off := 2918) hx hb dL_law_40 (by decide +kernel) (by decide +kernel) (by decide +kernel) (by decide) ?_
      exact lc_39 S hG hI hi7 hl hf next
    · refine lv_tableIn (tgt := 3002) (off := 2962) hx hb dL_law_40 (by decide +kernel) (by decide +kernel) (by decide +kernel) (by decide) ?_
      exact lc_40 S hG hI hi7 hl hf next
theorem fin_P {D : va_G} {cy : Nat → ClassId} {o : Nat} {s : State} {H : Heap} {locs : List Loc} {cells : Nat} (hG : GC D o (upC (fin cy o) 630 (.inl (cy 1, (1, .inr (.inl fun _ => JL 0))))) 631 s H locs cells) : GW D cy o M0 0 s.heap H locs := by
  obtain ⟨h1, h2, -, -⟩ := hG
  rw [← wsC_snoc] at h1
  refine ⟨fun k q hq => h1 k q ?_, ?_, h2⟩
  · have hk : k < 630 := by have := (List.getElem?_eq_some_iff.mp hq).1; rw [wsM_len] at this; exact this
    rw [List.getElem?_append_left (by rw [wsC_len]; exact hk)]
    exact hq
  · have := h1 630 (o + 630, .inl (cy 1, (1, .inr (.inl fun _ => JL 0)))) (by rw [List.getElem?_append_right (by rw [wsC_len]; omega), wsC_len]; rfl)
    have e : ou 0 = fun _ => JL 0 := by funext j; unfold ou; split <;> rfl
    unfold OutAt; rw [e]; exact this
theorem l_begin {p : Program} {l : Launch} {e : Env} {s : State} {m : MethodId} {below : List Frame} {meth : Method} {c : Code} {Q : State → Prop} {D : va_G} {cy : Nat → ClassId} {b L : Nat} {xs : Nat → Int32} {sK sV : Nat → Nat} (S : LA p l s m meth c b L xs D cy s.heap.size sK sV) (hI : Inv M0) (hNX : NX s) (hL : L ≤ 3584) (hend : ∀ (H : Heap) (ls : Array Slot), W p l e room_1 s m #[.ref b] below meth c H [] 601024 7293034 Q (F0 m 3065 ls [.int 1])) {ls : Array Slot} (hl : lv_has ls 7 [(0, .ref b)]) : W p l e room_1 s m #[.ref b] below meth c s.heap [] 0 0 Q (F0 m 0 ls []) := by
  obtain ⟨hx, hb, hml, hown, hts, hX, hbl, hK, hSX, hN, hso, hst⟩ := S
  have S : LA p l s m meth c b L xs D cy s.heap.size sK sV := ⟨hx, hb, hml, hown, hts, hX, hbl, hK, hSX, hN, hso, hst⟩
  generalize ho : s.heap.size = o at S
  have hG : GC D o (fun _ => .inr (0, [])) 0 s s.heap [] 0 := ⟨fun k q hq => by simp [wsC] at hq, va_S.rf, by omega, by omega⟩
  refine k_new hx hb hts u_X10 tyX10 tyX10_ok hown (hts _ xl_RL_8) (hts _ it_RX10) (hts _ n_RX10) hK hG (ci := 9) (fs := [.null, .null, .null, .null, .null, .null, .null, .null, .null]) rfl (fun j hj => df_X10 j hj) (by show 0 + 1 ≤ 601024; omega) (by show 0 + 9 ≤ 7293034; omega) dL_law_0 (fun H hG => ?_)
  refine lv_dup hx hb dL_law_3 rfl ?_
  refine k_sz (fun hz => ?_)
  refine k_cont (mc := 607) (ms := 23235) hG (va_runI (As := []) (rest := [.ref (o + 0)]) ⟨hx, hb, hml, hown, hts⟩ (K_X10 l (o := o) (n := 0) (cy := cy) (D := D) rfl rfl (by unfold upC; rw [if_pos rfl])) (cwI 0 hts (gl_self k_X10_init) rfl rfl rfl (hts _ n_RX10) (hts _ ml_RL_143) (hts _ i_X10_init) rfl (by decide +kernel) ⟨by exact Nat.le_of_ble_eq_true rfl, by exact Nat.le_of_ble_eq_true rfl⟩) (k_pre hK hNX hG hz) rfl rfl hl.1 rfl (lv_room (Nat.le_of_ble_eq_true rfl)) dL_law_4 ⟨by show _ + 607 ≤ 601024; omega, by show _ + 23235 ≤ 7293034; omega⟩) rfl (fun H locs hG => ?_)
  refine lv_astore_n (lv' := [(1, .ref (o + 0)), (0, .ref b)]) hx hb dL_law_7 rfl hl (by decide) rfl (fun ls hl => ?_)
  refine k_new hx hb hts u_X11 tyX11 tyX11_ok hown (hts _ xl_RL_144) (hts _ it_RX11) (hts _ n_RX11) hK hG (ci := 10) (fs := [.int (J 0), .null, .null, .int (J 0), .null, .int (J 0), .null, .null, .int (J 0), .int (J 0), .int (J 0), .null, .int (J 0), .null, .int (J 0), .int (J 0), .null, .null, .int (J 0), .null, .null, .null, .null, .null, .int (J 0), .null, .null, .null, .int (J 0), .int (J 0), .int (J 0), .null, .null, .int (J 0), .null, .null, .int (J 0)]) rfl (fun j hj => df_X11 j hj) (by show 608 + 1 ≤ 601024; omega) (by show 23244 + 37 ≤ 7293034; omega) dL_law_8 (fun H hG => ?_)
  refine lv_dup hx hb dL_law_11 rfl ?_
  refine k_sz (fun hz => ?_)
  refine k_cont (mc := 21) (ms := 18338) hG (va_runI (As := []) (rest := [.ref (o + 608)]) ⟨hx, hb, hml, hown, hts⟩ (K_X11 l (o := o) (n := 608) (cy := cy) (D := D) rfl rfl (by unfold upC; rw [if_pos rfl])) (cwI 0 hts (gl_self k_X11_init) rfl rfl rfl (hts _ n_RX11) (hts _ ml_RL_146) (hts _ i_X11_init) rfl (by decide +kernel) ⟨by exact Nat.le_of_ble_eq_true rfl, by exact Nat.le_of_ble_eq_true rfl⟩) (k_pre hK hNX hG hz) rfl rfl hl.1 rfl (lv_room (Nat.le_of_ble_eq_true rfl)) dL_law_12 ⟨by show _ + 21 ≤ 601024; omega, by show _ + 18338 ≤ 7293034; omega⟩) rfl (fun H locs hG => ?_)
  refine lv_astore_n (lv' := [(2, .ref (o + 608)), (1, .ref (o + 0)), (0, .ref b)]) hx hb dL_law_15 rfl hl (by decide) rfl (fun ls hl => ?_)
  have hG := hG.congr (C' := fin cy o) (fun i hi => by
    dsimp only
    by_cases c1 : i < 608
    · rw [if_pos c1]; unfold upC; rw [if_neg (show ¬ i = 608 by omega)]; show (if i < 0 then _ else fin cy o i) = _; rw [if_neg (by omega)]
    · rw [if_neg c1])
  refine lv_iconst (v := J 1) hx hb dL_law_16 (by decide) ?_
  refine k_newL (cy := cy) (N := 1) hx hb (hts _ ac_long) hK hG rfl (by omega) (by show _ + 1 ≤ 601024; omega) (by show _ + 1 ≤ 7293034; omega) dL_law_17 (fun H hG => ?_)
  refine lv_astore_n (lv' := [(3, .ref (o + 630)), (2, .ref (o + 608)), (1, .ref (o + 0)), (0, .ref b)]) hx hb dL_law_19 rfl hl (by decide) rfl (fun ls hl => ?_)
  refine lv_iconst (v := J 0) hx hb dL_law_20 (by decide) ?_
  refine lv_istore (lv' := [(4, .int (J 0)), (3, .ref (o + 630)), (2, .ref (o + 608)), (1, .ref (o + 0)), (0, .ref b)]) hx hb dL_law_21 hl (by decide) rfl (fun ls hl => ?_)
  have hl : lv_has ls 7 (lw_l o b 0) := hl
  have hG := fin_P hG
  refine W.widen (k := 631 + 0) (n := slS + 6 * 0) (by omega) (by unfold slS; omega) ?_
  exact l_loop S hL hend 512 0 (by omega) (by omega) 0 (by omega) M0 0 H locs ls hG hI hl
end
