/-! the cells of the system, told by their distance from the first one: kinds, fields, rows -/
abbrev jCl : List vw_C := [(RX0, TX0, 4), (RX2, TX2, 5), (RX3, TX3, 5), (RX4, TX4, 11), (RX5, TX5, 5), (RX6, TX6, 6), (RX7, TX7, 16), (RX8, TX8, 2), (RX9, TX9, 6), (RX10, TX10, 9), (RX11, TX11, 37)]
def kdB (j : Nat) : Nat := if j = 0 then 1 else if j = 1 then 20 else if j = 2 then 21 else if j < 27 then (if (j - 3) % 4 = 0 then 9 else if (j - 3) % 4 = 1 then 1056 else 1004) else if (j - 27) % 2 = 0 then 4 else 1040
def kdM : List Nat := [2294, 11352, 2294, 2294, 1060, 1060, 1008, 1261, 1261, 1261, 1261, 1261, 1261, 1261, 1261, 1261, 1261, 1526, 1040, 1400, 1400]
def kdN (k : Nat) : Nat := if k = 0 then 10 else if k < 48 then kdB (k - 1) else if k = 48 then 3 else if k < 96 then kdB (k - 49) else if k = 96 then 22 else if k < 520 then kdB ((k - 97) % 47) else if k = 520 then 23 else if k < 569 then (if (k - 521) % 8 = 0 then 7 else if (k - 521) % 8 = 7 then 1261 else 1260) else if k = 569 then 24 else if k < 600 then (if (k - 570) % 3 = 0 then 5 else 1040) else if k = 600 then 2 else if k = 601 then 6 else if k = 602 then 200060 else if k = 603 then 1090 else if k = 604 then 8 else if k = 605 then 200060 else if k = 606 then 100260 else if k = 607 then 100400 else if k = 608 then 11 else if k < 630 then kdM.getD (k - 609) 0 else 0
def kd (k : Int) : Nat := if k < 0 then 0 else kdN k.toNat
def ftT : List (List Nat) := [[], [0, 0, 2, 2], [0, 0, 0, 0, 0], [0, 0, 2, 0, 2], [0, 0, 0, 0, 0, 0, 0, 0, 0, 1, 2], [0, 0, 0, 2, 2], [0, 0, 0, 0, 2, 2], [0, 0, 0, 0, 0, 0, 2, 2, 2, 2, 2, 2, 2, 0, 0, 0], [0, 2], [0, 0, 0, 2, 2, 2], [2, 2, 2, 2, 2, 2, 2, 2, 2], [0, 2, 2, 0, 2, 0, 2, 2, 0, 0, 0, 2, 0, 2, 0, 0, 2, 2, 0, 2, 2, 2, 2, 2, 0, 2, 2, 2, 0, 0, 0, 2, 2, 0, 2, 2, 0]]
def dlT : List (List Int) := [[], [0, 0, 1, 2], [0, 0, 0, 0, 0], [0, 0, 1, 0, 48], [0, 0, 0, 0, 0, 0, 0, 0, 0, 0, 1], [0, 0, 0, 1, 2], [0, 0, 0, 0, 1, 2], [0, 0, 0, 0, 0, 0, 1, 2, 3, 4, 5, 6, 7, 0, 0, 0], [0, 1], [0, 0, 0, 1, 2, 3], [1, 48, 520, 569, 600, 601, 604, 606, 607], [0, 1, 2, 0, 3, 0, 4, 5, 0, 0, 0, 6, 0, 7, 0, 0, 8, 9, 0, 10, 11, 12, 13, 14, 0, 15, 16, 17, 0, 0, 0, 18, 19, 0, 20, 21, 0]]
def ft (t j : Nat) : Nat := (ftT.getD t []).getD j 0
def dl (t j : Nat) : Int := (dlT.getD t []).getD j 0
def nf (t : Nat) : Nat := (ftT.getD t []).length
def raL : List (Nat × Int × Int) := [(6, 2, 4), (10, 25, 2), (9, 1, 47), (6, 1, 8), (10, 1, 3)]
def ra (t : Nat) : Nat × Int × Int := raL.getD (t - 20) (0, 0, 0)
def rA (o : Nat) (k : Int) : Nat := o + k.toNat
def fv (o : Nat) (r : Int → Int) (t : Nat) (k : Int) (j : Nat) : Value := if ft t j = 0 then .int (J (r j)) else if ft t j = 1 then .long (JL (r j)) else .ref (rA o (k + dl t j))
def fl (o : Nat) (r : Int → Int) (t : Nat) (k : Int) : List Value := (List.range (nf t)).map (fv o r t k)
/-- what the cell k holds, by its row r -/
def ce (cy : Nat → ClassId) (o : Nat) (k : Int) (r : Int → Int) : va_E :=
  if kd k < 20 then .inr (kd k - 1, fl o r (kd k) k)
  else if kd k < 1000 then .inl (cy (kd k - 17), ((ra (kd k)).1, .inr (.inr (.inr (.inr fun i => some (rA o (k + (ra (kd k)).2.1 + (ra (kd k)).2.2 * (i : Int))))))))
  else if kd k < 100000 then .inl (cy 0, (kd k - 1000, .inl fun i => J (r (i : Int))))
  else if kd k < 200000 then .inl (cy 1, (kd k - 100000, .inr (.inl fun i => JL (r (i : Int)))))
  else .inl (cy 2, (kd k - 200000, .inl fun i => J (r (i : Int))))
def wsM (cy : Nat → ClassId) (o : Nat) (M : jT) : va_W := (List.range 630).map fun i => (o + i, ce cy o (i : Int) (M (i : Int)))
abbrev tysF (cy : Nat → ClassId) : List (ClassId × FieldType) := [(cy 0, .int), (cy 1, .long), (cy 2, .char), (cy 3, .object "ZoneCompiler$Zone"), (cy 4, .object "ZoneCompiler$Meeting"), (cy 5, .object "ZoneCompiler$Book"), (cy 6, .object "ZoneCompiler$Timeline"), (cy 7, .object "ZoneCompiler$Plan")]
abbrev oA (o : Nat) : Nat → Prop := fun q => o ≤ q ∧ q ≠ o + 630
theorem kdN_big : ∀ n, kdN n ≠ 0 → n < 630 := by
  intro n h
  by_cases h1 : n < 630
  · exact h1
  · exfalso; apply h; unfold kdN
    repeat' (first | rw [if_neg (by omega)])
theorem kd_rng {k : Int} (h : kd k ≠ 0) : 0 ≤ k ∧ k < 630 := by
  unfold kd at h
  by_cases h0 : k < 0
  · rw [if_pos h0] at h; exact absurd rfl h
  · rw [if_neg h0] at h
    have := kdN_big _ h
    omega
theorem kd_nat (n : Nat) : kd (n : Int) = kdN n := by
  unfold kd; rw [if_neg (by omega)]; rfl
/-- a fact of all cells, by counting -/
theorem kd_all (t : Nat) (ht : t ≠ 0) (P : Nat → Prop) (h : ∀ n, n < 630 → kdN n = t → P n) {k : Int} (hk : kd k = t) : ∃ n : Nat, k = n ∧ P n := by
  have hr := kd_rng (k := k) (by rw [hk]; exact ht)
  obtain ⟨n, rfl⟩ := Int.eq_ofNat_of_zero_le hr.1
  rw [kd_nat] at hk
  exact ⟨n, rfl, h n (by omega) hk⟩
theorem wsM_len (cy : Nat → ClassId) (o : Nat) (M : jT) : (wsM cy o M).length = 630 := by simp [wsM]
theorem wsM_get (cy : Nat → ClassId) (o : Nat) (M : jT) {k : Int} (h0 : 0 ≤ k) (h1 : k < 630) : (wsM cy o M)[k.toNat]? = some (rA o k, ce cy o k (M k)) := by
  obtain ⟨n, rfl⟩ := Int.eq_ofNat_of_zero_le h0
  have hn : n < 630 := by omega
  simp [wsM, List.getElem?_map, List.getElem?_range, hn, rA]
theorem wsM_D (cy : Nat → ClassId) (o : Nat) (M : jT) : va_D (oA o) (wsM cy o M) := by
  refine ⟨fun i j p q hp hq e => ?_, fun k q hq => ?_⟩
  · have hi := (List.getElem?_eq_some_iff.mp hp).1
    have hj := (List.getElem?_eq_some_iff.mp hq).1
    rw [wsM_len] at hi hj
    simp [wsM, List.getElem?_map, List.getElem?_range, hi] at hp
    simp [wsM, List.getElem?_map, List.getElem?_range, hj] at hq
    subst hp; subst hq
    simpa using e
  · have hi := (List.getElem?_eq_some_iff.mp hq).1
    rw [wsM_len] at hi
    simp [wsM, List.getElem?_map, List.getElem?_range, hi] at hq
    subst hq
    show o ≤ o + k ∧ o + k ≠ o + 630
    omega
theorem wsM_set (cy : Nat → ClassId) (o : Nat) (M : jT) {k : Int} (h0 : 0 ≤ k) (h1 : k < 630) (j v : Int) {e : va_E} (he : e = ce cy o k (upr (M k) j v)) : (wsM cy o M).set k.toNat (rA o k, e) = wsM cy o (up M k j v) := by
  obtain ⟨n, rfl⟩ := Int.eq_ofNat_of_zero_le h0
  have hn : n < 630 := by omega
  apply List.ext_getElem?
  intro i
  by_cases hi : i < 630
  · rw [List.getElem?_set]
    by_cases e1 : n = i
    · subst e1
      have : (Int.toNat (n : Int)) = n := by omega
      simp only [this, if_true, wsM_len, hn]
      simp [wsM, List.getElem?_map, List.getElem?_range, hn, he, up, rA]
    · have : (Int.toNat (n : Int)) = n := by omega
      have e2 : ¬ ((i : Int) = (n : Int)) := by omega
      simp only [this, e1, if_false]
      simp [wsM, List.getElem?_map, List.getElem?_range, hi, up, e2]
  · rw [List.getElem?_eq_none (by rw [List.length_set, wsM_len]; omega), List.getElem?_eq_none (by rw [wsM_len]; omega)]
theorem fl_get {o : Nat} {r : Int → Int} {t : Nat} {k : Int} {j : Nat} (hj : j < nf t) : (fl o r t k)[j]? = some (fv o r t k j) := by
  simp [fl, List.getElem?_map, List.getElem?_range, hj]
theorem fl_len {o : Nat} {r : Int → Int} {t : Nat} {k : Int} : (fl o r t k).length = nf t := by simp [fl]
theorem fl_set {o : Nat} {r : Int → Int} {t : Nat} {k : Int} {j : Nat} {v : Int} {w : Value} (hw : w = fv o (upr r j v) t k j) : (fl o r t k).set j w = fl o (upr r j v) t k := by
  apply List.ext_getElem?
  intro i
  by_cases hi : i < nf t
  · rw [List.getElem?_set, fl_get hi, fl_len]
    by_cases e1 : j = i
    · subst e1
      rw [fl_get hi]
      simp [hi, hw]
    · rw [fl_get hi]
      have e2 : ¬ ((i : Int) = (j : Int)) := by omega
      simp [e1, fv, upr, e2]
  · rw [List.getElem?_eq_none (by rw [List.length_set, fl_len]; omega), List.getElem?_eq_none (by rw [fl_len]; omega)]
/-- the heap holds the memory M, from the cell o on; nothing below o has changed since H0 -/
def GM (D : va_G) (cy : Nat → ClassId) (o : Nat) (M : jT) (H0 H : Heap) (locs : List Loc) : Prop := va_P D jCl (wsM cy o M) H ∧ va_S (oA o) H0 H locs
section JR
variable {p : Program} {l : Launch} {e : Env} {R : Room} {s : State} {m : MethodId} {args : Array Value} {below : List Frame} {meth : Method} {c : Code} {H H0 : Heap} {locs : List Loc} {cells slots : Nat} {Q : State → Prop} {cc : ByteArray} {pc : Nat} {ls : Array Slot} {rest : List Value} {D : va_G} {cy : Nat → ClassId} {o : Nat} {M : jT}
theorem j_geti (hx : p.tables.exec = Jvm.exec) (hb : c.code = cc) {own C : String} {T : u_T} {N ci index : Nat} {Ts : List Cond} (hts : ∀ w ∈ Ts, w.before args s = true) (hown : s.vm.findClass own = some m.cls) (hK : va_K D jCl (tysF cy) s) (hG : GM D cy o M H0 H locs) {k : Int} (hin : ∀ w ∈ u_ws C T N, w ∈ Ts) (hc : jCl[ci]? = some (C, T, N)) (hk : kd k = ci + 1) (j : Nat) (hj : j < N ∧ ci < 11 ∧ j < nf (ci + 1) ∧ ft (ci + 1) j = 0) {jz : Int} (hz : (j : Int) = jz) (hlink : (Cond.fieldLink own index (T j).1 (T j).2.1 (T j).2.2.1).before args s = true) (hdg : decode cc pc = .ok (.getfield index, 3))
    (kk : W p l e R s m args below meth c H locs cells slots Q (F0 m (pc + 3) ls (.int (J (M k jz)) :: rest))) : W p l e R s m args below meth c H locs cells slots Q (F0 m pc ls (.ref (rA o k) :: rest)) := by
  subst hz
  have hr := kd_rng (k := k) (by omega)
  have he : ce cy o k (M k) = .inr (ci, fl o (M k) (ci + 1) k) := by
    unfold ce; rw [hk, if_pos (by omega)]; rfl
  have hw := wsM_get cy o M hr.1 hr.2
  rw [he] at hw
  exact va_get (v := .int (J (M k (j : Int)))) hx hb hts hin hown hK hG.1 k.toNat hw hc j hj.1 hlink (fun _ h => h) (by rw [fl_get hj.2.2.1, fv, if_pos hj.2.2.2]) hdg kk
theorem j_getl (hx : p.tables.exec = Jvm.exec) (hb : c.code = cc) {own C : String} {T : u_T} {N ci index : Nat} {Ts : List Cond} (hts : ∀ w ∈ Ts, w.before args s = true) (hown : s.vm.findClass own = some m.cls) (hK : va_K D jCl (tysF cy) s) (hG : GM D cy o M H0 H locs) {k : Int} (hin : ∀ w ∈ u_ws C T N, w ∈ Ts) (hc : jCl[ci]? = some (C, T, N)) (hk : kd k = ci + 1) (j : Nat) (hj : j < N ∧ ci < 11 ∧ j < nf (ci + 1) ∧ ft (ci + 1) j = 1) {jz : Int} (hz : (j : Int) = jz) (hlink : (Cond.fieldLink own index (T j).1 (T j).2.1 (T j).2.2.1).before args s = true) (hdg : decode cc pc = .ok (.getfield index, 3))
    (kk : W p l e R s m args below meth c H locs cells slots Q (F0 m (pc + 3) ls (.long (JL (M k jz)) :: rest))) : W p l e R s m args below meth c H locs cells slots Q (F0 m pc ls (.ref (rA o k) :: rest)) := by
  subst hz
  have hr := kd_rng (k := k) (by omega)
  have he : ce cy o k (M k) = .inr (ci, fl o (M k) (ci + 1) k) := by
    unfold ce; rw [hk, if_pos (by omega)]; rfl
  have hw := wsM_get cy o M hr.1 hr.2
  rw [he] at hw
  exact va_get (v := .long (JL (M k (j : Int)))) hx hb hts hin hown hK hG.1 k.toNat hw hc j hj.1 hlink (fun _ h => h) (by rw [fl_get hj.2.2.1, fv, if_neg (by omega), if_pos hj.2.2.2]) hdg kk
theorem j_getr (hx : p.tables.exec = Jvm.exec) (hb : c.code = cc) {own C : String} {T : u_T} {N ci index : Nat} {Ts : List Cond} (hts : ∀ w ∈ Ts, w.before args s = true) (hown : s.vm.findClass own = some m.cls) (hK : va_K D jCl (tysF cy) s) (hG : GM D cy o M H0 H locs) {k : Int} (hin : ∀ w ∈ u_ws C T N, w ∈ Ts) (hc : jCl[ci]? = some (C, T, N)) (hk : kd k = ci + 1) (j : Nat) {k2 : Int} (hj : j < N ∧ ci < 11 ∧ j < nf (ci + 1) ∧ ft (ci + 1) j = 2) (hk2 : k + dl (ci + 1) j = k2) (hlink : (Cond.fieldLink own index (T j).1 (T j).2.1 (T j).2.2.1).before args s = true) (hdg : decode cc pc = .ok (.getfield index, 3))
    (kk : W p l e R s m args below meth c H locs cells slots Q (F0 m (pc + 3) ls (.ref (rA o k2) :: rest))) : W p l e R s m args below meth c H locs cells slots Q (F0 m pc ls (.ref (rA o k) :: rest)) := by
  have hr := kd_rng (k := k) (by omega)
  have he : ce cy o k (M k) = .inr (ci, fl o (M k) (ci + 1) k) := by
    unfold ce; rw [hk, if_pos (by omega)]; rfl
  have hw := wsM_get cy o M hr.1 hr.2
  rw [he] at hw
  exact va_get (v := .ref (rA o k2)) hx hb hts hin hown hK hG.1 k.toNat hw hc j hj.1 hlink (fun _ h => h) (by rw [fl_get hj.2.2.1, fv, if_neg (by omega), if_neg (by omega), hk2]) hdg kk
theorem j_puti (hx : p.tables.exec = Jvm.exec) (hb : c.code = cc) {own C : String} {T : u_T} {N ci index : Nat} {Ts : List Cond} (hts : ∀ w ∈ Ts, w.before args s = true) (hown : s.vm.findClass own = some m.cls) (hK : va_K D jCl (tysF cy) s) (hG : GM D cy o M H0 H locs) {k : Int} (hin : ∀ w ∈ u_ws C T N, w ∈ Ts) (ty0 : Nat → FieldType) (hty : ∀ k, k < N → parseFieldDescriptor (T k).2.2.1 = some (ty0 k)) (hnm : ∀ a, a < N → ∀ b, b < N → a ≠ b → (T a).2.1 ≠ (T b).2.1) (hc : jCl[ci]? = some (C, T, N)) (hk : kd k = ci + 1) (j : Nat) (hj : j < N ∧ ci < 11 ∧ j < nf (ci + 1) ∧ ft (ci + 1) j = 0 ∧ (T j).2.2.2 = false) {jz : Int} (hz : (j : Int) = jz) (hlink : (Cond.fieldLink own index (T j).1 (T j).2.1 (T j).2.2.1).before args s = true) {ty : FieldType} {v : Int} (hd : parseFieldDescriptor (T j).2.2.1 = some ty) (hn : narrow ty (.int (J v)) = .int (J v)) (hfit : fits ty (.int (J v)) = true) (hdg : decode cc pc = .ok (.putfield index, 3))
    (kk : ∀ M1 : jT, M1 = up M k jz v → ∀ (H : Heap) (locs : List Loc), GM D cy o M1 H0 H locs → W p l e R s m args below meth c H locs cells slots Q (F0 m (pc + 3) ls rest)) : W p l e R s m args below meth c H locs cells slots Q (F0 m pc ls (.int (J v) :: .ref (rA o k) :: rest)) := by
  subst hz
  have hr := kd_rng (k := k) (by omega)
  have he : ∀ r, ce cy o k r = .inr (ci, fl o r (ci + 1) k) := by
    intro r; unfold ce; rw [hk, if_pos (by omega)]; rfl
  have hw := wsM_get cy o M hr.1 hr.2
  rw [he] at hw
  refine va_put (v := .int (J v)) hx hb hts hin ty0 hty hnm hown hK hG.1 (wsM_D cy o M) hG.2 k.toNat hw hc j hj.1 hlink (fun _ h => h) hj.2.2.2.2 hd hn hfit (by rw [fl_len]; exact hj.2.2.1) hdg (fun H1 locs1 hP hD hS => ?_)
  refine kk _ rfl H1 locs1 ⟨?_, hS⟩
  rw [wsM_set cy o M hr.1 hr.2 (j : Int) v] at hP
  · exact hP
  · rw [he, fl_set]
    rw [fv, if_pos hj.2.2.2.1]; simp [upr]
theorem j_putl (hx : p.tables.exec = Jvm.exec) (hb : c.code = cc) {own C : String} {T : u_T} {N ci index : Nat} {Ts : List Cond} (hts : ∀ w ∈ Ts, w.before args s = true) (hown : s.vm.findClass own = some m.cls) (hK : va_K D jCl (tysF cy) s) (hG : GM D cy o M H0 H locs) {k : Int} (hin : ∀ w ∈ u_ws C T N, w ∈ Ts) (ty0 : Nat → FieldType) (hty : ∀ k, k < N → parseFieldDescriptor (T k).2.2.1 = some (ty0 k)) (hnm : ∀ a, a < N → ∀ b, b < N → a ≠ b → (T a).2.1 ≠ (T b).2.1) (hc : jCl[ci]? = some (C, T, N)) (hk : kd k = ci + 1) (j : Nat) (hj : j < N ∧ ci < 11 ∧ j < nf (ci + 1) ∧ ft (ci + 1) j = 1 ∧ (T j).2.2.2 = false) {jz : Int} (hz : (j : Int) = jz) (hlink : (Cond.fieldLink own index (T j).1 (T j).2.1 (T j).2.2.1).before args s = true) {v : Int} (hd : parseFieldDescriptor (T j).2.2.1 = some .long) (hdg : decode cc pc = .ok (.putfield index, 3))
    (kk : ∀ M1 : jT, M1 = up M k jz v → ∀ (H : Heap) (locs : List Loc), GM D cy o M1 H0 H locs → W p l e R s m args below meth c H locs cells slots Q (F0 m (pc + 3) ls rest)) : W p l e R s m args below meth c H locs cells slots Q (F0 m pc ls (.long (JL v) :: .ref (rA o k) :: rest)) := by
  subst hz
  have hr := kd_rng (k := k) (by omega)
  have he : ∀ r, ce cy o k r = .inr (ci, fl o r (ci + 1) k) := by
    intro r; unfold ce; rw [hk, if_pos (by omega)]; rfl
  have hw := wsM_get cy o M hr.1 hr.2
  rw [he] at hw
  refine va_put (v := .long (JL v)) hx hb hts hin ty0 hty hnm hown hK hG.1 (wsM_D cy o M) hG.2 k.toNat hw hc j hj.1 hlink (fun _ h => h) hj.2.2.2.2 hd rfl rfl (by rw [fl_len]; exact hj.2.2.1) hdg (fun H1 locs1 hP hD hS => ?_)
  refine kk _ rfl H1 locs1 ⟨?_, hS⟩
  rw [wsM_set cy o M hr.1 hr.2 (j : Int) v] at hP
  · exact hP
  · rw [he, fl_set]
    rw [fv, if_neg (by omega), if_pos hj.2.2.2.1]; simp [upr]
end JR
section JR2
variable {p : Program} {l : Launch} {e : Env} {R : Room} {s : State} {m : MethodId} {args : Array Value} {below : List Frame} {meth : Method} {c : Code} {H H0 : Heap} {locs : List Loc} {cells slots : Nat} {Q : State → Prop} {cc : ByteArray} {pc : Nat} {ls : Array Slot} {rest : List Value} {D : va_G} {cy : Nat → ClassId} {o : Nat} {M : jT}
theorem ce_i {k : Int} {n : Nat} (hk : kd k = 1000 + n) (hn : n < 99000) (r : Int → Int) : ce cy o k r = .inl (cy 0, (n, .inl fun i => J (r (i : Int)))) := by
  unfold ce; rw [hk, if_neg (by omega), if_neg (by omega), if_pos (by omega)]
  rw [show 1000 + n - 1000 = n by omega]
theorem ce_l {k : Int} {n : Nat} (hk : kd k = 100000 + n) (hn : n < 100000) (r : Int → Int) : ce cy o k r = .inl (cy 1, (n, .inr (.inl fun i => JL (r (i : Int))))) := by
  unfold ce; rw [hk, if_neg (by omega), if_neg (by omega), if_neg (by omega), if_pos (by omega)]
  rw [show 100000 + n - 100000 = n by omega]
theorem ce_c {k : Int} {n : Nat} (hk : kd k = 200000 + n) (r : Int → Int) : ce cy o k r = .inl (cy 2, (n, .inl fun i => J (r (i : Int)))) := by
  unfold ce; rw [hk, if_neg (by omega), if_neg (by omega), if_neg (by omega), if_neg (by omega)]
  rw [show 200000 + n - 200000 = n by omega]
theorem ce_r {k : Int} {t : Nat} (hk : kd k = t) (h20 : 20 ≤ t) (ht : t < 1000) (r : Int → Int) : ce cy o k r = .inl (cy (t - 17), ((ra t).1, .inr (.inr (.inr (.inr fun i => some (rA o (k + (ra t).2.1 + (ra t).2.2 * (i : Int)))))))) := by
  unfold ce; rw [hk, if_neg (by omega), if_pos (by omega)]
theorem upr_upd {r : Int → Int} {i v : Int} (h0 : 0 ≤ i) : (fun j : Nat => J (upr r i v (j : Int))) = upd (fun j : Nat => J (r (j : Int))) i.toNat (J v) := by
  funext j
  unfold upr upd
  by_cases h : j = i.toNat
  · rw [if_pos h, if_pos (by omega)]
  · rw [if_neg h, if_neg (by omega)]
theorem upr_updL {r : Int → Int} {i v : Int} (h0 : 0 ≤ i) : (fun j : Nat => JL (upr r i v (j : Int))) = vp_updL (fun j : Nat => JL (r (j : Int))) i.toNat (JL v) := by
  funext j
  unfold upr vp_updL
  by_cases h : j = i.toNat
  · rw [if_pos h, if_pos (by omega)]
  · rw [if_neg h, if_neg (by omega)]
theorem j_iald (hx : p.tables.exec = Jvm.exec) (hb : c.code = cc) (hK : va_K D jCl (tysF cy) s) (hG : GM D cy o M H0 H locs) {k i : Int} {n : Nat} (hk : kd k = 1000 + n) (hn : n < 99000) (hi : 0 ≤ i ∧ i < n) (hdg : decode cc pc = .ok (.iaload, 1))
    (kk : W p l e R s m args below meth c H locs cells slots Q (F0 m (pc + 1) ls (.int (J (M k i)) :: rest))) : W p l e R s m args below meth c H locs cells slots Q (F0 m pc ls (.int (J i) :: .ref (rA o k) :: rest)) := by
  have hr := kd_rng (k := k) (by omega)
  have hw := wsM_get cy o M hr.1 hr.2
  rw [ce_i hk hn] at hw
  refine va_iald hx hb hK hG.1 k.toNat 0 hw rfl (J_in hi.1 hi.2 (by omega)) hdg ?_
  rw [J_cl hi.1 (by omega), Int.toNat_of_nonneg hi.1]
  exact kk
theorem j_lald (hx : p.tables.exec = Jvm.exec) (hb : c.code = cc) (hK : va_K D jCl (tysF cy) s) (hG : GM D cy o M H0 H locs) {k i : Int} {n : Nat} (hk : kd k = 100000 + n) (hn : n < 100000) (hi : 0 ≤ i ∧ i < n) (hdg : decode cc pc = .ok (.laload, 1))
    (kk : W p l e R s m args below meth c H locs cells slots Q (F0 m (pc + 1) ls (.long (JL (M k i)) :: rest))) : W p l e R s m args below meth c H locs cells slots Q (F0 m pc ls (.int (J i) :: .ref (rA o k) :: rest)) := by
  have hr := kd_rng (k := k) (by omega)
  have hw := wsM_get cy o M hr.1 hr.2
  rw [ce_l hk hn] at hw
  refine va_lald hx hb hK hG.1 k.toNat 1 hw rfl (J_in hi.1 hi.2 (by omega)) hdg ?_
  rw [J_cl hi.1 (by omega), Int.toNat_of_nonneg hi.1]
  exact kk
theorem j_cald (hx : p.tables.exec = Jvm.exec) (hb : c.code = cc) (hK : va_K D jCl (tysF cy) s) (hG : GM D cy o M H0 H locs) {k i : Int} {n : Nat} (hk : kd k = 200000 + n) (hn : n < 100000) (hi : 0 ≤ i ∧ i < n) (hdg : decode cc pc = .ok (.caload, 1))
    (kk : W p l e R s m args below meth c H locs cells slots Q (F0 m (pc + 1) ls (.int (J (M k i)) :: rest))) : W p l e R s m args below meth c H locs cells slots Q (F0 m pc ls (.int (J i) :: .ref (rA o k) :: rest)) := by
  have hr := kd_rng (k := k) (by omega)
  have hw := wsM_get cy o M hr.1 hr.2
  rw [ce_c hk] at hw
  refine va_cald hx hb hK hG.1 k.toNat 2 hw rfl (J_in hi.1 hi.2 (by omega)) hdg ?_
  rw [J_cl hi.1 (by omega), Int.toNat_of_nonneg hi.1]
  exact kk
theorem j_aald (hx : p.tables.exec = Jvm.exec) (hb : c.code = cc) (hK : va_K D jCl (tysF cy) s) (hG : GM D cy o M H0 H locs) {k i k2 : Int} {t t0 : Nat} {C : String} (hk : kd k = t) (h20 : 20 ≤ t ∧ t < 1000 ∧ (ra t).1 < 1000) (ht : (tysF cy)[t0]? = some (cy (t - 17), .object C)) (hi : 0 ≤ i ∧ i < (ra t).1) (hk2 : k + (ra t).2.1 + (ra t).2.2 * i = k2) (hdg : decode cc pc = .ok (.aaload, 1))
    (kk : W p l e R s m args below meth c H locs cells slots Q (F0 m (pc + 1) ls (.ref (rA o k2) :: rest))) : W p l e R s m args below meth c H locs cells slots Q (F0 m pc ls (.int (J i) :: .ref (rA o k) :: rest)) := by
  have hr := kd_rng (k := k) (by omega)
  have hw := wsM_get cy o M hr.1 hr.2
  rw [ce_r hk h20.1 h20.2.1] at hw
  refine va_aldq hx hb hK hG.1 k.toNat t0 hw ht (J_in hi.1 hi.2 (by omega)) hdg ?_
  rw [J_cl hi.1 (by omega), Int.toNat_of_nonneg hi.1, hk2]
  exact kk
theorem j_iast (hx : p.tables.exec = Jvm.exec) (hb : c.code = cc) (hK : va_K D jCl (tysF cy) s) (hG : GM D cy o M H0 H locs) {k i v : Int} {n : Nat} (hk : kd k = 1000 + n) (hn : n < 99000) (hi : 0 ≤ i ∧ i < n) (hdg : decode cc pc = .ok (.iastore, 1))
    (kk : ∀ M1 : jT, M1 = up M k i v → ∀ (H : Heap) (locs : List Loc), GM D cy o M1 H0 H locs → W p l e R s m args below meth c H locs cells slots Q (F0 m (pc + 1) ls rest)) : W p l e R s m args below meth c H locs cells slots Q (F0 m pc ls (.int (J v) :: .int (J i) :: .ref (rA o k) :: rest)) := by
  have hr := kd_rng (k := k) (by omega)
  have hw := wsM_get cy o M hr.1 hr.2
  rw [ce_i hk hn] at hw
  refine va_iast hx hb hK hG.1 (wsM_D cy o M) hG.2 k.toNat 0 hw rfl (J_in hi.1 hi.2 (by omega)) hdg (fun H1 locs1 hP hD hS => kk _ rfl H1 locs1 ⟨?_, hS⟩)
  rw [wsM_set cy o M hr.1 hr.2 i v (by rw [ce_i hk hn, upr_upd hi.1, J_cl hi.1 (by omega)])] at hP
  exact hP
theorem j_last (hx : p.tables.exec = Jvm.exec) (hb : c.code = cc) (hK : va_K D jCl (tysF cy) s) (hG : GM D cy o M H0 H locs) {k i v : Int} {n : Nat} (hk : kd k = 100000 + n) (hn : n < 100000) (hi : 0 ≤ i ∧ i < n) (hdg : decode cc pc = .ok (.lastore, 1))
    (kk : ∀ M1 : jT, M1 = up M k i v → ∀ (H : Heap) (locs : List Loc), GM D cy o M1 H0 H locs → W p l e R s m args below meth c H locs cells slots Q (F0 m (pc + 1) ls rest)) : W p l e R s m args below meth c H locs cells slots Q (F0 m pc ls (.long (JL v) :: .int (J i) :: .ref (rA o k) :: rest)) := by
  have hr := kd_rng (k := k) (by omega)
  have hw := wsM_get cy o M hr.1 hr.2
  rw [ce_l hk hn] at hw
  refine va_last hx hb hK hG.1 (wsM_D cy o M) hG.2 k.toNat 1 hw rfl (J_in hi.1 hi.2 (by omega)) hdg (fun H1 locs1 hP hD hS => kk _ rfl H1 locs1 ⟨?_, hS⟩)
  rw [wsM_set cy o M hr.1 hr.2 i v (by rw [ce_l hk hn, upr_updL hi.1, J_cl hi.1 (by omega)])] at hP
  exact hP
theorem J_nar {v : Int} (h0 : 0 ≤ v) (h1 : v < 65536) : vp_nar .char (J v) = J v := by
  have := (pk_charN (q := v.toNat) (by omega)).1
  rw [← J_nI h0] at this
  unfold vp_nar; rw [this]
theorem j_cast (hx : p.tables.exec = Jvm.exec) (hb : c.code = cc) (hK : va_K D jCl (tysF cy) s) (hG : GM D cy o M H0 H locs) {k i v : Int} {n : Nat} (hk : kd k = 200000 + n) (hn : n < 100000) (hi : 0 ≤ i ∧ i < n) (hv : 0 ≤ v ∧ v < 65536) (hdg : decode cc pc = .ok (.castore, 1))
    (kk : ∀ M1 : jT, M1 = up M k i v → ∀ (H : Heap) (locs : List Loc), GM D cy o M1 H0 H locs → W p l e R s m args below meth c H locs cells slots Q (F0 m (pc + 1) ls rest)) : W p l e R s m args below meth c H locs cells slots Q (F0 m pc ls (.int (J v) :: .int (J i) :: .ref (rA o k) :: rest)) := by
  have hr := kd_rng (k := k) (by omega)
  have hw := wsM_get cy o M hr.1 hr.2
  rw [ce_c hk] at hw
  refine va_cast hx hb hK hG.1 (wsM_D cy o M) hG.2 k.toNat 2 hw rfl (J_in hi.1 hi.2 (by omega)) hdg (fun H1 locs1 hP hD hS => kk _ rfl H1 locs1 ⟨?_, hS⟩)
  rw [J_nar hv.1 hv.2, wsM_set cy o M hr.1 hr.2 i v (by rw [ce_c hk, upr_upd hi.1, J_cl hi.1 (by omega)])] at hP
  exact hP
end JR2
