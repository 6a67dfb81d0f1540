def wp_X11_writes_a (M : jT) (a0 : Int) (a1 : Int) (Q : jT → Prop) : Prop :=
rg a1 ∧
((a1 ≤ 9 → (∀ M6 : jT, M6 = up M a0 12 ((M a0 12) + 1) →
(0 ≤ a1 ∧ a1 < 2147483648) ∧
(0 ≤ M a0 12 ∧ M a0 12 < 60) ∧
∀ M9 : jT, M9 = up M6 (a0 + 6) (M a0 12) (48 + (a1 % 10)) →
Q M9)) ∧
(9 < a1 → ((0 ≤ a1 ∧ a1 < 2147483648) ∧
False)))
def wp_X11_writes_b (M : jT) (a0 : Int) (a1 : Int) (Q : jT → Prop) : Prop :=
∃ K7 : jT → Prop, (∀ (M6 : jT), K7 M6 → (∀ M8 : jT, M8 = up M6 a0 12 ((M6 a0 12) + 1) →
(0 ≤ a1 ∧ a1 < 2147483648) ∧
(0 ≤ M6 a0 12 ∧ M6 a0 12 < 60) ∧
∀ M11 : jT, M11 = up M8 (a0 + 6) (M6 a0 12) (48 + (a1 % 10)) →
Q M11)) ∧
rg a1 ∧
((a1 ≤ 9 → K7 M) ∧
(9 < a1 → ((0 ≤ a1 ∧ a1 < 2147483648) ∧
wp_X11_writes_a M a0 (a1 / 10) (fun M16 =>
K7 M16))))
def wp_X11_writes_c (M : jT) (a0 : Int) (a1 : Int) (Q : jT → Prop) : Prop :=
∃ K7 : jT → Prop, (∀ (M6 : jT), K7 M6 → (∀ M8 : jT, M8 = up M6 a0 12 ((M6 a0 12) + 1) →
(0 ≤ a1 ∧ a1 < 2147483648) ∧
(0 ≤ M6 a0 12 ∧ M6 a0 12 < 60) ∧
∀ M11 : jT, M11 = up M8 (a0 + 6) (M6 a0 12) (48 + (a1 % 10)) →
Q M11)) ∧
rg a1 ∧
((a1 ≤ 9 → K7 M) ∧
(9 < a1 → ((0 ≤ a1 ∧ a1 < 2147483648) ∧
wp_X11_writes_b M a0 (a1 / 10) (fun M16 =>
K7 M16))))
def wp_X11_writes (M : jT) (a0 : Int) (a1 : Int) (Q : jT → Prop) : Prop :=
∃ K7 : jT → Prop, (∀ (M6 : jT), K7 M6 → (∀ M8 : jT, M8 = up M6 a0 12 ((M6 a0 12) + 1) →
(0 ≤ a1 ∧ a1 < 2147483648) ∧
(0 ≤ M6 a0 12 ∧ M6 a0 12 < 60) ∧
∀ M11 : jT, M11 = up M8 (a0 + 6) (M6 a0 12) (48 + (a1 % 10)) →
Q M11)) ∧
rg a1 ∧
((a1 ≤ 9 → K7 M) ∧
(9 < a1 → ((0 ≤ a1 ∧ a1 < 2147483648) ∧
wp_X11_writes_c M a0 (a1 / 10) (fun M16 =>
K7 M16))))
def wp_X11_write (M : jT) (a0 : Int) (a1 : Int) (a2 : Int) (Q : Int → jT → Prop) : Prop :=
∀ M1 : jT, M1 = up M a0 0 0 →
(pg_X11_isRule M1 a0 a1 a2) ∧
((pb_X11_isRule M1 a0 a1 a2 → (∀ M6 : jT, M6 = up M1 a0 12 0 →
∀ x9 : Int, x9 = pf_X11_ruleAt a1 a2 →
∃ I12 : Nat → Int → jT → Prop, (∃ n13, I12 n13 0 M6) ∧
∀ (n13 : Nat) (x10 : Int) (M11 : jT), I12 n13 x10 M11 →
rg x10 ∧
((7 ≤ x10 → Q (M11 a0 12) M11) ∧
(x10 < 7 → (∃ K21 : jT → Prop, (∀ (M20 : jT), K21 M20 → ((0 ≤ x9 + x10 ∧ x9 + x10 < 1294) ∧
∀ x23 : Int, x23 = M20 (a0 + 1) (x9 + x10) →
∃ K113 : jT → Prop, (∀ (M112 : jT), K113 M112 → (∀ x114 : Int, x114 = x10 + 1 →
∃ n115, n115 < n13 ∧ I12 n115 x114 M112)) ∧
((x10 ≠ 5 → (((2 ≤ x10 → (∃ K153 : Prop, (K153 → wp_X11_writes M20 a0 x23 (fun M155 =>
K113 M155)) ∧
((x10 ≠ 3 → K153) ∧
(x10 = 3 → (rg x23 ∧
((31 < x23 → (((x23 < 1000 → (∀ M160 : jT, M160 = up M20 a0 12 ((M20 a0 12) + 1) →
(((x23 < 500 → ((0 ≤ x23 ∧ x23 < 2147483648) ∧
True)) ∧
(500 ≤ x23 → True))) ∧
(∀ x163 : Int, (x23 < 500 → x163 = 48 + (x23 / 100)) → (500 ≤ x23 → x163 = 108) → 
(0 ≤ M20 a0 12 ∧ M20 a0 12 < 60) ∧
∀ M168 : jT, M168 = up M160 (a0 + 6) (M20 a0 12) x163 →
∃ K174 : jT → Prop, (∀ (M173 : jT), K174 M173 → ((0 ≤ x23 ∧ x23 < 2147483648) ∧
wp_X11_writes M173 a0 (x23 % 100) (fun M177 =>
K113 M177))) ∧
((500 ≤ x23 → K174 M168) ∧
(x23 < 500 → (∀ M179 : jT, M179 = up M168 a0 12 ((M168 a0 12) + 1) →
(0 ≤ M168 a0 12 ∧ M168 a0 12 < 60) ∧
∀ M181 : jT, M181 = up M179 (a0 + 6) (M168 a0 12) 120 →
K174 M181)))))) ∧
(1000 ≤ x23 → ((0 ≤ x23 ∧ x23 < 2147483648) ∧
wp_X11_writes M20 a0 (x23 % 10) (fun M184 =>
∀ M185 : jT, M185 = up M184 a0 12 ((M184 a0 12) + 1) →
(0 ≤ M184 a0 12 ∧ M184 a0 12 < 60) ∧
∀ M187 : jT, M187 = up M185 (a0 + 6) (M184 a0 12) 62 →
(0 ≤ (x23 - 1000) ∧ (x23 - 1000) < 2147483648) ∧
wp_X11_writes M187 a0 ((x23 - 1000) / 10) (fun M190 =>
K113 M190))))))) ∧
(x23 ≤ 31 → K153))))))) ∧
(x10 < 2 → wp_X11_writes M20 a0 (2000 + x23) (fun M192 =>
K113 M192))))) ∧
(x10 = 5 → (∀ M193 : jT, M193 = up M20 a0 12 ((M20 a0 12) + 1) →
(rg x23 ∧
((x23 ≠ 0 → (((x23 ≠ 1 → True) ∧
(x23 = 1 → True)))) ∧
(x23 = 0 → True))) ∧
(∀ x197 : Int, (x23 ≠ 0 ∧ x23 ≠ 1 → x197 = 105) → (x23 ≠ 0 ∧ x23 = 1 → x197 = 98) → (x23 = 0 → x197 = 119) → 
(0 ≤ M20 a0 12 ∧ M20 a0 12 < 60) ∧
∀ M203 : jT, M203 = up M193 (a0 + 6) (M20 a0 12) x197 →
K113 M203)))))) ∧
((x10 ≤ 0 → K21 M11) ∧
(0 < x10 → (∀ M205 : jT, M205 = up M11 a0 12 ((M11 a0 12) + 1) →
(0 ≤ M11 a0 12 ∧ M11 a0 12 < 60) ∧
∀ M207 : jT, M207 = up M205 (a0 + 6) (M11 a0 12) 44 →
K21 M207)))))))) ∧
(¬ (pb_X11_isRule M1 a0 a1 a2) → wp_X11_raises M1 a0 1 (fun z208 M209 =>
Q z208 M209)))
def wp_X11_word (M : jT) (a0 : Int) (Q : Int → jT → Prop) : Prop :=
∀ x1 : Int, x1 = M a0 9 →
∃ I3 : Nat → jT → Prop, (∃ n4, I3 n4 M) ∧
∀ (n4 : Nat) (M2 : jT), I3 n4 M2 →
(pg_X11_here M2 a0) ∧
(pg_X11_in (pf_X11_here M2 a0) 97 122) ∧
((¬ (pb_X11_in (pf_X11_here M2 a0) 97 122) → (∃ I14 : Nat → Int → Int → Prop, (∃ n15, I14 n15 0 0) ∧
∀ (n15 : Nat) (x12 : Int) (x13 : Int), I14 n15 x12 x13 →
rg x13 ∧
((5 ≤ x13 → (∀ M18 : jT, M18 = up M2 a0 9 x1 →
Q ((-1)) M18)) ∧
(x13 < 5 → (∃ I21 : Nat → Int → Int → Prop, (∃ n22, I21 n22 x12 x1) ∧
∀ (n22 : Nat) (x19 : Int) (x20 : Int), I21 n22 x19 x20 →
(0 ≤ x19 ∧ x19 < sLn 15) ∧
∃ K39 : Prop, (K39 → (∃ K57 : Prop, (K57 → (rg (sCh 15 x19) ∧
((sCh 15 x19 = 58 → (∀ x62 : Int, x62 = x19 + 1 →
∀ x63 : Int, x63 = x13 + 1 →
∃ n64, n64 < n15 ∧ I14 n64 x62 x63)) ∧
(sCh 15 x19 ≠ 58 → (∀ x65 : Int, x65 = x19 + 1 →
∃ I67 : Nat → Int → Prop, (∃ n68, I67 n68 x65) ∧
∀ (n68 : Nat) (x66 : Int), I67 n68 x66 →
(0 ≤ x66 ∧ x66 < sLn 15) ∧
rg (sCh 15 x66) ∧
((sCh 15 x66 = 58 → (∀ x74 : Int, x74 = x66 + 1 →
∀ x75 : Int, x75 = x13 + 1 →
∃ n76, n76 < n15 ∧ I14 n76 x74 x75)) ∧
(sCh 15 x66 ≠ 58 → (∀ x77 : Int, x77 = x66 + 1 →
∃ n78, n78 < n68 ∧ I67 n78 x77)))))))) ∧
rg (sCh 15 x19) ∧
((sCh 15 x19 ≠ 58 → K57) ∧
(sCh 15 x19 = 58 → (rg x20 ∧
rg (M2 a0 9) ∧
((x20 ≠ M2 a0 9 → K57) ∧
(x20 = M2 a0 9 → (rg x1 ∧
((M2 a0 9 ≤ x1 → K57) ∧
(x1 < M2 a0 9 → (wp_X11_takes M2 a0 58 (fun z86 M87 =>
(rg z86 ∧
((z86 = 0 → True) ∧
(z86 ≠ 0 → True))) ∧
(∀ x90 : Int, (z86 = 0 → x90 = (-1)) → (z86 ≠ 0 → x90 = x13) → 
Q x90 M87))))))))))))) ∧
rg (sCh 15 x19) ∧
((sCh 15 x19 = 58 → K39) ∧
(sCh 15 x19 ≠ 58 → (rg x20 ∧
rg (M2 a0 9) ∧
((M2 a0 9 ≤ x20 → K39) ∧
(x20 < M2 a0 9 → ((0 ≤ x20 ∧ x20 < 60) ∧
rg (M2 (a0 + 5) x20) ∧
((M2 (a0 + 5) x20 ≠ sCh 15 x19 → K39) ∧
(M2 (a0 + 5) x20 = sCh 15 x19 → (∀ x104 : Int, x104 = x20 + 1 →
∀ x105 : Int, x105 = x19 + 1 →
∃ n106, n106 < n22 ∧ I21 n106 x105 x104)))))))))))))) ∧
(pb_X11_in (pf_X11_here M2 a0) 97 122 → (∀ M107 : jT, M107 = up M2 a0 9 ((M2 a0 9) + 1) →
∃ n108, n108 < n4 ∧ I3 n108 M107)))
def wp_X11_run (M : jT) (a0 : Int) (Q : Int → jT → Prop) : Prop :=
wp_X11_tries M a0 (fun M2 =>
∀ M3 : jT, M3 = up M2 a0 9 0 →
∃ I8 : Nat → Int → Int → Int → jT → Prop, (∃ n9, I8 n9 0 ((-1)) 1 M3) ∧
∀ (n9 : Nat) (x4 : Int) (x5 : Int) (x6 : Int) (M7 : jT), I8 n9 x4 x5 x6 M7 →
rg x6 ∧
((x6 = 0 → (∀ M12 : jT, M12 = up M7 a0 10 x5 →
∀ M13 : jT, M13 = up M12 a0 8 0 →
(rg x5 ∧
((0 ≤ x5 → True) ∧
(x5 < 0 → True))) ∧
(∀ x16 : Int, (0 ≤ x5 → x16 = (-2)) → (x5 < 0 → x16 = x4) → 
wp_X11_ends M13 a0 x16 (fun z20 M21 =>
Q z20 M21)))) ∧
(x6 ≠ 0 → (∀ x22 : Int, x22 = M7 a0 9 →
wp_X11_word M7 a0 (fun z23 M24 =>
∃ K58 : jT → Prop, (∀ (M57 : jT), K58 M57 → (∀ M59 : jT, M59 = up M57 a0 10 (M57 a0 9) →
∀ M60 : jT, M60 = up M59 a0 8 0 →
∀ M61 : jT, M61 = up M60 a0 14 ((-1)) →
wp_X11_ends M61 a0 ((-1)) (fun z62 M63 =>
Q z62 M63))) ∧
rg z23 ∧
((z23 < 0 → K58 M24) ∧
(0 ≤ z23 → (wp_X11_items M24 a0 z23 (fun z66 M67 =>
rg z66 ∧
((z66 ≠ 0 → (∃ K78 : Int → jT → Prop, (∀ (x76 : Int) (M77 : jT), K78 x76 M77 → (∀ M79 : jT, M79 = up M77 a0 14 ((-1)) →
∀ x80 : Int, x80 = x4 + 1 →
(rg (M79 a0 9) ∧
rg (M79 a0 8) ∧
((M79 a0 8 ≤ M79 a0 9 → True) ∧
(M79 a0 9 < M79 a0 8 → True))) ∧
∃ n89, n89 < n9 ∧ I8 n89 x80 x76 (b2i (M79 a0 9 < M79 a0 8)) M79)) ∧
rg x5 ∧
((0 ≤ x5 → K78 x5 M67) ∧
(x5 < 0 → (wp_X11_does M67 a0 z23 (fun z92 M93 =>
rg z92 ∧
((0 ≤ z92 → K78 x5 M93) ∧
(z92 < 0 → K78 x22 M93)))))))) ∧
(z66 = 0 → K58 M67)))))))))))
def wp_X11_drift (M : jT) (a0 : Int) (a1 : Int) (a2 : Int) (Q : Int → jT → Prop) : Prop :=
∀ M1 : jT, M1 = up M a0 0 0 →
(pg_X11_isMeeting M1 a0 a1) ∧
∃ K55 : Prop, (K55 → wp_X11_raises M1 a0 1 (fun z56 M57 =>
Q z56 M57)) ∧
((¬ (pb_X11_isMeeting M1 a0 a1) → K55) ∧
(pb_X11_isMeeting M1 a0 a1 → ((pg_X11_isZone M1 a0 a2) ∧
((pb_X11_isZone M1 a0 a2 → (∀ M63 : jT, M63 = up M1 a0 36 0 →
wp_X11_enters M63 a0 a1 ((-2000)) (fun M65 =>
∃ I68 : Nat → Int → jT → Prop, (∃ n69, I68 n69 0 M65) ∧
∀ (n69 : Nat) (x66 : Int) (M67 : jT), I68 n69 x66 M67 →
rg x66 ∧
rg (M67 a0 36) ∧
((M67 a0 36 ≤ x66 → (∃ I75 : Nat → Int → Int → Prop, (∃ n76, I75 n76 0 0) ∧
∀ (n76 : Nat) (x73 : Int) (x74 : Int), I75 n76 x73 x74 →
rg x74 ∧
((M67 a0 36 ≤ x74 → Q x73 M67) ∧
(x74 < M67 a0 36 → (∃ I80 : Nat → Int → Prop, (∃ n81, I80 n81 0) ∧
∀ (n81 : Nat) (x79 : Int), I80 n81 x79 →
(0 ≤ x79 ∧ x79 < 400) ∧
(0 ≤ x74 ∧ x74 < 400) ∧
rg (M67 (a0 + 21) x79) ∧
rg (M67 (a0 + 21) x74) ∧
((M67 (a0 + 21) x79 = M67 (a0 + 21) x74 → ((rg x79 ∧
((x79 ≠ x74 → True) ∧
(x79 = x74 → True))) ∧
(∀ x90 : Int, (x79 ≠ x74 → x90 = x73) → (x79 = x74 → x90 = x73 + 1) → 
∀ x95 : Int, x95 = x74 + 1 →
∃ n96, n96 < n76 ∧ I75 n96 x90 x95))) ∧
(M67 (a0 + 21) x79 ≠ M67 (a0 + 21) x74 → (∀ x97 : Int, x97 = x79 + 1 →
∃ n98, n98 < n81 ∧ I80 n98 x97)))))))) ∧
(x66 < M67 a0 36 → ((0 ≤ x66 ∧ x66 < 400) ∧
wp_X11_offsetAt M67 a0 a2 (M67 (a0 + 20) x66) (fun z100 M101 =>
(rg ((M67 (a0 + 20) x66) + z100)) ∧
∀ M105 : jT, M105 = up M101 (a0 + 21) x66 (((M67 (a0 + 20) x66) + z100) % 1440) →
∀ x106 : Int, x106 = x66 + 1 →
∃ n107, n107 < n69 ∧ I68 n107 x106 M105))))))) ∧
(¬ (pb_X11_isZone M1 a0 a2) → K55)))))
def wo_X10_drift (M : jT) (a0 : Int) (a1 : Int) (a2 : Int) (Q : Int → jT → Prop) : Prop :=
wo_X10_needMeeting M a0 a1 (wo_X10_needZone M a0 a2 ((0 ≤ a1 ∧ a1 < 10) ∧
wp_X10_timed M a0 a1 (fun k7 M8 =>
wp_X10_compiled M8 a0 a2 (fun k9 M10 =>
∃ I14 : Nat → Int → Int → jT → Prop, (∃ n15, I14 n15 0 0 M10) ∧
∀ (n15 : Nat) (x11 : Int) (x12 : Int) (M13 : jT), I14 n15 x11 x12 M13 →
rg x12 ∧
rg (M13 k7 2) ∧
((M13 k7 2 ≤ x12 → Q x11 M13) ∧
(x12 < M13 k7 2 → ((pg_X5_takesPlace M13 k7 (a0 + 2 * a1 + 28) x12) ∧
∃ K35 : Int → jT → Prop, (∀ (x33 : Int) (M34 : jT), K35 x33 M34 → (∀ x36 : Int, x36 = x12 + 1 →
∃ n37, n37 < n15 ∧ I14 n37 x33 x36 M34)) ∧
((¬ (pb_X5_takesPlace M13 k7 (a0 + 2 * a1 + 28) x12) → K35 x11 M13) ∧
(pb_X5_takesPlace M13 k7 (a0 + 2 * a1 + 28) x12 → ((0 ≤ x12 ∧ x12 < 40) ∧
wp_X7_offsetAt M13 k9 (M13 (k7 + 2) x12) (fun z40 =>
∀ x42 : Int, x42 = (M13 (k7 + 2) x12) + z40 →
(rg x42) ∧
rg (x42 % 1440) ∧
wp_X10_addKey M13 (a0 + 607) x11 (x42 % 1440) (fun z47 M48 =>
K35 z47 M48))))))))))))
def wp_X10_drift (M : jT) (a0 : Int) (a1 : Int) (a2 : Int) (Q : Int → jT → Prop) (X : Nat → jT → Prop) : Prop :=
((wo_X10_needMeeting M a0 a1 (((wo_X10_needZone M a0 a2 ((0 ≤ a1 ∧ a1 < 10) ∧
wp_X10_timed M a0 a1 (fun k7 M8 =>
wp_X10_compiled M8 a0 a2 (fun k9 M10 =>
∃ I14 : Nat → Int → Int → jT → Prop, (∃ n15, I14 n15 0 0 M10) ∧
∀ (n15 : Nat) (x11 : Int) (x12 : Int) (M13 : jT), I14 n15 x11 x12 M13 →
rg x12 ∧
rg (M13 k7 2) ∧
((M13 k7 2 ≤ x12 → Q x11 M13) ∧
(x12 < M13 k7 2 → ((pg_X5_takesPlace M13 k7 (a0 + 2 * a1 + 28) x12) ∧
∃ K35 : Int → jT → Prop, (∀ (x33 : Int) (M34 : jT), K35 x33 M34 → (∀ x36 : Int, x36 = x12 + 1 →
∃ n37, n37 < n15 ∧ I14 n37 x33 x36 M34)) ∧
((¬ (pb_X5_takesPlace M13 k7 (a0 + 2 * a1 + 28) x12) → K35 x11 M13) ∧
(pb_X5_takesPlace M13 k7 (a0 + 2 * a1 + 28) x12 → ((0 ≤ x12 ∧ x12 < 40) ∧
wp_X7_offsetAt M13 k9 (M13 (k7 + 2) x12) (fun z40 =>
∀ x42 : Int, x42 = (M13 (k7 + 2) x12) + z40 →
(rg x42) ∧
rg (x42 % 1440) ∧
wp_X10_addKey M13 (a0 + 607) x11 (x42 % 1440) (fun z47 M48 =>
K35 z47 M48)))))))))))) ∨
(wp_X10_needZone M a0 a2 (fun _ => False) X)))) ∨
(wp_X10_needMeeting M a0 a1 (fun _ => False) X))
def wp_X6_nameOf (M : jT) (a0 : Int) (Q : Nat → Prop) : Prop :=
rg a0 ∧
((a0 = 0 → Q 6) ∧
(a0 = 1 → Q 7) ∧
(a0 = 2 → Q 8) ∧
(a0 = 3 → Q 9) ∧
(a0 ≠ 0 ∧ a0 ≠ 1 ∧ a0 ≠ 2 ∧ a0 ≠ 3 → Q 10))
def wp_X6_kindsOf (M : jT) (a0 : Int) (Q : Nat → Prop) : Prop :=
rg a0 ∧
((a0 = 0 → Q 11) ∧
(a0 = 1 → Q 12) ∧
(a0 = 2 → Q 13) ∧
(a0 ≠ 0 ∧ a0 ≠ 1 ∧ a0 ≠ 2 → Q 14))
def wp_X6_isWord (M : jT) (a0 : Int) (a1 : Int) (a2 : Int) (a3 : Nat) (Q : Int → Prop) : Prop :=
rg (a2 - a1) ∧
rg (sLn a3) ∧
((a2 - a1 = sLn a3 → (∃ I7 : Nat → Int → Prop, (∃ n8, I7 n8 0) ∧
∀ (n8 : Nat) (x6 : Int), I7 n8 x6 →
rg x6 ∧
((sLn a3 ≤ x6 → Q 1) ∧
(x6 < sLn a3 → ((pg_X6_letterAt M a0 (a1 + x6)) ∧
(0 ≤ x6 ∧ x6 < sLn a3) ∧
rg (pf_X6_letterAt M a0 (a1 + x6)) ∧
rg (sCh a3 x6) ∧
((pf_X6_letterAt M a0 (a1 + x6) = sCh a3 x6 → (∀ x22 : Int, x22 = x6 + 1 →
∃ n23, n23 < n8 ∧ I7 n23 x22)) ∧
(pf_X6_letterAt M a0 (a1 + x6) ≠ sCh a3 x6 → Q 0))))))) ∧
(a2 - a1 ≠ sLn a3 → Q 0))
def wp_X6_readWord (M : jT) (a0 : Int) (Q : Int → jT → Prop) : Prop :=
∀ x1 : Int, x1 = M a0 3 →
∀ x2 : Int, x2 = M a0 3 →
∃ I4 : Nat → Int → Prop, (∃ n5, I4 n5 x2) ∧
∀ (n5 : Nat) (x3 : Int), I4 n5 x3 →
∃ K19 : Prop, (K19 → (∃ I21 : Nat → Int → Prop, (∃ n22, I21 n22 0) ∧
∀ (n22 : Nat) (x20 : Int), I21 n22 x20 →
rg x20 ∧
((5 ≤ x20 → (∀ M25 : jT, M25 = up M a0 2 x1 →
Q ((-1)) M25)) ∧
(x20 < 5 → (wp_X6_nameOf M x20 (fun z26 =>
wp_X6_isWord M a0 x1 x3 z26 (fun z28 =>
rg z28 ∧
((z28 = 0 → (∀ x32 : Int, x32 = x20 + 1 →
∃ n33, n33 < n22 ∧ I21 n33 x32)) ∧
(z28 ≠ 0 → (∀ M34 : jT, M34 = up M a0 3 x3 →
Q x20 M34)))))))))) ∧
rg x3 ∧
rg (M a0 0) ∧
((M a0 0 ≤ x3 → K19) ∧
(x3 < M a0 0 → ((pg_X6_letterAt M a0 x3) ∧
rg (pf_X6_letterAt M a0 x3) ∧
((pf_X6_letterAt M a0 x3 < 97 → K19) ∧
(97 ≤ pf_X6_letterAt M a0 x3 → (((122 < pf_X6_letterAt M a0 x3 → K19) ∧
(pf_X6_letterAt M a0 x3 ≤ 122 → (∀ x46 : Int, x46 = x3 + 1 →
∃ n47, n47 < n5 ∧ I4 n47 x46)))))))))
def wp_X6_readCommand (M : jT) (a0 : Int) (a1 : Int) (Q : jT → Prop) : Prop :=
(0 ≤ a1 + 1 ∧ a1 + 1 < 90) ∧
∀ M2 : jT, M2 = up M (a0 + 2) (a1 + 1) (M a0 3) →
wp_X6_readWord M2 a0 (fun z3 M4 =>
rg (M4 a0 2) ∧
((M4 a0 2 < 0 → ((0 ≤ a1 ∧ a1 < 90) ∧
∀ M8 : jT, M8 = up M4 (a0 + 2) a1 z3 →
wp_X6_readSign M8 a0 58 (fun M10 =>
wp_X6_kindsOf M10 z3 (fun z11 =>
∀ x15 : Int, x15 = sLn z11 →
∃ I18 : Nat → Int → jT → Prop, (∃ n19, I18 n19 0 M10) ∧
∀ (n19 : Nat) (x16 : Int) (M17 : jT), I18 n19 x16 M17 →
∃ K42 : Prop, (K42 → Q M17) ∧
rg x16 ∧
rg x15 ∧
((x15 ≤ x16 → K42) ∧
(x16 < x15 → (rg (M17 a0 2) ∧
((0 ≤ M17 a0 2 → K42) ∧
(M17 a0 2 < 0 → ((0 ≤ x16 ∧ x16 < sLn z11) ∧
wp_X6_readItem M17 a0 (sCh z11 x16) (fun z51 M52 =>
(0 ≤ (a1 + 2) + x16 ∧ (a1 + 2) + x16 < 90) ∧
∀ M54 : jT, M54 = up M52 (a0 + 2) ((a1 + 2) + x16) z51 →
(rg (x16 + 1) ∧
((x15 ≤ x16 + 1 → True) ∧
(x16 + 1 < x15 → True))) ∧
(∀ x57 : Int, (x15 ≤ x16 + 1 → x57 = 59) → (x16 + 1 < x15 → x57 = 44) → 
wp_X6_readSign M54 a0 x57 (fun M62 =>
∀ x63 : Int, x63 = x16 + 1 →
∃ n64, n64 < n19 ∧ I18 n64 x63 M62))))))))))))) ∧
(0 ≤ M4 a0 2 → Q M4)))
def wp_X6_readText (M : jT) (a0 : Int) (Q : Int → jT → Prop) : Prop :=
∀ M1 : jT, M1 = up M a0 3 0 →
∀ M2 : jT, M2 = up M1 a0 2 ((-1)) →
∀ M3 : jT, M3 = up M2 a0 1 0 →
∃ I5 : Nat → jT → Prop, (∃ n6, I5 n6 M3) ∧
∀ (n6 : Nat) (M4 : jT), I5 n6 M4 →
wp_X6_readCommand M4 a0 ((M4 a0 1) * 10) (fun M8 =>
∀ M9 : jT, M9 = up M8 a0 1 ((M8 a0 1) + 1) →
∃ K18 : Prop, (K18 → ((rg (M9 a0 2) ∧
((0 ≤ M9 a0 2 → True) ∧
(M9 a0 2 < 0 → True))) ∧
Q (b2i (M9 a0 2 < 0)) M9)) ∧
rg (M9 a0 2) ∧
((0 ≤ M9 a0 2 → K18) ∧
(M9 a0 2 < 0 → (rg (M9 a0 3) ∧
rg (M9 a0 0) ∧
((M9 a0 0 ≤ M9 a0 3 → K18) ∧
(M9 a0 3 < M9 a0 0 → (rg (M9 a0 1) ∧
((M9 a0 1 < 9 → (∃ n32, n32 < n6 ∧ I5 n32 M9)) ∧
(9 ≤ M9 a0 1 → K18)))))))))
def wo_X10_run (M : jT) (a0 : Int) (Q : Int → jT → Prop) : Prop :=
wp_X6_readText M (a0 + 601) (fun z1 M2 =>
∀ M3 : jT, M3 = up M2 (a0 + 601) 0 0 →
wo_X10_needArgument M3 z1 (wp_X3_keep M3 (a0 + 48) (a0 + 1) (fun M7 =>
∃ I10 : Nat → Int → jT → Prop, (∃ n11, I10 n11 0 M7) ∧
∀ (n11 : Nat) (x8 : Int) (M9 : jT), I10 n11 x8 M9 →
∃ K22 : jT → Prop, (∀ (M21 : jT), K22 M21 → (rg x8 ∧
rg (M21 (a0 + 601) 1) ∧
((M21 (a0 + 601) 1 ≤ x8 → wp_X3_push M21 (a0 + 48) (fun M27 =>
Q x8 M27)) ∧
(x8 < M21 (a0 + 601) 1 → ((pg_X6_startOf M21 (a0 + 601) x8) ∧
∀ M31 : jT, M31 = up M21 (a0 + 601) 2 (pf_X6_startOf M21 (a0 + 601) x8) →
wp_X3_giveUp M31 (a0 + 48) (a0 + 1) (fun M33 =>
wp_X10_spoilAll M33 a0 (fun M35 =>
False))))))) ∧
rg x8 ∧
rg (M9 (a0 + 601) 1) ∧
((M9 (a0 + 601) 1 ≤ x8 → K22 M9) ∧
(x8 < M9 (a0 + 601) 1 → (wp_X10_carryOut M9 a0 x8 (fun z39 M40 =>
rg z39 ∧
((z39 = 0 → K22 M40) ∧
(z39 ≠ 0 → (∀ x43 : Int, x43 = x8 + 1 →
∃ n44, n44 < n11 ∧ I10 n44 x43 M40))))))))))
def wp_X10_run (M : jT) (a0 : Int) (Q : Int → jT → Prop) (X : Nat → jT → Prop) : Prop :=
wp_X6_readText M (a0 + 601) (fun z1 M2 =>
∀ M3 : jT, M3 = up M2 (a0 + 601) 0 0 →
((wo_X10_needArgument M3 z1 (wp_X3_keep M3 (a0 + 48) (a0 + 1) (fun M7 =>
∃ I10 : Nat → Int → jT → Prop, (∃ n11, I10 n11 0 M7) ∧
∀ (n11 : Nat) (x8 : Int) (M9 : jT), I10 n11 x8 M9 →
∃ K22 : jT → Prop, (∀ (M21 : jT), K22 M21 → (rg x8 ∧
rg (M21 (a0 + 601) 1) ∧
((M21 (a0 + 601) 1 ≤ x8 → wp_X3_push M21 (a0 + 48) (fun M27 =>
Q x8 M27)) ∧
(x8 < M21 (a0 + 601) 1 → ((pg_X6_startOf M21 (a0 + 601) x8) ∧
∀ M31 : jT, M31 = up M21 (a0 + 601) 2 (pf_X6_startOf M21 (a0 + 601) x8) →
wp_X3_giveUp M31 (a0 + 48) (a0 + 1) (fun M33 =>
wp_X10_spoilAll M33 a0 (fun M35 =>
X 3 M35))))))) ∧
rg x8 ∧
rg (M9 (a0 + 601) 1) ∧
((M9 (a0 + 601) 1 ≤ x8 → K22 M9) ∧
(x8 < M9 (a0 + 601) 1 → (wp_X10_carryOut M9 a0 x8 (fun z39 M40 =>
rg z39 ∧
((z39 = 0 → K22 M40) ∧
(z39 ≠ 0 → (∀ x43 : Int, x43 = x8 + 1 →
∃ n44, n44 < n11 ∧ I10 n44 x43 M40)))))))))) ∨
(wp_X10_needArgument M3 z1 (fun _ => False) X)))
