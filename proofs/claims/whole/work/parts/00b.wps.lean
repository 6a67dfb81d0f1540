def pf_X11_thrown (M : jT) (a0 : Int) : Int :=
M a0 0
def wp_X11_raises (M : jT) (a0 : Int) (a1 : Int) (Q : Int → jT → Prop) : Prop :=
∀ M1 : jT, M1 = up M a0 0 a1 →
Q 0 M1
abbrev pb_X11_in (a0 : Int) (a1 : Int) (a2 : Int) : Prop :=
a1 ≤ a0 ∧ a0 ≤ a2
def pg_X11_in (a0 : Int) (a1 : Int) (a2 : Int) : Prop :=
rg a0 ∧
rg a1 ∧
((a0 < a1 → True) ∧
(a1 ≤ a0 → (rg a2 ∧
((a2 < a0 → True) ∧
(a0 ≤ a2 → True)))))
def wp_X11_keeps (M : jT) (a0 : Int) (Q : jT → Prop) : Prop :=
∃ K16 : jT → Prop, (∀ (M15 : jT), K16 M15 → (∃ I19 : Nat → Int → jT → Prop, (∃ n20, I19 n20 0 M15) ∧
∀ (n20 : Nat) (x17 : Int) (M18 : jT), I19 n20 x17 M18 →
rg x17 ∧
((1294 ≤ x17 → (∀ M23 : jT, M23 = up M18 a0 3 ((M18 a0 3) + 1) →
∀ M24 : jT, M24 = up M23 a0 14 ((-1)) →
Q M24)) ∧
(x17 < 1294 → ((0 ≤ x17 ∧ x17 < 1294) ∧
(0 ≤ (1294 * (M18 a0 3)) + x17 ∧ (1294 * (M18 a0 3)) + x17 < 10352) ∧
∀ M27 : jT, M27 = up M18 (a0 + 2) ((1294 * (M18 a0 3)) + x17) (M18 (a0 + 4) x17) →
∀ x28 : Int, x28 = x17 + 1 →
∃ n29, n29 < n20 ∧ I19 n29 x28 M27))))) ∧
rg (M a0 3) ∧
((M a0 3 ≠ 8 → K16 M) ∧
(M a0 3 = 8 → (∃ I34 : Nat → Int → jT → Prop, (∃ n35, I34 n35 0 M) ∧
∀ (n35 : Nat) (x32 : Int) (M33 : jT), I34 n35 x32 M33 →
rg x32 ∧
((9058 ≤ x32 → (∀ M38 : jT, M38 = up M33 a0 3 ((M33 a0 3) - 1) →
K16 M38)) ∧
(x32 < 9058 → ((0 ≤ 1294 + x32 ∧ 1294 + x32 < 10352) ∧
(0 ≤ x32 ∧ x32 < 10352) ∧
∀ M41 : jT, M41 = up M33 (a0 + 2) x32 (M33 (a0 + 2) (1294 + x32)) →
∀ x42 : Int, x42 = x32 + 1 →
∃ n43, n43 < n35 ∧ I34 n43 x42 M41))))))
def wp_X11_changes (M : jT) (a0 : Int) (Q : jT → Prop) : Prop :=
∃ I3 : Nat → Int → jT → Prop, (∃ n4, I3 n4 0 M) ∧
∀ (n4 : Nat) (x1 : Int) (M2 : jT), I3 n4 x1 M2 →
rg x1 ∧
((1294 ≤ x1 → wp_X11_keeps M2 a0 (fun M8 =>
Q M8)) ∧
(x1 < 1294 → ((0 ≤ x1 ∧ x1 < 1294) ∧
∀ M10 : jT, M10 = up M2 (a0 + 4) x1 (M2 (a0 + 1) x1) →
∀ x11 : Int, x11 = x1 + 1 →
∃ n12, n12 < n4 ∧ I3 n12 x11 M10)))
def pf_X11_yearDay (a0 : Int) : Int :=
(365 * a0) + ((a0 + 3) / 4)
def pg_X11_yearDay (a0 : Int) : Prop :=
(0 ≤ (a0 + 3) ∧ (a0 + 3) < 2147483648) ∧
True
def pf_X11_monthLength (a0 : Int) (a1 : Int) : Int :=
if a1 = 2 then (if a0 % 4 ≠ 0 then 28 else 29) else if a1 = 3 then 31 else if a1 = 4 then 30 else if a1 = 5 then 31 else if a1 = 6 then 30 else if a1 = 7 then 31 else if a1 = 8 then 31 else if a1 = 9 then 30 else if a1 = 10 then 31 else if a1 = 11 then 30 else 31
def pg_X11_monthLength (a0 : Int) (a1 : Int) : Prop :=
rg a1 ∧
((a1 = 2 → ((0 ≤ a0 ∧ a0 < 2147483648) ∧
rg (a0 % 4) ∧
((a0 % 4 ≠ 0 → True) ∧
(a0 % 4 = 0 → True)))) ∧
(a1 = 3 → True) ∧
(a1 = 4 → True) ∧
(a1 = 5 → True) ∧
(a1 = 6 → True) ∧
(a1 = 7 → True) ∧
(a1 = 8 → True) ∧
(a1 = 9 → True) ∧
(a1 = 10 → True) ∧
(a1 = 11 → True) ∧
(a1 ≠ 2 ∧ a1 ≠ 3 ∧ a1 ≠ 4 ∧ a1 ≠ 5 ∧ a1 ≠ 6 ∧ a1 ≠ 7 ∧ a1 ≠ 8 ∧ a1 ≠ 9 ∧ a1 ≠ 10 ∧ a1 ≠ 11 → True))
def wp_X11_monthDay (M : jT) (a0 : Int) (a1 : Int) (Q : Int → Prop) : Prop :=
(pg_X11_yearDay a0) ∧
∀ x4 : Int, x4 = pf_X11_yearDay a0 →
∃ I7 : Nat → Int → Int → Prop, (∃ n8, I7 n8 x4 1) ∧
∀ (n8 : Nat) (x5 : Int) (x6 : Int), I7 n8 x5 x6 →
rg x6 ∧
rg a1 ∧
((a1 ≤ x6 → Q x5) ∧
(x6 < a1 → ((pg_X11_monthLength a0 x6) ∧
∀ x15 : Int, x15 = x5 + (pf_X11_monthLength a0 x6) →
∀ x16 : Int, x16 = x6 + 1 →
∃ n17, n17 < n8 ∧ I7 n17 x15 x16)))
def pf_X11_weekday (a0 : Int) : Int :=
(a0 + 5) % 7
def pg_X11_weekday (a0 : Int) : Prop :=
(0 ≤ (a0 + 5) ∧ (a0 + 5) < 2147483648) ∧
True
def wp_X11_yearOf (M : jT) (a0 : Int) (Q : Int → Prop) : Prop :=
∃ I2 : Nat → Int → Prop, (∃ n3, I2 n3 0) ∧
∀ (n3 : Nat) (x1 : Int), I2 n3 x1 →
(pg_X11_yearDay (x1 + 1)) ∧
rg (pf_X11_yearDay (x1 + 1)) ∧
rg a0 ∧
((a0 < pf_X11_yearDay (x1 + 1) → Q x1) ∧
(pf_X11_yearDay (x1 + 1) ≤ a0 → (∀ x10 : Int, x10 = x1 + 1 →
∃ n11, n11 < n3 ∧ I2 n11 x10)))
def wp_X11_monthOf (M : jT) (a0 : Int) (Q : Int → Prop) : Prop :=
wp_X11_yearOf M a0 (fun z1 =>
∃ I4 : Nat → Int → Prop, (∃ n5, I4 n5 1) ∧
∀ (n5 : Nat) (x3 : Int), I4 n5 x3 →
∃ K15 : Prop, (K15 → Q x3) ∧
rg x3 ∧
((12 ≤ x3 → K15) ∧
(x3 < 12 → (wp_X11_monthDay M z1 (x3 + 1) (fun z18 =>
rg z18 ∧
rg a0 ∧
((a0 < z18 → K15) ∧
(z18 ≤ a0 → (∀ x23 : Int, x23 = x3 + 1 →
∃ n24, n24 < n5 ∧ I4 n24 x23))))))))
def wp_X11_dayOfMonth (M : jT) (a0 : Int) (Q : Int → Prop) : Prop :=
wp_X11_yearOf M a0 (fun z1 =>
wp_X11_monthOf M a0 (fun z3 =>
wp_X11_monthDay M z1 z3 (fun z5 =>
Q ((a0 - z5) + 1))))
def wp_X11_day (M : jT) (a0 : Int) (a1 : Int) (a2 : Int) (a3 : Int) (Q : Int → jT → Prop) : Prop :=
∀ M1 : jT, M1 = up M a0 0 0 →
(pg_X11_in a1 0 31) ∧
∃ K19 : Prop, (K19 → wp_X11_raises M1 a0 1 (fun z20 M21 =>
Q z20 M21)) ∧
((¬ (pb_X11_in a1 0 31) → K19) ∧
(pb_X11_in a1 0 31 → ((pg_X11_in a2 1 12) ∧
((¬ (pb_X11_in a2 1 12) → K19) ∧
(pb_X11_in a2 1 12 → ((pg_X11_monthLength a1 a2) ∧
(pg_X11_in a3 1 (pf_X11_monthLength a1 a2)) ∧
((pb_X11_in a3 1 (pf_X11_monthLength a1 a2) → wp_X11_monthDay M1 a1 a2 (fun z34 =>
Q ((z34 + a3) - 1) M1)) ∧
(¬ (pb_X11_in a3 1 (pf_X11_monthLength a1 a2)) → K19))))))))
abbrev pb_X11_isDay (a0 : Int) : Prop :=
pb_X11_in a0 0 11687
def pg_X11_isDay (a0 : Int) : Prop :=
(pg_X11_in a0 0 11687) ∧
True
def wp_X11_date (M : jT) (a0 : Int) (a1 : Int) (a2 : Int) (Q : Int → jT → Prop) : Prop :=
∀ M1 : jT, M1 = up M a0 0 0 →
(pg_X11_isDay a1) ∧
((pb_X11_isDay a1 → (rg a2 ∧
((a2 = 0 → wp_X11_yearOf M1 a1 (fun z8 =>
Q z8 M1)) ∧
(a2 = 1 → wp_X11_monthOf M1 a1 (fun z10 =>
Q z10 M1)) ∧
(a2 = 2 → wp_X11_dayOfMonth M1 a1 (fun z12 =>
Q z12 M1)) ∧
(a2 = 3 → ((pg_X11_weekday a1) ∧
Q (pf_X11_weekday a1) M1)) ∧
(a2 = 4 → (wp_X11_yearOf M1 a1 (fun z17 =>
(pg_X11_yearDay z17) ∧
Q ((a1 - (pf_X11_yearDay z17)) + 1) M1))) ∧
(a2 = 5 → (wp_X11_dayOfMonth M1 a1 (fun z22 =>
(0 ≤ (z22 - 1) ∧ (z22 - 1) < 2147483648) ∧
Q (((z22 - 1) / 7) + 1) M1))) ∧
(a2 ≠ 0 ∧ a2 ≠ 1 ∧ a2 ≠ 2 ∧ a2 ≠ 3 ∧ a2 ≠ 4 ∧ a2 ≠ 5 → wp_X11_raises M1 a0 2 (fun z25 M26 =>
Q z25 M26))))) ∧
(¬ (pb_X11_isDay a1) → wp_X11_raises M1 a0 1 (fun z27 M28 =>
Q z27 M28)))
abbrev pb_X11_isDate (a0 : Int) : Prop :=
pb_X11_in a0 1 31 ∨ ((¬ (pb_X11_in a0 100 599) ∧ pb_X11_in a0 1010 1319 ∧ a0 % 10 ≤ 6) ∨ (pb_X11_in a0 100 599 ∧ a0 % 100 ≤ 6))
def pg_X11_isDate (a0 : Int) : Prop :=
(pg_X11_in a0 1 31) ∧
((¬ (pb_X11_in a0 1 31) → ((pg_X11_in a0 100 599) ∧
((¬ (pb_X11_in a0 100 599) → ((pg_X11_in a0 1010 1319) ∧
((¬ (pb_X11_in a0 1010 1319) → True) ∧
(pb_X11_in a0 1010 1319 → ((0 ≤ a0 ∧ a0 < 2147483648) ∧
rg (a0 % 10) ∧
((6 < a0 % 10 → True) ∧
(a0 % 10 ≤ 6 → True))))))) ∧
(pb_X11_in a0 100 599 → ((0 ≤ a0 ∧ a0 < 2147483648) ∧
rg (a0 % 100) ∧
((6 < a0 % 100 → True) ∧
(a0 % 100 ≤ 6 → True))))))) ∧
(pb_X11_in a0 1 31 → True))
def wp_X11_dayBy (M : jT) (a0 : Int) (a1 : Int) (a2 : Int) (Q : Int → Prop) : Prop :=
wp_X11_monthDay M a1 a2 (fun z1 =>
(pg_X11_monthLength a1 a2) ∧
∀ x6 : Int, x6 = pf_X11_monthLength a1 a2 →
rg a0 ∧
((31 < a0 → ((((1000 ≤ a0 → ((0 ≤ a0 ∧ a0 < 2147483648) ∧
True)) ∧
(a0 < 1000 → ((0 ≤ a0 ∧ a0 < 2147483648) ∧
True)))) ∧
(∀ x12 : Int, (1000 ≤ a0 → x12 = a0 % 10) → (a0 < 1000 → x12 = a0 % 100) → 
(((a0 < 1000 → (((a0 < 500 → True) ∧
(500 ≤ a0 → True)))) ∧
(1000 ≤ a0 → ((0 ≤ (a0 - 1000) ∧ (a0 - 1000) < 2147483648) ∧
True)))) ∧
(∀ x20 : Int, (a0 < 1000 ∧ a0 < 500 → x20 = 1) → (a0 < 1000 ∧ 500 ≤ a0 → x20 = x6 - 6) → (1000 ≤ a0 → x20 = (a0 - 1000) / 10) → 
rg x20 ∧
rg x6 ∧
((x20 ≤ x6 → ((pg_X11_weekday ((z1 + x20) - 1)) ∧
(0 ≤ ((x12 - (pf_X11_weekday ((z1 + x20) - 1))) + 7) ∧ ((x12 - (pf_X11_weekday ((z1 + x20) - 1))) + 7) < 2147483648) ∧
∀ x32 : Int, x32 = x20 + (((x12 - (pf_X11_weekday ((z1 + x20) - 1))) + 7) % 7) →
(((500 ≤ a0 → True) ∧
(a0 < 500 → ((0 ≤ a0 ∧ a0 < 2147483648) ∧
True)))) ∧
(∀ x35 : Int, (500 ≤ a0 → x35 = x32) → (a0 < 500 → x35 = x32 + (7 * ((a0 / 100) - 1))) → 
(rg x35 ∧
((x6 < x35 → True) ∧
(x35 ≤ x6 → True))) ∧
(∀ x41 : Int, (x6 < x35 → x41 = (-1)) → (x35 ≤ x6 → x41 = (z1 + x35) - 1) → 
Q x41)))) ∧
(x6 < x20 → Q ((-1)))))))) ∧
(a0 ≤ 31 → ((rg x6 ∧
((x6 < a0 → True) ∧
(a0 ≤ x6 → True))) ∧
(∀ x47 : Int, (x6 < a0 → x47 = (-1)) → (a0 ≤ x6 → x47 = (z1 + a0) - 1) → 
Q x47)))))
abbrev pb_X11_isZone (M : jT) (a0 : Int) (a1 : Int) : Prop :=
pb_X11_in a1 0 ((M (a0 + 1) 0) - 1)
def pg_X11_isZone (M : jT) (a0 : Int) (a1 : Int) : Prop :=
(pg_X11_in a1 0 ((M (a0 + 1) 0) - 1)) ∧
True
def pf_X11_zoneAt (a0 : Int) : Int :=
2 + (67 * a0)
def pf_X11_ruleAt (a0 : Int) (a1 : Int) : Int :=
((pf_X11_zoneAt a0) + 3) + (7 * a1)
abbrev pb_X11_isRule (M : jT) (a0 : Int) (a1 : Int) (a2 : Int) : Prop :=
pb_X11_isZone M a0 a1 ∧ pb_X11_in a2 0 ((M (a0 + 1) ((pf_X11_zoneAt a1) + 1)) - 1)
def pg_X11_isRule (M : jT) (a0 : Int) (a1 : Int) (a2 : Int) : Prop :=
(pg_X11_isZone M a0 a1) ∧
((¬ (pb_X11_isZone M a0 a1) → True) ∧
(pb_X11_isZone M a0 a1 → ((0 ≤ (pf_X11_zoneAt a1) + 1 ∧ (pf_X11_zoneAt a1) + 1 < 1294) ∧
(pg_X11_in a2 0 ((M (a0 + 1) ((pf_X11_zoneAt a1) + 1)) - 1)) ∧
((¬ (pb_X11_in a2 0 ((M (a0 + 1) ((pf_X11_zoneAt a1) + 1)) - 1)) → True) ∧
(pb_X11_in a2 0 ((M (a0 + 1) ((pf_X11_zoneAt a1) + 1)) - 1) → True)))))
abbrev pb_X11_isBase (a0 : Int) : Prop :=
pb_X11_in a0 ((-720)) 840
def pg_X11_isBase (a0 : Int) : Prop :=
(pg_X11_in a0 ((-720)) 840) ∧
True
def wp_X11_zoneBy (M : jT) (a0 : Int) (a1 : Int) (Q : Int → jT → Prop) : Prop :=
(pg_X11_isBase a1) ∧
((pb_X11_isBase a1 → (rg (M (a0 + 1) 0) ∧
((M (a0 + 1) 0 ≠ 6 → (∃ I9 : Nat → Int → jT → Prop, (∃ n10, I9 n10 0 M) ∧
∀ (n10 : Nat) (x7 : Int) (M8 : jT), I9 n10 x7 M8 →
rg x7 ∧
((67 ≤ x7 → ((0 ≤ pf_X11_zoneAt (M8 (a0 + 1) 0) ∧ pf_X11_zoneAt (M8 (a0 + 1) 0) < 1294) ∧
∀ M16 : jT, M16 = up M8 (a0 + 1) (pf_X11_zoneAt (M8 (a0 + 1) 0)) a1 →
∀ M17 : jT, M17 = up M16 (a0 + 1) 0 ((M16 (a0 + 1) 0) + 1) →
Q (M16 (a0 + 1) 0) M17)) ∧
(x7 < 67 → ((0 ≤ (pf_X11_zoneAt (M8 (a0 + 1) 0)) + x7 ∧ (pf_X11_zoneAt (M8 (a0 + 1) 0)) + x7 < 1294) ∧
∀ M21 : jT, M21 = up M8 (a0 + 1) ((pf_X11_zoneAt (M8 (a0 + 1) 0)) + x7) 0 →
∀ x22 : Int, x22 = x7 + 1 →
∃ n23, n23 < n10 ∧ I9 n23 x22 M21))))) ∧
(M (a0 + 1) 0 = 6 → Q ((-2)) M)))) ∧
(¬ (pb_X11_isBase a1) → Q ((-1)) M))
def wp_X11_baseBy (M : jT) (a0 : Int) (a1 : Int) (a2 : Int) (a3 : Int) (Q : Int → jT → Prop) : Prop :=
(pg_X11_isZone M a0 a1) ∧
((pb_X11_isZone M a0 a1 → ((pg_X11_isDay a2) ∧
∃ K24 : Prop, (K24 → Q ((-2)) M) ∧
((¬ (pb_X11_isDay a2) → K24) ∧
(pb_X11_isDay a2 → ((pg_X11_isBase a3) ∧
((pb_X11_isBase a3 → (∀ x32 : Int, x32 = pf_X11_zoneAt a1 →
(0 ≤ x32 + 2 ∧ x32 + 2 < 1294) ∧
rg (M (a0 + 1) (x32 + 2)) ∧
((M (a0 + 1) (x32 + 2) ≠ 4 → ((0 ≤ (x32 + 59) + (2 * (M (a0 + 1) (x32 + 2))) ∧ (x32 + 59) + (2 * (M (a0 + 1) (x32 + 2))) < 1294) ∧
∀ M37 : jT, M37 = up M (a0 + 1) ((x32 + 59) + (2 * (M (a0 + 1) (x32 + 2)))) a2 →
(0 ≤ ((x32 + 59) + (2 * (M37 (a0 + 1) (x32 + 2)))) + 1 ∧ ((x32 + 59) + (2 * (M37 (a0 + 1) (x32 + 2)))) + 1 < 1294) ∧
∀ M39 : jT, M39 = up M37 (a0 + 1) (((x32 + 59) + (2 * (M37 (a0 + 1) (x32 + 2)))) + 1) a3 →
∀ M40 : jT, M40 = up M39 (a0 + 1) (x32 + 2) ((M39 (a0 + 1) (x32 + 2)) + 1) →
Q (M39 (a0 + 1) (x32 + 2)) M40)) ∧
(M (a0 + 1) (x32 + 2) = 4 → Q ((-3)) M)))) ∧
(¬ (pb_X11_isBase a3) → K24))))))) ∧
(¬ (pb_X11_isZone M a0 a1) → Q ((-1)) M))
def wp_X11_ruleBy (M : jT) (a0 : Int) (a1 : Int) (a2 : Int) (a3 : Int) (a4 : Int) (a5 : Int) (a6 : Int) (Q : Int → jT → Prop) : Prop :=
(pg_X11_isZone M a0 a1) ∧
((pb_X11_isZone M a0 a1 → (∃ K103 : Prop, (K103 → Q ((-2)) M) ∧
rg a2 ∧
((a2 < 0 → K103) ∧
(0 ≤ a2 → (rg a5 ∧
((0 ≤ a5 → ((0 ≤ a2 ∧ a2 < 2147483648) ∧
∀ x109 : Int, x109 = a2 / 100 →
∀ x110 : Int, x110 = a2 % 100 →
∃ K156 : Prop, (K156 → Q ((-2)) M) ∧
rg x109 ∧
rg x110 ∧
((x110 < x109 → K156) ∧
(x109 ≤ x110 → (((31 < x110 → K156) ∧
(x110 ≤ 31 → ((pg_X11_in a3 1 12) ∧
((¬ (pb_X11_in a3 1 12) → K156) ∧
(pb_X11_in a3 1 12 → ((pg_X11_isDate a4) ∧
((¬ (pb_X11_isDate a4) → K156) ∧
(pb_X11_isDate a4 → ((0 ≤ a5 ∧ a5 < 2147483648) ∧
rg (a5 / 10) ∧
((1439 < a5 / 10 → K156) ∧
(a5 / 10 ≤ 1439 → (rg (a5 % 10) ∧
((2 < a5 % 10 → K156) ∧
(a5 % 10 ≤ 2 → ((pg_X11_in a6 0 120) ∧
((pb_X11_in a6 0 120 → (∀ x180 : Int, x180 = pf_X11_zoneAt a1 →
(0 ≤ x180 + 1 ∧ x180 + 1 < 1294) ∧
rg (M (a0 + 1) (x180 + 1)) ∧
((M (a0 + 1) (x180 + 1) ≠ 8 → (∀ x186 : Int, x186 = pf_X11_ruleAt a1 (M (a0 + 1) (x180 + 1)) →
(0 ≤ x186 ∧ x186 < 1294) ∧
∀ M188 : jT, M188 = up M (a0 + 1) x186 x109 →
(0 ≤ x186 + 1 ∧ x186 + 1 < 1294) ∧
∀ M190 : jT, M190 = up M188 (a0 + 1) (x186 + 1) x110 →
(0 ≤ x186 + 2 ∧ x186 + 2 < 1294) ∧
∀ M192 : jT, M192 = up M190 (a0 + 1) (x186 + 2) a3 →
(0 ≤ x186 + 3 ∧ x186 + 3 < 1294) ∧
∀ M194 : jT, M194 = up M192 (a0 + 1) (x186 + 3) a4 →
(0 ≤ x186 + 4 ∧ x186 + 4 < 1294) ∧
∀ M196 : jT, M196 = up M194 (a0 + 1) (x186 + 4) (a5 / 10) →
(0 ≤ x186 + 5 ∧ x186 + 5 < 1294) ∧
∀ M198 : jT, M198 = up M196 (a0 + 1) (x186 + 5) (a5 % 10) →
(0 ≤ x186 + 6 ∧ x186 + 6 < 1294) ∧
∀ M200 : jT, M200 = up M198 (a0 + 1) (x186 + 6) a6 →
∀ M201 : jT, M201 = up M200 (a0 + 1) (x180 + 1) ((M200 (a0 + 1) (x180 + 1)) + 1) →
Q (M200 (a0 + 1) (x180 + 1)) M201)) ∧
(M (a0 + 1) (x180 + 1) = 8 → Q ((-3)) M)))) ∧
(¬ (pb_X11_in a6 0 120) → K156)))))))))))))))))))))) ∧
(a5 < 0 → K103))))))) ∧
(¬ (pb_X11_isZone M a0 a1) → Q ((-1)) M))
def wp_X11_dropBy (M : jT) (a0 : Int) (a1 : Int) (a2 : Int) (Q : Int → jT → Prop) : Prop :=
(pg_X11_isRule M a0 a1 a2) ∧
((pb_X11_isRule M a0 a1 a2 → (∀ x7 : Int, x7 = pf_X11_zoneAt a1 →
∀ x10 : Int, x10 = pf_X11_ruleAt a1 a2 →
∃ I13 : Nat → Int → jT → Prop, (∃ n14, I13 n14 x10 M) ∧
∀ (n14 : Nat) (x11 : Int) (M12 : jT), I13 n14 x11 M12 →
(0 ≤ x7 + 1 ∧ x7 + 1 < 1294) ∧
rg x11 ∧
rg (pf_X11_ruleAt a1 ((M12 (a0 + 1) (x7 + 1)) - 1)) ∧
((pf_X11_ruleAt a1 ((M12 (a0 + 1) (x7 + 1)) - 1) ≤ x11 → (∀ M21 : jT, M21 = up M12 (a0 + 1) (x7 + 1) ((M12 (a0 + 1) (x7 + 1)) - 1) →
Q ((M12 (a0 + 1) (x7 + 1)) - 1) M21)) ∧
(x11 < pf_X11_ruleAt a1 ((M12 (a0 + 1) (x7 + 1)) - 1) → ((0 ≤ x11 + 7 ∧ x11 + 7 < 1294) ∧
(0 ≤ x11 ∧ x11 < 1294) ∧
∀ M24 : jT, M24 = up M12 (a0 + 1) x11 (M12 (a0 + 1) (x11 + 7)) →
∀ x25 : Int, x25 = x11 + 1 →
∃ n26, n26 < n14 ∧ I13 n26 x25 M24))))) ∧
(¬ (pb_X11_isRule M a0 a1 a2) → Q ((-1)) M))
abbrev pb_X11_isMeeting (M : jT) (a0 : Int) (a1 : Int) : Prop :=
pb_X11_in a1 0 ((M (a0 + 1) 1) - 1)
def pg_X11_isMeeting (M : jT) (a0 : Int) (a1 : Int) : Prop :=
(pg_X11_in a1 0 ((M (a0 + 1) 1) - 1)) ∧
True
def pf_X11_meetingAt (a0 : Int) : Int :=
404 + (89 * a0)
def wp_X11_fifth (M : jT) (a0 : Int) (a1 : Int) (Q : Int → Prop) : Prop :=
(0 ≤ a0 ∧ a0 < 2147483648) ∧
wp_X11_dayBy M (400 + a1) (a0 / 12) ((a0 % 12) + 1) (fun z2 =>
∀ x4 : Int, x4 = z2 + 7 →
wp_X11_monthDay M (a0 / 12) ((a0 % 12) + 1) (fun z5 =>
(pg_X11_monthLength (a0 / 12) ((a0 % 12) + 1)) ∧
(rg (x4 - z5) ∧
rg (pf_X11_monthLength (a0 / 12) ((a0 % 12) + 1)) ∧
((pf_X11_monthLength (a0 / 12) ((a0 % 12) + 1) ≤ x4 - z5 → True) ∧
(x4 - z5 < pf_X11_monthLength (a0 / 12) ((a0 % 12) + 1) → True))) ∧
(∀ x13 : Int, (pf_X11_monthLength (a0 / 12) ((a0 % 12) + 1) ≤ x4 - z5 → x13 = (-1)) → (x4 - z5 < pf_X11_monthLength (a0 / 12) ((a0 % 12) + 1) → x13 = x4) → 
Q x13)))
def wp_X11_lists (M : jT) (a0 : Int) (a1 : Int) (Q : jT → Prop) : Prop :=
∀ x3 : Int, x3 = pf_X11_meetingAt a1 →
(0 ≤ x3 + 1 ∧ x3 + 1 < 1294) ∧
∀ x5 : Int, x5 = M (a0 + 1) (x3 + 1) →
(0 ≤ x3 + 5 ∧ x3 + 5 < 1294) ∧
∀ x7 : Int, x7 = M (a0 + 1) (x3 + 5) →
(0 ≤ x3 + 7 ∧ x3 + 7 < 1294) ∧
∀ x9 : Int, x9 = M (a0 + 1) (x3 + 7) →
∀ M10 : jT, M10 = up M a0 33 0 →
(0 ≤ x3 + 6 ∧ x3 + 6 < 1294) ∧
rg (M10 (a0 + 1) (x3 + 6)) ∧
((M10 (a0 + 1) (x3 + 6) = 0 → (∃ I16 : Nat → Int → jT → Prop, (∃ n17, I16 n17 x5 M10) ∧
∀ (n17 : Nat) (x14 : Int) (M15 : jT), I16 n17 x14 M15 →
∃ K28 : Prop, (K28 → Q M15) ∧
rg x14 ∧
((11688 ≤ x14 → K28) ∧
(x14 < 11688 → (rg (M15 a0 33) ∧
rg x7 ∧
((x7 ≤ M15 a0 33 → K28) ∧
(M15 a0 33 < x7 → (∀ M34 : jT, M34 = up M15 a0 33 ((M15 a0 33) + 1) →
(0 ≤ M15 a0 33 ∧ M15 a0 33 < 40) ∧
∀ M36 : jT, M36 = up M34 (a0 + 19) (M15 a0 33) x14 →
∀ x37 : Int, x37 = x14 + x9 →
∃ n38, n38 < n17 ∧ I16 n38 x37 M36)))))))) ∧
(M10 (a0 + 1) (x3 + 6) = 1 → ((pg_X11_weekday x5) ∧
∀ x42 : Int, x42 = x5 - (pf_X11_weekday x5) →
∃ I45 : Nat → Int → jT → Prop, (∃ n46, I45 n46 x42 M10) ∧
∀ (n46 : Nat) (x43 : Int) (M44 : jT), I45 n46 x43 M44 →
rg x43 ∧
((11688 ≤ x43 → Q M44) ∧
(x43 < 11688 → (∃ I51 : Nat → Int → jT → Prop, (∃ n52, I51 n52 0 M44) ∧
∀ (n52 : Nat) (x49 : Int) (M50 : jT), I51 n52 x49 M50 →
rg x49 ∧
((7 ≤ x49 → (∀ x55 : Int, x55 = x43 + (7 * x9) →
∃ n56, n56 < n46 ∧ I45 n56 x55 M50)) ∧
(x49 < 7 → ((0 ≤ x3 + 8 ∧ x3 + 8 < 1294) ∧
(0 ≤ x49 ∧ x49 < 32) ∧
rg (M50 (a0 + 1) (x3 + 8)) ∧
∃ K73 : jT → Prop, (∀ (M72 : jT), K73 M72 → (∀ x74 : Int, x74 = x49 + 1 →
∃ n75, n75 < n52 ∧ I51 n75 x74 M72)) ∧
rg (((M50 (a0 + 1) (x3 + 8)) / 2 ^ x49.toNat) % 2) ∧
((((M50 (a0 + 1) (x3 + 8)) / 2 ^ x49.toNat) % 2 = 0 → K73 M50) ∧
(((M50 (a0 + 1) (x3 + 8)) / 2 ^ x49.toNat) % 2 ≠ 0 → (rg (x43 + x49) ∧
rg x5 ∧
((x43 + x49 < x5 → K73 M50) ∧
(x5 ≤ x43 + x49 → (((11688 ≤ x43 + x49 → K73 M50) ∧
(x43 + x49 < 11688 → (rg (M50 a0 33) ∧
rg x7 ∧
((M50 a0 33 ≠ x7 → (∀ M85 : jT, M85 = up M50 a0 33 ((M50 a0 33) + 1) →
(0 ≤ M50 a0 33 ∧ M50 a0 33 < 40) ∧
∀ M87 : jT, M87 = up M85 (a0 + 19) (M50 a0 33) (x43 + x49) →
K73 M87)) ∧
(M50 a0 33 = x7 → K73 M50))))))))))))))))))) ∧
(M10 (a0 + 1) (x3 + 6) ≠ 0 ∧ M10 (a0 + 1) (x3 + 6) ≠ 1 → (∃ K98 : Int → Prop, (∀ (x97 : Int), K98 x97 → (wp_X11_yearOf M10 x5 (fun z99 =>
wp_X11_monthOf M10 x5 (fun z101 =>
∀ x103 : Int, x103 = ((12 * z99) + z101) - 1 →
∃ I106 : Nat → Int → jT → Prop, (∃ n107, I106 n107 x103 M10) ∧
∀ (n107 : Nat) (x104 : Int) (M105 : jT), I106 n107 x104 M105 →
∃ K146 : Prop, (K146 → Q M105) ∧
rg x104 ∧
((384 ≤ x104 → K146) ∧
(x104 < 384 → (rg (M105 a0 33) ∧
rg x7 ∧
((x7 ≤ M105 a0 33 → K146) ∧
(M105 a0 33 < x7 → ((pg_X11_in x97 500 506) ∧
∃ K163 : Int → Prop, (∀ (x162 : Int), K163 x162 → (∃ K170 : jT → Prop, (∀ (M169 : jT), K170 M169 → (∀ x171 : Int, x171 = x104 + x9 →
∃ n172, n172 < n107 ∧ I106 n172 x171 M169)) ∧
rg x162 ∧
((x162 < 0 → K170 M105) ∧
(0 ≤ x162 → (∀ M175 : jT, M175 = up M105 a0 33 ((M105 a0 33) + 1) →
(0 ≤ M105 a0 33 ∧ M105 a0 33 < 40) ∧
∀ M177 : jT, M177 = up M175 (a0 + 19) (M105 a0 33) x162 →
K170 M177))))) ∧
((¬ (pb_X11_in x97 500 506) → ((0 ≤ x104 ∧ x104 < 2147483648) ∧
wp_X11_dayBy M105 x97 (x104 / 12) ((x104 % 12) + 1) (fun z180 =>
K163 z180))) ∧
(pb_X11_in x97 500 506 → ((0 ≤ x97 ∧ x97 < 2147483648) ∧
wp_X11_fifth M105 x104 (x97 % 100) (fun z183 =>
K163 z183)))))))))))))) ∧
((M10 (a0 + 1) (x3 + 6) ≠ 2 → (wp_X11_dayOfMonth M10 x5 (fun z186 =>
(0 ≤ (z186 - 1) ∧ (z186 - 1) < 2147483648) ∧
(pg_X11_weekday x5) ∧
K98 ((100 * (((z186 - 1) / 7) + 1)) + (pf_X11_weekday x5))))) ∧
(M10 (a0 + 1) (x3 + 6) = 2 → wp_X11_dayOfMonth M10 x5 (fun z192 =>
K98 z192))))))
def wp_X11_isOccurrence (M : jT) (a0 : Int) (a1 : Int) (a2 : Int) (Q : Int → jT → Prop) : Prop :=
(pg_X11_isMeeting M a0 a1) ∧
((pb_X11_isMeeting M a0 a1 → (wp_X11_lists M a0 a1 (fun M6 =>
(pg_X11_in a2 0 ((M6 a0 33) - 1)) ∧
Q (b2i (pb_X11_in a2 0 ((M6 a0 33) - 1))) M6))) ∧
(¬ (pb_X11_isMeeting M a0 a1) → Q 0 M))
def wp_X11_cancelBy (M : jT) (a0 : Int) (a1 : Int) (a2 : Int) (Q : Int → jT → Prop) : Prop :=
wp_X11_isOccurrence M a0 a1 a2 (fun z1 M2 =>
rg z1 ∧
((z1 ≠ 0 → (∀ x7 : Int, x7 = ((pf_X11_meetingAt a1) + 49) + a2 →
(0 ≤ x7 ∧ x7 < 1294) ∧
∀ M9 : jT, M9 = up M2 (a0 + 1) x7 (1 - (M2 (a0 + 1) x7)) →
Q (M9 (a0 + 1) x7) M9)) ∧
(z1 = 0 → Q ((-1)) M2)))
def wp_X11_ends (M : jT) (a0 : Int) (a1 : Int) (Q : Int → jT → Prop) : Prop :=
rg a1 ∧
((0 ≤ a1 → wp_X11_keeps M a0 (fun M4 =>
Q a1 M4)) ∧
(a1 < 0 → (∃ I7 : Nat → Int → jT → Prop, (∃ n8, I7 n8 0 M) ∧
∀ (n8 : Nat) (x5 : Int) (M6 : jT), I7 n8 x5 M6 →
rg x5 ∧
((1294 ≤ x5 → wp_X11_raises M6 a0 (-a1) (fun z11 M12 =>
Q z11 M12)) ∧
(x5 < 1294 → ((0 ≤ x5 ∧ x5 < 1294) ∧
∀ M14 : jT, M14 = up M6 (a0 + 1) x5 (M6 (a0 + 4) x5) →
∀ x15 : Int, x15 = x5 + 1 →
∃ n16, n16 < n8 ∧ I7 n16 x15 M14))))))
def wp_X11_tries (M : jT) (a0 : Int) (Q : jT → Prop) : Prop :=
∀ M1 : jT, M1 = up M a0 0 0 →
∃ I4 : Nat → Int → jT → Prop, (∃ n5, I4 n5 0 M1) ∧
∀ (n5 : Nat) (x2 : Int) (M3 : jT), I4 n5 x2 M3 →
rg x2 ∧
((1294 ≤ x2 → Q M3) ∧
(x2 < 1294 → ((0 ≤ x2 ∧ x2 < 1294) ∧
∀ M9 : jT, M9 = up M3 (a0 + 4) x2 (M3 (a0 + 1) x2) →
∀ x10 : Int, x10 = x2 + 1 →
∃ n11, n11 < n5 ∧ I4 n11 x10 M9)))
def wp_X11_addZone (M : jT) (a0 : Int) (a1 : Int) (Q : Int → jT → Prop) : Prop :=
wp_X11_tries M a0 (fun M2 =>
wp_X11_zoneBy M2 a0 a1 (fun z3 M4 =>
wp_X11_ends M4 a0 z3 (fun z5 M6 =>
Q z5 M6)))
def wp_X11_changeBase (M : jT) (a0 : Int) (a1 : Int) (a2 : Int) (a3 : Int) (Q : Int → jT → Prop) : Prop :=
wp_X11_tries M a0 (fun M2 =>
wp_X11_baseBy M2 a0 a1 a2 a3 (fun z3 M4 =>
wp_X11_ends M4 a0 z3 (fun z5 M6 =>
Q z5 M6)))
def wp_X11_addRule (M : jT) (a0 : Int) (a1 : Int) (a2 : Int) (a3 : Int) (a4 : Int) (a5 : Int) (a6 : Int) (Q : Int → jT → Prop) : Prop :=
wp_X11_tries M a0 (fun M2 =>
wp_X11_ruleBy M2 a0 a1 a2 a3 a4 a5 a6 (fun z3 M4 =>
wp_X11_ends M4 a0 z3 (fun z5 M6 =>
Q z5 M6)))
def wp_X11_dropRule (M : jT) (a0 : Int) (a1 : Int) (a2 : Int) (Q : Int → jT → Prop) : Prop :=
wp_X11_tries M a0 (fun M2 =>
wp_X11_dropBy M2 a0 a1 a2 (fun z3 M4 =>
wp_X11_ends M4 a0 z3 (fun z5 M6 =>
Q z5 M6)))
def pf_X11_rank (a0 : Int) : Int :=
if a0 < 100 then a0 + 100 else a0 - 100
def pg_X11_rank (a0 : Int) : Prop :=
rg a0 ∧
((a0 < 100 → True) ∧
(100 ≤ a0 → True))
def wp_X11_event (M : jT) (a0 : Int) (a1 : Int) (a2 : Int) (Q : jT → Prop) : Prop :=
∀ M1 : jT, M1 = up M a0 15 ((M a0 15) + 1) →
∀ x2 : Int, x2 = M a0 15 →
∃ I5 : Nat → Int → jT → Prop, (∃ n6, I5 n6 x2 M1) ∧
∀ (n6 : Nat) (x3 : Int) (M4 : jT), I5 n6 x3 M4 →
∃ K42 : Prop, (K42 → ((0 ≤ x3 ∧ x3 < 261) ∧
∀ M44 : jT, M44 = up M4 (a0 + 8) x3 a1 →
∀ M45 : jT, M45 = up M44 (a0 + 9) x3 a2 →
Q M45)) ∧
rg x3 ∧
((x3 ≤ 0 → K42) ∧
(0 < x3 → ((0 ≤ x3 - 1 ∧ x3 - 1 < 261) ∧
∃ K62 : Prop, (K62 → ((0 ≤ x3 ∧ x3 < 261) ∧
∀ M64 : jT, M64 = up M4 (a0 + 8) x3 (M4 (a0 + 8) (x3 - 1)) →
∀ M65 : jT, M65 = up M64 (a0 + 9) x3 (M64 (a0 + 9) (x3 - 1)) →
∀ x66 : Int, x66 = x3 + (-1) →
∃ n67, n67 < n6 ∧ I5 n67 x66 M65)) ∧
rg (M4 (a0 + 8) (x3 - 1)) ∧
rg a1 ∧
((a1 < M4 (a0 + 8) (x3 - 1) → K62) ∧
(M4 (a0 + 8) (x3 - 1) ≤ a1 → (((M4 (a0 + 8) (x3 - 1) ≠ a1 → K42) ∧
(M4 (a0 + 8) (x3 - 1) = a1 → ((pg_X11_rank (M4 (a0 + 9) (x3 - 1))) ∧
(pg_X11_rank a2) ∧
rg (pf_X11_rank (M4 (a0 + 9) (x3 - 1))) ∧
rg (pf_X11_rank a2) ∧
((pf_X11_rank (M4 (a0 + 9) (x3 - 1)) ≤ pf_X11_rank a2 → K42) ∧
(pf_X11_rank a2 < pf_X11_rank (M4 (a0 + 9) (x3 - 1)) → K62)))))))))))
def wp_X11_compiles (M : jT) (a0 : Int) (a1 : Int) (Q : jT → Prop) : Prop :=
rg (M a0 14) ∧
rg a1 ∧
((M a0 14 ≠ a1 → (∀ M4 : jT, M4 = up M a0 14 a1 →
∀ x7 : Int, x7 = pf_X11_zoneAt a1 →
∀ M8 : jT, M8 = up M4 a0 15 0 →
∃ I11 : Nat → Int → jT → Prop, (∃ n12, I11 n12 0 M8) ∧
∀ (n12 : Nat) (x9 : Int) (M10 : jT), I11 n12 x9 M10 →
(0 ≤ x7 + 1 ∧ x7 + 1 < 1294) ∧
rg x9 ∧
rg (M10 (a0 + 1) (x7 + 1)) ∧
((M10 (a0 + 1) (x7 + 1) ≤ x9 → (∃ I19 : Nat → Int → jT → Prop, (∃ n20, I19 n20 0 M10) ∧
∀ (n20 : Nat) (x17 : Int) (M18 : jT), I19 n20 x17 M18 →
(0 ≤ x7 + 2 ∧ x7 + 2 < 1294) ∧
rg x17 ∧
rg (M18 (a0 + 1) (x7 + 2)) ∧
((M18 (a0 + 1) (x7 + 2) ≤ x17 → (∀ M25 : jT, M25 = up M18 a0 18 0 →
∀ M26 : jT, M26 = up M25 a0 24 0 →
(0 ≤ x7 ∧ x7 < 1294) ∧
∀ x28 : Int, x28 = M26 (a0 + 1) x7 →
∃ I33 : Nat → Int → Int → Int → jT → Prop, (∃ n34, I33 n34 x28 0 0 M26) ∧
∀ (n34 : Nat) (x29 : Int) (x30 : Int) (x31 : Int) (M32 : jT), I33 n34 x29 x30 x31 M32 →
rg x31 ∧
rg (M32 a0 15) ∧
((M32 a0 15 ≤ x31 → Q M32) ∧
(x31 < M32 a0 15 → ((0 ≤ x31 ∧ x31 < 261) ∧
∀ x39 : Int, x39 = M32 (a0 + 9) x31 →
(rg x39 ∧
((x39 < 100 → ((0 ≤ (pf_X11_ruleAt a1 x39) + 5 ∧ (pf_X11_ruleAt a1 x39) + 5 < 1294) ∧
True)) ∧
(100 ≤ x39 → True))) ∧
(∀ x45 : Int, (x39 < 100 → x45 = M32 (a0 + 1) ((pf_X11_ruleAt a1 x39) + 5)) → (100 ≤ x39 → x45 = 0) → 
(rg x45 ∧
((x45 ≠ 0 → (((x45 ≠ 1 → True) ∧
(x45 = 1 → True)))) ∧
(x45 = 0 → True))) ∧
(∀ x55 : Int, (x45 ≠ 0 ∧ x45 ≠ 1 → x55 = 0) → (x45 ≠ 0 ∧ x45 = 1 → x55 = x29) → (x45 = 0 → x55 = x29 + x30) → 
∀ x60 : Int, x60 = (M32 (a0 + 8) x31) - x55 →
∃ K121 : Int → Int → jT → Prop, (∀ (x118 : Int) (x119 : Int) (M120 : jT), K121 x118 x119 M120 → (∀ x122 : Int, x122 = x31 + 1 →
∃ n123, n123 < n34 ∧ I33 n123 x118 x119 x122 M120)) ∧
∃ K137 : Prop, (K137 → (∀ x138 : Int, x138 = x29 + x30 →
(rg x39 ∧
((x39 < 100 → ((0 ≤ (pf_X11_ruleAt a1 x39) + 6 ∧ (pf_X11_ruleAt a1 x39) + 6 < 1294) ∧
True)) ∧
(100 ≤ x39 → ((0 ≤ ((x7 + 59) + (2 * (x39 - 100))) + 1 ∧ ((x7 + 59) + (2 * (x39 - 100))) + 1 < 1294) ∧
True)))) ∧
(∀ x145 : Int, (x39 < 100 → x145 = x29) → (100 ≤ x39 → x145 = M32 (a0 + 1) (((x7 + 59) + (2 * (x39 - 100))) + 1)) → ∀ x146 : Int, (x39 < 100 → x146 = M32 (a0 + 1) ((pf_X11_ruleAt a1 x39) + 6)) → (100 ≤ x39 → x146 = x30) → 
rg (x145 + x146) ∧
rg x138 ∧
((x145 + x146 ≠ x138 → ((0 ≤ M32 a0 18 ∧ M32 a0 18 < 261) ∧
∀ M158 : jT, M158 = up M32 (a0 + 10) (M32 a0 18) x60 →
(0 ≤ M158 a0 18 ∧ M158 a0 18 < 261) ∧
∀ M160 : jT, M160 = up M158 (a0 + 11) (M158 a0 18) x138 →
(0 ≤ M160 a0 18 ∧ M160 a0 18 < 261) ∧
∀ M162 : jT, M162 = up M160 (a0 + 12) (M160 a0 18) (x145 + x146) →
(0 ≤ M162 a0 18 ∧ M162 a0 18 < 261) ∧
∀ M164 : jT, M164 = up M162 (a0 + 13) (M162 a0 18) x146 →
∀ M165 : jT, M165 = up M164 a0 18 ((M164 a0 18) + 1) →
(0 ≤ M164 a0 18 ∧ M164 a0 18 < 261) ∧
∀ M167 : jT, M167 = up M165 (a0 + 14) (M164 a0 18) x39 →
K121 x145 x146 M167)) ∧
(x145 + x146 = x138 → K121 x145 x146 M32))))) ∧
rg (M32 a0 18) ∧
((M32 a0 18 ≤ 0 → K137) ∧
(0 < M32 a0 18 → ((0 ≤ (M32 a0 18) - 1 ∧ (M32 a0 18) - 1 < 261) ∧
rg (M32 (a0 + 10) ((M32 a0 18) - 1)) ∧
rg x60 ∧
((M32 (a0 + 10) ((M32 a0 18) - 1) < x60 → K137) ∧
(x60 ≤ M32 (a0 + 10) ((M32 a0 18) - 1) → ((0 ≤ M32 a0 24 ∧ M32 a0 24 < 261) ∧
∀ M175 : jT, M175 = up M32 (a0 + 15) (M32 a0 24) (M32 (a0 + 8) x31) →
(0 ≤ M175 a0 24 ∧ M175 a0 24 < 261) ∧
∀ M177 : jT, M177 = up M175 (a0 + 16) (M175 a0 24) x60 →
∀ M178 : jT, M178 = up M177 a0 24 ((M177 a0 24) + 1) →
(0 ≤ M177 a0 24 ∧ M177 a0 24 < 261) ∧
∀ M180 : jT, M180 = up M178 (a0 + 17) (M177 a0 24) x39 →
K121 x29 x30 M180))))))))))))) ∧
(x17 < M18 (a0 + 1) (x7 + 2) → ((0 ≤ (x7 + 59) + (2 * x17) ∧ (x7 + 59) + (2 * x17) < 1294) ∧
wp_X11_event M18 a0 (1440 * (M18 (a0 + 1) ((x7 + 59) + (2 * x17)))) (100 + x17) (fun M183 =>
∀ x184 : Int, x184 = x17 + 1 →
∃ n185, n185 < n20 ∧ I19 n185 x184 M183)))))) ∧
(x9 < M10 (a0 + 1) (x7 + 1) → (∀ x188 : Int, x188 = pf_X11_ruleAt a1 x9 →
(0 ≤ x188 ∧ x188 < 1294) ∧
∀ x190 : Int, x190 = M10 (a0 + 1) x188 →
∃ I193 : Nat → Int → jT → Prop, (∃ n194, I193 n194 x190 M10) ∧
∀ (n194 : Nat) (x191 : Int) (M192 : jT), I193 n194 x191 M192 →
(0 ≤ x188 + 1 ∧ x188 + 1 < 1294) ∧
rg x191 ∧
rg (M192 (a0 + 1) (x188 + 1)) ∧
((M192 (a0 + 1) (x188 + 1) < x191 → (∀ x199 : Int, x199 = x9 + 1 →
∃ n200, n200 < n12 ∧ I11 n200 x199 M192)) ∧
(x191 ≤ M192 (a0 + 1) (x188 + 1) → ((0 ≤ x188 + 3 ∧ x188 + 3 < 1294) ∧
(0 ≤ x188 + 2 ∧ x188 + 2 < 1294) ∧
wp_X11_dayBy M192 (M192 (a0 + 1) (x188 + 3)) x191 (M192 (a0 + 1) (x188 + 2)) (fun z203 =>
∃ K211 : jT → Prop, (∀ (M210 : jT), K211 M210 → (∀ x212 : Int, x212 = x191 + 1 →
∃ n213, n213 < n194 ∧ I193 n213 x212 M210)) ∧
rg z203 ∧
((z203 < 0 → K211 M192) ∧
(0 ≤ z203 → ((0 ≤ x188 + 4 ∧ x188 + 4 < 1294) ∧
wp_X11_event M192 a0 ((1440 * z203) + (M192 (a0 + 1) (x188 + 4))) x9 (fun M218 =>
K211 M218))))))))))))) ∧
(M a0 14 = a1 → Q M))
def pf_X11_offsetIn (M : jT) (a0 : Int) (a1 : Int) (a2 : Int) : Int :=
if a2 ≠ 0 then M (a0 + 12) (a2 - 1) else M (a0 + 1) (pf_X11_zoneAt a1)
def pg_X11_offsetIn (M : jT) (a0 : Int) (a1 : Int) (a2 : Int) : Prop :=
rg a2 ∧
((a2 ≠ 0 → ((0 ≤ a2 - 1 ∧ a2 - 1 < 261) ∧
True)) ∧
(a2 = 0 → ((0 ≤ pf_X11_zoneAt a1 ∧ pf_X11_zoneAt a1 < 1294) ∧
True)))
def wp_X11_offsetAt (M : jT) (a0 : Int) (a1 : Int) (a2 : Int) (Q : Int → jT → Prop) : Prop :=
wp_X11_compiles M a0 a1 (fun M2 =>
∃ I4 : Nat → Int → Prop, (∃ n5, I4 n5 0) ∧
∀ (n5 : Nat) (x3 : Int), I4 n5 x3 →
∃ K15 : Prop, (K15 → ((pg_X11_offsetIn M2 a0 a1 x3) ∧
Q (pf_X11_offsetIn M2 a0 a1 x3) M2)) ∧
rg x3 ∧
rg (M2 a0 18) ∧
((M2 a0 18 ≤ x3 → K15) ∧
(x3 < M2 a0 18 → ((0 ≤ x3 ∧ x3 < 261) ∧
rg (M2 (a0 + 10) x3) ∧
rg a2 ∧
((a2 < M2 (a0 + 10) x3 → K15) ∧
(M2 (a0 + 10) x3 ≤ a2 → (∀ x26 : Int, x26 = x3 + 1 →
∃ n27, n27 < n5 ∧ I4 n27 x26)))))))
def wp_X11_zone (M : jT) (a0 : Int) (a1 : Int) (a2 : Int) (Q : Int → jT → Prop) : Prop :=
∀ M1 : jT, M1 = up M a0 0 0 →
(pg_X11_isZone M1 a0 a1) ∧
((pb_X11_isZone M1 a0 a1 → ((pg_X11_in a2 0 8) ∧
((pb_X11_in a2 0 8 → (rg a2 ∧
((3 ≤ a2 → (wp_X11_compiles M1 a0 a1 (fun M13 =>
((a2 ≠ 3 → (((a2 ≠ 4 → (((a2 ≠ 5 → (((a2 ≠ 6 → ((pg_X11_offsetIn M13 a0 a1 0) ∧
∀ x21 : Int, x21 = pf_X11_offsetIn M13 a0 a1 0 →
∃ I24 : Nat → Int → Int → Prop, (∃ n25, I24 n25 x21 1) ∧
∀ (n25 : Nat) (x22 : Int) (x23 : Int), I24 n25 x22 x23 →
rg x23 ∧
rg (M13 a0 18) ∧
((M13 a0 18 < x23 → Q x22 M13) ∧
(x23 ≤ M13 a0 18 → (∃ K41 : Int → Prop, (∀ (x40 : Int), K41 x40 → (∀ x42 : Int, x42 = x23 + 1 →
∃ n43, n43 < n25 ∧ I24 n43 x40 x42)) ∧
((a2 ≠ 7 → ((pg_X11_offsetIn M13 a0 a1 x23) ∧
rg x22 ∧
rg (pf_X11_offsetIn M13 a0 a1 x23) ∧
K41 (min x22 (pf_X11_offsetIn M13 a0 a1 x23)))) ∧
(a2 = 7 → ((pg_X11_offsetIn M13 a0 a1 x23) ∧
rg x22 ∧
rg (pf_X11_offsetIn M13 a0 a1 x23) ∧
K41 (max x22 (pf_X11_offsetIn M13 a0 a1 x23)))))))))) ∧
(a2 = 6 → ((pg_X11_offsetIn M13 a0 a1 (M13 a0 18)) ∧
Q (pf_X11_offsetIn M13 a0 a1 (M13 a0 18)) M13))))) ∧
(a2 = 5 → Q (M13 a0 15) M13)))) ∧
(a2 = 4 → Q (M13 a0 24) M13)))) ∧
(a2 = 3 → Q (M13 a0 18) M13))))) ∧
(a2 < 3 → ((0 ≤ (pf_X11_zoneAt a1) + a2 ∧ (pf_X11_zoneAt a1) + a2 < 1294) ∧
Q (M1 (a0 + 1) ((pf_X11_zoneAt a1) + a2)) M1))))) ∧
(¬ (pb_X11_in a2 0 8) → wp_X11_raises M1 a0 2 (fun z61 M62 =>
Q z61 M62))))) ∧
(¬ (pb_X11_isZone M1 a0 a1) → wp_X11_raises M1 a0 1 (fun z63 M64 =>
Q z63 M64)))
def wp_X11_rule (M : jT) (a0 : Int) (a1 : Int) (a2 : Int) (a3 : Int) (Q : Int → jT → Prop) : Prop :=
∀ M1 : jT, M1 = up M a0 0 0 →
(pg_X11_isRule M1 a0 a1 a2) ∧
((pb_X11_isRule M1 a0 a1 a2 → ((pg_X11_in a3 0 6) ∧
∃ K17 : Int → jT → Prop, (∀ (x15 : Int) (M16 : jT), K17 x15 M16 → Q x15 M16) ∧
((¬ (pb_X11_in a3 0 6) → wp_X11_raises M1 a0 2 (fun z19 M20 =>
K17 z19 M20)) ∧
(pb_X11_in a3 0 6 → ((0 ≤ (pf_X11_ruleAt a1 a2) + a3 ∧ (pf_X11_ruleAt a1 a2) + a3 < 1294) ∧
K17 (M1 (a0 + 1) ((pf_X11_ruleAt a1 a2) + a3)) M1))))) ∧
(¬ (pb_X11_isRule M1 a0 a1 a2) → wp_X11_raises M1 a0 1 (fun z24 M25 =>
Q z24 M25)))
def wp_X11_eventDay (M : jT) (a0 : Int) (a1 : Int) (a2 : Int) (a3 : Int) (Q : Int → jT → Prop) : Prop :=
∀ M1 : jT, M1 = up M a0 0 0 →
(pg_X11_isRule M1 a0 a1 a2) ∧
((pb_X11_isRule M1 a0 a1 a2 → ((pg_X11_in a3 0 31) ∧
((pb_X11_in a3 0 31 → (∀ x12 : Int, x12 = pf_X11_ruleAt a1 a2 →
(0 ≤ x12 ∧ x12 < 1294) ∧
(0 ≤ x12 + 1 ∧ x12 + 1 < 1294) ∧
(pg_X11_in a3 (M1 (a0 + 1) x12) (M1 (a0 + 1) (x12 + 1))) ∧
∃ K24 : Int → Prop, (∀ (x23 : Int), K24 x23 → (∃ K31 : Int → jT → Prop, (∀ (x29 : Int) (M30 : jT), K31 x29 M30 → Q x29 M30) ∧
rg x23 ∧
((0 ≤ x23 → K31 x23 M1) ∧
(x23 < 0 → wp_X11_raises M1 a0 3 (fun z34 M35 =>
K31 z34 M35))))) ∧
((¬ (pb_X11_in a3 (M1 (a0 + 1) x12) (M1 (a0 + 1) (x12 + 1))) → K24 ((-1))) ∧
(pb_X11_in a3 (M1 (a0 + 1) x12) (M1 (a0 + 1) (x12 + 1)) → ((0 ≤ x12 + 3 ∧ x12 + 3 < 1294) ∧
(0 ≤ x12 + 2 ∧ x12 + 2 < 1294) ∧
wp_X11_dayBy M1 (M1 (a0 + 1) (x12 + 3)) a3 (M1 (a0 + 1) (x12 + 2)) (fun z39 =>
K24 z39)))))) ∧
(¬ (pb_X11_in a3 0 31) → wp_X11_raises M1 a0 2 (fun z41 M42 =>
Q z41 M42))))) ∧
(¬ (pb_X11_isRule M1 a0 a1 a2) → wp_X11_raises M1 a0 1 (fun z43 M44 =>
Q z43 M44)))
def wp_X11_transition (M : jT) (a0 : Int) (a1 : Int) (a2 : Int) (a3 : Int) (Q : Int → jT → Prop) : Prop :=
∀ M1 : jT, M1 = up M a0 0 0 →
(pg_X11_isZone M1 a0 a1) ∧
((pb_X11_isZone M1 a0 a1 → (wp_X11_compiles M1 a0 a1 (fun M7 =>
(pg_X11_in a2 0 ((M7 a0 18) - 1)) ∧
((pb_X11_in a2 0 ((M7 a0 18) - 1) → (rg a3 ∧
((a3 = 0 → ((0 ≤ a2 ∧ a2 < 261) ∧
Q (M7 (a0 + 10) a2) M7)) ∧
(a3 = 1 → ((0 ≤ a2 ∧ a2 < 261) ∧
Q (M7 (a0 + 11) a2) M7)) ∧
(a3 = 2 → ((0 ≤ a2 ∧ a2 < 261) ∧
Q (M7 (a0 + 12) a2) M7)) ∧
(a3 = 3 → ((0 ≤ a2 ∧ a2 < 261) ∧
Q (M7 (a0 + 13) a2) M7)) ∧
(a3 = 4 → ((0 ≤ a2 ∧ a2 < 261) ∧
Q (M7 (a0 + 14) a2) M7)) ∧
(a3 ≠ 0 ∧ a3 ≠ 1 ∧ a3 ≠ 2 ∧ a3 ≠ 3 ∧ a3 ≠ 4 → wp_X11_raises M7 a0 3 (fun z19 M20 =>
Q z19 M20))))) ∧
(¬ (pb_X11_in a2 0 ((M7 a0 18) - 1)) → wp_X11_raises M7 a0 2 (fun z21 M22 =>
Q z21 M22)))))) ∧
(¬ (pb_X11_isZone M1 a0 a1) → wp_X11_raises M1 a0 1 (fun z23 M24 =>
Q z23 M24)))
def wp_X11_voidEvent (M : jT) (a0 : Int) (a1 : Int) (a2 : Int) (a3 : Int) (Q : Int → jT → Prop) : Prop :=
∀ M1 : jT, M1 = up M a0 0 0 →
(pg_X11_isZone M1 a0 a1) ∧
((pb_X11_isZone M1 a0 a1 → (wp_X11_compiles M1 a0 a1 (fun M7 =>
(pg_X11_in a2 0 ((M7 a0 24) - 1)) ∧
((pb_X11_in a2 0 ((M7 a0 24) - 1) → (∃ K23 : Int → jT → Prop, (∀ (x21 : Int) (M22 : jT), K23 x21 M22 → Q x21 M22) ∧
rg a3 ∧
((a3 ≠ 0 → (((a3 ≠ 1 → (((a3 ≠ 2 → wp_X11_raises M7 a0 3 (fun z28 M29 =>
K23 z28 M29)) ∧
(a3 = 2 → ((0 ≤ a2 ∧ a2 < 261) ∧
K23 (M7 (a0 + 17) a2) M7))))) ∧
(a3 = 1 → ((0 ≤ a2 ∧ a2 < 261) ∧
K23 (M7 (a0 + 16) a2) M7))))) ∧
(a3 = 0 → ((0 ≤ a2 ∧ a2 < 261) ∧
K23 (M7 (a0 + 15) a2) M7))))) ∧
(¬ (pb_X11_in a2 0 ((M7 a0 24) - 1)) → wp_X11_raises M7 a0 2 (fun z33 M34 =>
Q z33 M34)))))) ∧
(¬ (pb_X11_isZone M1 a0 a1) → wp_X11_raises M1 a0 1 (fun z35 M36 =>
Q z35 M36)))
abbrev pb_X11_isInstant (a0 : Int) : Prop :=
pb_X11_in a0 ((-2000)) 16832719
def pg_X11_isInstant (a0 : Int) : Prop :=
(pg_X11_in a0 ((-2000)) 16832719) ∧
True
def wp_X11_offset (M : jT) (a0 : Int) (a1 : Int) (a2 : Int) (Q : Int → jT → Prop) : Prop :=
∀ M1 : jT, M1 = up M a0 0 0 →
(pg_X11_isZone M1 a0 a1) ∧
((pb_X11_isZone M1 a0 a1 → ((pg_X11_isInstant a2) ∧
∃ K16 : Int → jT → Prop, (∀ (x14 : Int) (M15 : jT), K16 x14 M15 → Q x14 M15) ∧
((¬ (pb_X11_isInstant a2) → wp_X11_raises M1 a0 2 (fun z18 M19 =>
K16 z18 M19)) ∧
(pb_X11_isInstant a2 → wp_X11_offsetAt M1 a0 a1 a2 (fun z20 M21 =>
K16 z20 M21))))) ∧
(¬ (pb_X11_isZone M1 a0 a1) → wp_X11_raises M1 a0 1 (fun z22 M23 =>
Q z22 M23)))
def wp_X11_offsetAgain (M : jT) (a0 : Int) (a1 : Int) (a2 : Int) (Q : Int → jT → Prop) : Prop :=
∀ M1 : jT, M1 = up M a0 0 0 →
(pg_X11_isZone M1 a0 a1) ∧
((pb_X11_isZone M1 a0 a1 → ((pg_X11_isInstant a2) ∧
∃ K16 : Int → jT → Prop, (∀ (x14 : Int) (M15 : jT), K16 x14 M15 → Q x14 M15) ∧
((¬ (pb_X11_isInstant a2) → wp_X11_raises M1 a0 2 (fun z18 M19 =>
K16 z18 M19)) ∧
(pb_X11_isInstant a2 → wp_X11_offsetAt M1 a0 a1 a2 (fun z20 M21 =>
K16 z20 M21))))) ∧
(¬ (pb_X11_isZone M1 a0 a1) → wp_X11_raises M1 a0 1 (fun z22 M23 =>
Q z22 M23)))
abbrev pb_X11_isLocal (a0 : Int) : Prop :=
pb_X11_in a0 0 16830719
def pg_X11_isLocal (a0 : Int) : Prop :=
(pg_X11_in a0 0 16830719) ∧
True
def wp_X11_finds (M : jT) (a0 : Int) (a1 : Int) (a2 : Int) (Q : jT → Prop) : Prop :=
wp_X11_compiles M a0 a1 (fun M2 =>
∀ M3 : jT, M3 = up M2 a0 30 0 →
∃ I6 : Nat → Int → jT → Prop, (∃ n7, I6 n7 0 M3) ∧
∀ (n7 : Nat) (x4 : Int) (M5 : jT), I6 n7 x4 M5 →
rg x4 ∧
rg (M5 a0 18) ∧
((M5 a0 18 < x4 → Q M5) ∧
(x4 ≤ M5 a0 18 → ((pg_X11_offsetIn M5 a0 a1 x4) ∧
∀ x14 : Int, x14 = a2 - (pf_X11_offsetIn M5 a0 a1 x4) →
∃ K48 : jT → Prop, (∀ (M47 : jT), K48 M47 → (∀ x49 : Int, x49 = x4 + 1 →
∃ n50, n50 < n7 ∧ I6 n50 x49 M47)) ∧
∃ K56 : Prop, (K56 → (∃ K62 : Prop, (K62 → (∃ K67 : jT → Prop, (∀ (M66 : jT), K67 M66 → (∀ M68 : jT, M68 = up M66 a0 29 x14 →
∀ M69 : jT, M69 = up M68 a0 30 ((M68 a0 30) + 1) →
K48 M69)) ∧
rg (M5 a0 30) ∧
((M5 a0 30 ≠ 0 → K67 M5) ∧
(M5 a0 30 = 0 → (∀ M72 : jT, M72 = up M5 a0 28 x14 →
K67 M72))))) ∧
((M5 a0 18 ≤ x4 → K62) ∧
(x4 < M5 a0 18 → ((0 ≤ x4 ∧ x4 < 261) ∧
rg x14 ∧
rg (M5 (a0 + 10) x4) ∧
((x14 < M5 (a0 + 10) x4 → K62) ∧
(M5 (a0 + 10) x4 ≤ x14 → K48 M5))))))) ∧
((x4 ≤ 0 → K56) ∧
(0 < x4 → ((0 ≤ x4 - 1 ∧ x4 - 1 < 261) ∧
rg x14 ∧
rg (M5 (a0 + 10) (x4 - 1)) ∧
((x14 < M5 (a0 + 10) (x4 - 1) → K48 M5) ∧
(M5 (a0 + 10) (x4 - 1) ≤ x14 → K56)))))))))
def wp_X11_causeOf (M : jT) (a0 : Int) (a1 : Int) (a2 : Int) (Q : Int → jT → Prop) : Prop :=
wp_X11_finds M a0 a1 a2 (fun M2 =>
rg (M2 a0 30) ∧
((M2 a0 30 ≠ 1 → (∃ I6 : Nat → Int → Prop, (∃ n7, I6 n7 0) ∧
∀ (n7 : Nat) (x5 : Int), I6 n7 x5 →
rg x5 ∧
rg (M2 a0 18) ∧
((M2 a0 18 ≤ x5 → Q ((-1)) M2) ∧
(x5 < M2 a0 18 → ((((M2 a0 30 ≠ 0 → ((0 ≤ x5 ∧ x5 < 261) ∧
rg (M2 (a0 + 10) x5) ∧
rg (M2 a0 28) ∧
((M2 (a0 + 10) x5 ≤ M2 a0 28 → True) ∧
(M2 a0 28 < M2 (a0 + 10) x5 → (rg (M2 a0 29) ∧
((M2 a0 29 < M2 (a0 + 10) x5 → True) ∧
(M2 (a0 + 10) x5 ≤ M2 a0 29 → True))))))) ∧
(M2 a0 30 = 0 → ((0 ≤ x5 ∧ x5 < 261) ∧
rg ((M2 (a0 + 10) x5) + (M2 (a0 + 11) x5)) ∧
rg a2 ∧
((a2 < (M2 (a0 + 10) x5) + (M2 (a0 + 11) x5) → True) ∧
((M2 (a0 + 10) x5) + (M2 (a0 + 11) x5) ≤ a2 → (rg ((M2 (a0 + 10) x5) + (M2 (a0 + 12) x5)) ∧
(((M2 (a0 + 10) x5) + (M2 (a0 + 12) x5) ≤ a2 → True) ∧
(a2 < (M2 (a0 + 10) x5) + (M2 (a0 + 12) x5) → True))))))))) ∧
((¬ ((M2 a0 30 ≠ 0 ∧ M2 a0 28 < M2 (a0 + 10) x5 ∧ M2 (a0 + 10) x5 ≤ M2 a0 29) ∨ (M2 a0 30 = 0 ∧ (M2 (a0 + 10) x5) + (M2 (a0 + 11) x5) ≤ a2 ∧ a2 < (M2 (a0 + 10) x5) + (M2 (a0 + 12) x5))) → (∀ x40 : Int, x40 = x5 + 1 →
∃ n41, n41 < n7 ∧ I6 n41 x40)) ∧
((M2 a0 30 ≠ 0 ∧ M2 a0 28 < M2 (a0 + 10) x5 ∧ M2 (a0 + 10) x5 ≤ M2 a0 29) ∨ (M2 a0 30 = 0 ∧ (M2 (a0 + 10) x5) + (M2 (a0 + 11) x5) ≤ a2 ∧ a2 < (M2 (a0 + 10) x5) + (M2 (a0 + 12) x5)) → Q x5 M2))))))) ∧
(M2 a0 30 = 1 → Q ((-1)) M2)))
def wp_X11_tells (M : jT) (a0 : Int) (a1 : Int) (a2 : Int) (a3 : Int) (Q : Int → jT → Prop) : Prop :=
wp_X11_causeOf M a0 a1 a2 (fun z1 M2 =>
∃ K7 : Prop, (K7 → (∃ K29 : jT → Prop, (∀ (M28 : jT), K29 M28 → Q 1 M28) ∧
rg (M2 a0 30) ∧
((M2 a0 30 ≠ 0 → (rg a3 ∧
((a3 ≠ 1 → K29 M2) ∧
(a3 = 1 → (∀ M34 : jT, M34 = up M2 a0 28 (M2 a0 29) →
K29 M34))))) ∧
(M2 a0 30 = 0 → ((rg a3 ∧
((a3 ≠ 0 → (((a3 ≠ 1 → ((0 ≤ z1 ∧ z1 < 261) ∧
True)) ∧
(a3 = 1 → ((0 ≤ z1 ∧ z1 < 261) ∧
True))))) ∧
(a3 = 0 → ((0 ≤ z1 ∧ z1 < 261) ∧
True)))) ∧
(∀ x41 : Int, (a3 ≠ 0 ∧ a3 ≠ 1 → x41 = M2 (a0 + 10) z1) → (a3 ≠ 0 ∧ a3 = 1 → x41 = a2 - (M2 (a0 + 12) z1)) → (a3 = 0 → x41 = a2 - (M2 (a0 + 11) z1)) → 
∀ M49 : jT, M49 = up M2 a0 28 x41 →
K29 M49)))))) ∧
rg a3 ∧
((a3 ≠ 3 → K7) ∧
(a3 = 3 → (rg (M2 a0 30) ∧
((M2 a0 30 = 1 → K7) ∧
(M2 a0 30 ≠ 1 → Q 0 M2))))))
def wp_X11_toLocal (M : jT) (a0 : Int) (a1 : Int) (a2 : Int) (Q : Int → jT → Prop) : Prop :=
∀ M1 : jT, M1 = up M a0 0 0 →
(pg_X11_isZone M1 a0 a1) ∧
((pb_X11_isZone M1 a0 a1 → ((pg_X11_isInstant a2) ∧
∃ K16 : Int → jT → Prop, (∀ (x14 : Int) (M15 : jT), K16 x14 M15 → Q x14 M15) ∧
((¬ (pb_X11_isInstant a2) → wp_X11_raises M1 a0 2 (fun z18 M19 =>
K16 z18 M19)) ∧
(pb_X11_isInstant a2 → wp_X11_offsetAt M1 a0 a1 a2 (fun z20 M21 =>
K16 (a2 + z20) M21))))) ∧
(¬ (pb_X11_isZone M1 a0 a1) → wp_X11_raises M1 a0 1 (fun z22 M23 =>
Q z22 M23)))
def wp_X11_instants (M : jT) (a0 : Int) (a1 : Int) (a2 : Int) (Q : Int → jT → Prop) : Prop :=
∀ M1 : jT, M1 = up M a0 0 0 →
(pg_X11_isZone M1 a0 a1) ∧
((pb_X11_isZone M1 a0 a1 → ((pg_X11_isLocal a2) ∧
((pb_X11_isLocal a2 → wp_X11_finds M1 a0 a1 a2 (fun M11 =>
Q (M11 a0 30) M11)) ∧
(¬ (pb_X11_isLocal a2) → wp_X11_raises M1 a0 2 (fun z12 M13 =>
Q z12 M13))))) ∧
(¬ (pb_X11_isZone M1 a0 a1) → wp_X11_raises M1 a0 1 (fun z14 M15 =>
Q z14 M15)))
def wp_X11_instantsAgain (M : jT) (a0 : Int) (a1 : Int) (a2 : Int) (Q : Int → jT → Prop) : Prop :=
∀ M1 : jT, M1 = up M a0 0 0 →
(pg_X11_isZone M1 a0 a1) ∧
((pb_X11_isZone M1 a0 a1 → ((pg_X11_isLocal a2) ∧
((pb_X11_isLocal a2 → wp_X11_finds M1 a0 a1 a2 (fun M11 =>
Q (M11 a0 30) M11)) ∧
(¬ (pb_X11_isLocal a2) → wp_X11_raises M1 a0 2 (fun z12 M13 =>
Q z12 M13))))) ∧
(¬ (pb_X11_isZone M1 a0 a1) → wp_X11_raises M1 a0 1 (fun z14 M15 =>
Q z14 M15)))
def wp_X11_cause (M : jT) (a0 : Int) (a1 : Int) (a2 : Int) (Q : Int → jT → Prop) : Prop :=
∀ M1 : jT, M1 = up M a0 0 0 →
(pg_X11_isZone M1 a0 a1) ∧
((pb_X11_isZone M1 a0 a1 → ((pg_X11_isLocal a2) ∧
∃ K16 : Int → jT → Prop, (∀ (x14 : Int) (M15 : jT), K16 x14 M15 → Q x14 M15) ∧
((¬ (pb_X11_isLocal a2) → wp_X11_raises M1 a0 2 (fun z18 M19 =>
K16 z18 M19)) ∧
(pb_X11_isLocal a2 → wp_X11_causeOf M1 a0 a1 a2 (fun z20 M21 =>
K16 z20 M21))))) ∧
(¬ (pb_X11_isZone M1 a0 a1) → wp_X11_raises M1 a0 1 (fun z22 M23 =>
Q z22 M23)))
def wp_X11_toInstant (M : jT) (a0 : Int) (a1 : Int) (a2 : Int) (a3 : Int) (Q : Int → jT → Prop) : Prop :=
∀ M1 : jT, M1 = up M a0 0 0 →
(pg_X11_isZone M1 a0 a1) ∧
((pb_X11_isZone M1 a0 a1 → ((pg_X11_isLocal a2) ∧
∃ K27 : Prop, (K27 → wp_X11_raises M1 a0 2 (fun z28 M29 =>
Q z28 M29)) ∧
((¬ (pb_X11_isLocal a2) → K27) ∧
(pb_X11_isLocal a2 → ((pg_X11_in a3 0 3) ∧
((pb_X11_in a3 0 3 → (wp_X11_tells M1 a0 a1 a2 a3 (fun z35 M36 =>
∃ K43 : Int → jT → Prop, (∀ (x41 : Int) (M42 : jT), K43 x41 M42 → Q x41 M42) ∧
rg z35 ∧
((z35 = 0 → wp_X11_raises M36 a0 3 (fun z46 M47 =>
K43 z46 M47)) ∧
(z35 ≠ 0 → K43 (M36 a0 28) M36))))) ∧
(¬ (pb_X11_in a3 0 3) → K27))))))) ∧
(¬ (pb_X11_isZone M1 a0 a1) → wp_X11_raises M1 a0 1 (fun z48 M49 =>
Q z48 M49)))
def wp_X11_convert (M : jT) (a0 : Int) (a1 : Int) (a2 : Int) (a3 : Int) (a4 : Int) (Q : Int → jT → Prop) : Prop :=
∀ M1 : jT, M1 = up M a0 0 0 →
(pg_X11_isZone M1 a0 a1) ∧
∃ K44 : Prop, (K44 → wp_X11_raises M1 a0 1 (fun z45 M46 =>
Q z45 M46)) ∧
((¬ (pb_X11_isZone M1 a0 a1) → K44) ∧
(pb_X11_isZone M1 a0 a1 → ((pg_X11_isZone M1 a0 a3) ∧
((pb_X11_isZone M1 a0 a3 → ((pg_X11_isLocal a2) ∧
∃ K69 : Prop, (K69 → wp_X11_raises M1 a0 2 (fun z70 M71 =>
Q z70 M71)) ∧
((¬ (pb_X11_isLocal a2) → K69) ∧
(pb_X11_isLocal a2 → ((pg_X11_in a4 0 3) ∧
((pb_X11_in a4 0 3 → (wp_X11_tells M1 a0 a1 a2 a4 (fun z77 M78 =>
rg z77 ∧
((z77 ≠ 0 → (∀ x81 : Int, x81 = M78 a0 28 →
wp_X11_offsetAt M78 a0 a3 x81 (fun z82 M83 =>
Q (x81 + z82) M83))) ∧
(z77 = 0 → wp_X11_raises M78 a0 3 (fun z84 M85 =>
Q z84 M85)))))) ∧
(¬ (pb_X11_in a4 0 3) → K69))))))) ∧
(¬ (pb_X11_isZone M1 a0 a3) → K44)))))
def wp_X11_begins (M : jT) (a0 : Int) (a1 : Int) (a2 : Int) (Q : Int → jT → Prop) : Prop :=
wp_X11_tells M a0 a1 (1440 * a2) 2 (fun z1 M2 =>
(rg z1 ∧
((z1 = 0 → True) ∧
(z1 ≠ 0 → True))) ∧
(∀ x5 : Int, (z1 = 0 → x5 = 0) → (z1 ≠ 0 → x5 = M2 a0 28) → 
Q x5 M2))
def wp_X11_dayLength (M : jT) (a0 : Int) (a1 : Int) (a2 : Int) (Q : Int → jT → Prop) : Prop :=
∀ M1 : jT, M1 = up M a0 0 0 →
(pg_X11_isZone M1 a0 a1) ∧
∃ K14 : Prop, (K14 → wp_X11_raises M1 a0 1 (fun z15 M16 =>
Q z15 M16)) ∧
((¬ (pb_X11_isZone M1 a0 a1) → K14) ∧
(pb_X11_isZone M1 a0 a1 → ((pg_X11_isDay a2) ∧
((pb_X11_isDay a2 → wp_X11_begins M1 a0 a1 (a2 + 1) (fun z22 M23 =>
wp_X11_begins M23 a0 a1 a2 (fun z24 M25 =>
Q (z22 - z24) M25))) ∧
(¬ (pb_X11_isDay a2) → K14)))))
def wp_X11_minutes (M : jT) (a0 : Int) (a1 : Int) (a2 : Int) (a3 : Int) (a4 : Int) (Q : Int → jT → Prop) : Prop :=
wp_X11_compiles M a0 a1 (fun M2 =>
∀ x3 : Int, x3 = 0 + 1 →
∀ M4 : jT, M4 = up M2 (a0 + 18) 0 a2 →
∀ x5 : Int, x5 = x3 + 1 →
(0 ≤ x3 ∧ x3 < 526) ∧
∀ M7 : jT, M7 = up M4 (a0 + 18) x3 a3 →
∃ I11 : Nat → Int → Int → jT → Prop, (∃ n12, I11 n12 x5 0 M7) ∧
∀ (n12 : Nat) (x8 : Int) (x9 : Int) (M10 : jT), I11 n12 x8 x9 M10 →
rg x9 ∧
rg (M10 a0 18) ∧
((M10 a0 18 ≤ x9 → (∃ I19 : Nat → Int → Int → jT → Prop, (∃ n20, I19 n20 0 0 M10) ∧
∀ (n20 : Nat) (x16 : Int) (x17 : Int) (M18 : jT), I19 n20 x16 x17 M18 →
rg (x17 + 1) ∧
rg x8 ∧
((x8 ≤ x17 + 1 → Q x16 M18) ∧
(x17 + 1 < x8 → ((0 ≤ x17 ∧ x17 < 526) ∧
(0 ≤ x17 + 1 ∧ x17 + 1 < 526) ∧
∃ K48 : Int → jT → Prop, (∀ (x46 : Int) (M47 : jT), K48 x46 M47 → (∀ x49 : Int, x49 = x17 + 1 →
∃ n50, n50 < n20 ∧ I19 n50 x46 x49 M47)) ∧
rg (M18 (a0 + 18) x17) ∧
rg (M18 (a0 + 18) (x17 + 1)) ∧
((M18 (a0 + 18) x17 ≠ M18 (a0 + 18) (x17 + 1) → (wp_X11_finds M18 a0 a1 (M18 (a0 + 18) x17) (fun M55 =>
(rg a4 ∧
((a4 = 0 → True) ∧
(a4 ≠ 0 → (rg (M55 a0 30) ∧
((M55 a0 30 ≠ 0 → True) ∧
(M55 a0 30 = 0 → True)))))) ∧
(∀ x60 : Int, (a4 = 0 → x60 = x16) → (a4 ≠ 0 ∧ M55 a0 30 ≠ 0 → x60 = x16) → (a4 ≠ 0 ∧ M55 a0 30 = 0 → x60 = x16 + ((M55 (a0 + 18) (x17 + 1)) - (M55 (a0 + 18) x17))) → 
rg a4 ∧
((a4 ≠ 0 → K48 x60 M55) ∧
(a4 = 0 → (rg (M55 a0 30) ∧
((M55 a0 30 ≤ 1 → K48 x60 M55) ∧
(1 < M55 a0 30 → (∀ x70 : Int, x70 = x60 + (((M55 a0 30) - 1) * ((M55 (a0 + 18) (x17 + 1)) - (M55 (a0 + 18) x17))) →
K48 x70 M55)))))))))) ∧
(M18 (a0 + 18) x17 = M18 (a0 + 18) (x17 + 1) → K48 x16 M18))))))) ∧
(x9 < M10 a0 18 → (∃ I74 : Nat → Int → Int → jT → Prop, (∃ n75, I74 n75 x8 0 M10) ∧
∀ (n75 : Nat) (x71 : Int) (x72 : Int) (M73 : jT), I74 n75 x71 x72 M73 →
rg x72 ∧
((2 ≤ x72 → (∀ x78 : Int, x78 = x9 + 1 →
∃ n79, n79 < n12 ∧ I11 n79 x71 x78 M73)) ∧
(x72 < 2 → ((0 ≤ x9 ∧ x9 < 261) ∧
∀ x82 : Int, (x72 ≠ 0 → x82 = M73 (a0 + 12) x9) → (x72 = 0 → x82 = M73 (a0 + 11) x9) → 
∀ x85 : Int, x85 = (M73 (a0 + 10) x9) + x82 →
(pg_X11_in x85 a2 a3) ∧
∃ K120 : Int → jT → Prop, (∀ (x118 : Int) (M119 : jT), K120 x118 M119 → (∀ x121 : Int, x121 = x72 + 1 →
∃ n122, n122 < n75 ∧ I74 n122 x118 x121 M119)) ∧
((pb_X11_in x85 a2 a3 → (∀ x124 : Int, x124 = x71 + 1 →
∃ I127 : Nat → Int → jT → Prop, (∃ n128, I127 n128 x71 M73) ∧
∀ (n128 : Nat) (x125 : Int) (M126 : jT), I127 n128 x125 M126 →
∃ K139 : Prop, (K139 → ((0 ≤ x125 ∧ x125 < 526) ∧
∀ M141 : jT, M141 = up M126 (a0 + 18) x125 x85 →
K120 x124 M141)) ∧
rg x125 ∧
((x125 ≤ 0 → K139) ∧
(0 < x125 → ((0 ≤ x125 - 1 ∧ x125 - 1 < 526) ∧
rg (M126 (a0 + 18) (x125 - 1)) ∧
rg x85 ∧
((M126 (a0 + 18) (x125 - 1) ≤ x85 → K139) ∧
(x85 < M126 (a0 + 18) (x125 - 1) → ((0 ≤ x125 ∧ x125 < 526) ∧
∀ M149 : jT, M149 = up M126 (a0 + 18) x125 (M126 (a0 + 18) (x125 - 1)) →
∀ x150 : Int, x150 = x125 + (-1) →
∃ n151, n151 < n128 ∧ I127 n151 x150 M149)))))))) ∧
(¬ (pb_X11_in x85 a2 a3) → K120 x71 M73)))))))))
def wp_X11_account (M : jT) (a0 : Int) (a1 : Int) (a2 : Int) (a3 : Int) (Q : Int → jT → Prop) : Prop :=
∀ M1 : jT, M1 = up M a0 0 0 →
(pg_X11_isZone M1 a0 a1) ∧
((pb_X11_isZone M1 a0 a1 → ((pg_X11_in a2 0 31) ∧
∃ K45 : Prop, (K45 → wp_X11_raises M1 a0 2 (fun z46 M47 =>
Q z46 M47)) ∧
((¬ (pb_X11_in a2 0 31) → K45) ∧
(pb_X11_in a2 0 31 → ((pg_X11_in a3 0 3) ∧
((pb_X11_in a3 0 3 → ((pg_X11_yearDay a2) ∧
∀ x56 : Int, x56 = pf_X11_yearDay a2 →
(pg_X11_yearDay (a2 + 1)) ∧
∀ x60 : Int, x60 = pf_X11_yearDay (a2 + 1) →
rg a3 ∧
((a3 ≠ 0 → (∃ K72 : Int → jT → Prop, (∀ (x70 : Int) (M71 : jT), K72 x70 M71 → Q x70 M71) ∧
((a3 ≠ 3 → wp_X11_minutes M1 a0 a1 (1440 * x56) (1440 * x60) (b2i (a3 = 1)) (fun z78 M79 =>
K72 z78 M79)) ∧
(a3 = 3 → K72 (1440 * (x60 - x56)) M1)))) ∧
(a3 = 0 → wp_X11_begins M1 a0 a1 x60 (fun z80 M81 =>
wp_X11_begins M81 a0 a1 x56 (fun z82 M83 =>
Q (z80 - z82) M83)))))) ∧
(¬ (pb_X11_in a3 0 3) → K45))))))) ∧
(¬ (pb_X11_isZone M1 a0 a1) → wp_X11_raises M1 a0 1 (fun z84 M85 =>
Q z84 M85)))
def pf_X11_localOf (M : jT) (a0 : Int) (a1 : Int) (a2 : Int) : Int :=
((1440 * (M (a0 + 19) a2)) + (M (a0 + 1) ((pf_X11_meetingAt a1) + 2))) + (M (a0 + 1) (((pf_X11_meetingAt a1) + 9) + a2))
def pg_X11_localOf (M : jT) (a0 : Int) (a1 : Int) (a2 : Int) : Prop :=
(0 ≤ a2 ∧ a2 < 40) ∧
(0 ≤ (pf_X11_meetingAt a1) + 2 ∧ (pf_X11_meetingAt a1) + 2 < 1294) ∧
(0 ≤ ((pf_X11_meetingAt a1) + 9) + a2 ∧ ((pf_X11_meetingAt a1) + 9) + a2 < 1294) ∧
True
def wp_X11_isVoid (M : jT) (a0 : Int) (a1 : Int) (a2 : Int) (Q : Int → jT → Prop) : Prop :=
∀ x3 : Int, x3 = pf_X11_meetingAt a1 →
(pg_X11_localOf M a0 a1 a2) ∧
(pg_X11_isLocal (pf_X11_localOf M a0 a1 a2)) ∧
∃ K32 : Int → jT → Prop, (∀ (x30 : Int) (M31 : jT), K32 x30 M31 → ((0 ≤ x30 ∧ x30 ≤ 1) ∧
Q x30 M31)) ∧
∃ K44 : jT → Prop, (∀ (M43 : jT), K44 M43 → K32 1 M43) ∧
((¬ (pb_X11_isLocal (pf_X11_localOf M a0 a1 a2)) → K44 M) ∧
(pb_X11_isLocal (pf_X11_localOf M a0 a1 a2) → ((0 ≤ x3 ∧ x3 < 1294) ∧
(0 ≤ x3 + 4 ∧ x3 + 4 < 1294) ∧
wp_X11_tells M a0 (M (a0 + 1) x3) (pf_X11_localOf M a0 a1 a2) (M (a0 + 1) (x3 + 4)) (fun z50 M51 =>
rg z50 ∧
((z50 ≠ 0 → K32 0 M51) ∧
(z50 = 0 → K44 M51))))))
def wp_X11_takesPlace (M : jT) (a0 : Int) (a1 : Int) (a2 : Int) (Q : Int → jT → Prop) : Prop :=
(0 ≤ ((pf_X11_meetingAt a1) + 49) + a2 ∧ ((pf_X11_meetingAt a1) + 49) + a2 < 1294) ∧
∃ K20 : Int → jT → Prop, (∀ (x18 : Int) (M19 : jT), K20 x18 M19 → ((0 ≤ x18 ∧ x18 ≤ 1) ∧
Q x18 M19)) ∧
∃ K29 : jT → Prop, (∀ (M28 : jT), K29 M28 → K20 0 M28) ∧
rg (M (a0 + 1) (((pf_X11_meetingAt a1) + 49) + a2)) ∧
((M (a0 + 1) (((pf_X11_meetingAt a1) + 49) + a2) ≠ 0 → K29 M) ∧
(M (a0 + 1) (((pf_X11_meetingAt a1) + 49) + a2) = 0 → (wp_X11_isVoid M a0 a1 a2 (fun z32 M33 =>
rg z32 ∧
((z32 ≠ 0 → K29 M33) ∧
(z32 = 0 → K20 1 M33))))))
def wp_X11_placed (M : jT) (a0 : Int) (a1 : Int) (Q : Int → jT → Prop) : Prop :=
wp_X11_lists M a0 a1 (fun M2 =>
∃ I6 : Nat → Int → Int → jT → Prop, (∃ n7, I6 n7 0 0 M2) ∧
∀ (n7 : Nat) (x3 : Int) (x4 : Int) (M5 : jT), I6 n7 x3 x4 M5 →
rg x4 ∧
rg (M5 a0 33) ∧
((M5 a0 33 ≤ x4 → Q x3 M5) ∧
(x4 < M5 a0 33 → (wp_X11_takesPlace M5 a0 a1 x4 (fun z11 M12 =>
(rg z11 ∧
((z11 = 0 → True) ∧
(z11 ≠ 0 → True))) ∧
(∀ x16 : Int, (z11 = 0 → x16 = x3) → (z11 ≠ 0 → x16 = x3 + 1) → 
∀ x21 : Int, x21 = x4 + 1 →
∃ n22, n22 < n7 ∧ I6 n22 x16 x21 M12))))))
def wp_X11_addMeeting (M : jT) (a0 : Int) (a1 : Int) (a2 : Int) (a3 : Int) (a4 : Int) (a5 : Int) (a6 : Int) (Q : Int → jT → Prop) : Prop :=
∀ M1 : jT, M1 = up M a0 0 0 →
(pg_X11_isZone M1 a0 a1) ∧
((pb_X11_isZone M1 a0 a1 → ((pg_X11_isDay a2) ∧
∃ K60 : Prop, (K60 → wp_X11_raises M1 a0 2 (fun z61 M62 =>
Q z61 M62)) ∧
((¬ (pb_X11_isDay a2) → K60) ∧
(pb_X11_isDay a2 → ((pg_X11_in a3 0 1439) ∧
((¬ (pb_X11_in a3 0 1439) → K60) ∧
(pb_X11_in a3 0 1439 → ((pg_X11_in a4 1 1440) ∧
((¬ (pb_X11_in a4 1 1440) → K60) ∧
(pb_X11_in a4 1 1440 → ((pg_X11_in a5 0 3) ∧
((¬ (pb_X11_in a5 0 3) → K60) ∧
(pb_X11_in a5 0 3 → ((pg_X11_in a6 1 40) ∧
((pb_X11_in a6 1 40 → (rg (M1 (a0 + 1) 1) ∧
((M1 (a0 + 1) 1 ≠ 10 → (wp_X11_changes M1 a0 (fun M83 =>
∀ x86 : Int, x86 = pf_X11_meetingAt (M83 (a0 + 1) 1) →
∃ I89 : Nat → Int → jT → Prop, (∃ n90, I89 n90 0 M83) ∧
∀ (n90 : Nat) (x87 : Int) (M88 : jT), I89 n90 x87 M88 →
rg x87 ∧
((89 ≤ x87 → ((0 ≤ x86 ∧ x86 < 1294) ∧
∀ M94 : jT, M94 = up M88 (a0 + 1) x86 a1 →
(0 ≤ x86 + 1 ∧ x86 + 1 < 1294) ∧
∀ M96 : jT, M96 = up M94 (a0 + 1) (x86 + 1) a2 →
(0 ≤ x86 + 2 ∧ x86 + 2 < 1294) ∧
∀ M98 : jT, M98 = up M96 (a0 + 1) (x86 + 2) a3 →
(0 ≤ x86 + 3 ∧ x86 + 3 < 1294) ∧
∀ M100 : jT, M100 = up M98 (a0 + 1) (x86 + 3) a4 →
(0 ≤ x86 + 4 ∧ x86 + 4 < 1294) ∧
∀ M102 : jT, M102 = up M100 (a0 + 1) (x86 + 4) a5 →
(0 ≤ x86 + 5 ∧ x86 + 5 < 1294) ∧
∀ M104 : jT, M104 = up M102 (a0 + 1) (x86 + 5) a6 →
(0 ≤ x86 + 7 ∧ x86 + 7 < 1294) ∧
∀ M106 : jT, M106 = up M104 (a0 + 1) (x86 + 7) 1 →
∀ M107 : jT, M107 = up M106 (a0 + 1) 1 ((M106 (a0 + 1) 1) + 1) →
Q (M106 (a0 + 1) 1) M107)) ∧
(x87 < 89 → ((0 ≤ x86 + x87 ∧ x86 + x87 < 1294) ∧
∀ M109 : jT, M109 = up M88 (a0 + 1) (x86 + x87) 0 →
∀ x110 : Int, x110 = x87 + 1 →
∃ n111, n111 < n90 ∧ I89 n111 x110 M109)))))) ∧
(M1 (a0 + 1) 1 = 10 → wp_X11_raises M1 a0 3 (fun z112 M113 =>
Q z112 M113))))) ∧
(¬ (pb_X11_in a6 1 40) → K60)))))))))))))))) ∧
(¬ (pb_X11_isZone M1 a0 a1) → wp_X11_raises M1 a0 1 (fun z114 M115 =>
Q z114 M115)))
def wp_X11_recur (M : jT) (a0 : Int) (a1 : Int) (a2 : Int) (a3 : Int) (a4 : Int) (Q : Int → jT → Prop) : Prop :=
∀ M1 : jT, M1 = up M a0 0 0 →
(pg_X11_isMeeting M1 a0 a1) ∧
((pb_X11_isMeeting M1 a0 a1 → ((pg_X11_in a2 0 3) ∧
∃ K84 : Prop, (K84 → wp_X11_raises M1 a0 2 (fun z85 M86 =>
Q z85 M86)) ∧
((¬ (pb_X11_in a2 0 3) → K84) ∧
(pb_X11_in a2 0 3 → ((rg a2 ∧
((a2 ≠ 0 → (((a2 ≠ 1 → True) ∧
(a2 = 1 → True)))) ∧
(a2 = 0 → True))) ∧
(∀ x91 : Int, (a2 ≠ 0 ∧ a2 ≠ 1 → x91 = 24) → (a2 ≠ 0 ∧ a2 = 1 → x91 = 8) → (a2 = 0 → x91 = 60) → 
(pg_X11_in a3 1 x91) ∧
((pb_X11_in a3 1 x91 → (∃ K119 : Prop, (K119 → (wp_X11_changes M1 a0 (fun M121 =>
∀ x124 : Int, x124 = pf_X11_meetingAt a1 →
(0 ≤ x124 + 6 ∧ x124 + 6 < 1294) ∧
∀ M126 : jT, M126 = up M121 (a0 + 1) (x124 + 6) a2 →
(0 ≤ x124 + 7 ∧ x124 + 7 < 1294) ∧
∀ M128 : jT, M128 = up M126 (a0 + 1) (x124 + 7) a3 →
(0 ≤ x124 + 8 ∧ x124 + 8 < 1294) ∧
∀ M130 : jT, M130 = up M128 (a0 + 1) (x124 + 8) a4 →
∃ I133 : Nat → Int → jT → Prop, (∃ n134, I133 n134 0 M130) ∧
∀ (n134 : Nat) (x131 : Int) (M132 : jT), I133 n134 x131 M132 →
rg x131 ∧
((80 ≤ x131 → wp_X11_lists M132 a0 a1 (fun M138 =>
Q (M138 a0 33) M138)) ∧
(x131 < 80 → ((0 ≤ (x124 + 9) + x131 ∧ (x124 + 9) + x131 < 1294) ∧
∀ M140 : jT, M140 = up M132 (a0 + 1) ((x124 + 9) + x131) 0 →
∀ x141 : Int, x141 = x131 + 1 →
∃ n142, n142 < n134 ∧ I133 n142 x141 M140)))))) ∧
∃ K151 : Prop, (K151 → wp_X11_raises M1 a0 2 (fun z152 M153 =>
Q z152 M153)) ∧
rg a2 ∧
((a2 ≠ 1 → (rg a4 ∧
((a4 = 0 → K119) ∧
(a4 ≠ 0 → K151)))) ∧
(a2 = 1 → ((pg_X11_in a4 1 127) ∧
((pb_X11_in a4 1 127 → K119) ∧
(¬ (pb_X11_in a4 1 127) → K151))))))) ∧
(¬ (pb_X11_in a3 1 x91) → K84)))))))) ∧
(¬ (pb_X11_isMeeting M1 a0 a1) → wp_X11_raises M1 a0 1 (fun z162 M163 =>
Q z162 M163)))
def wp_X11_cancel (M : jT) (a0 : Int) (a1 : Int) (a2 : Int) (Q : Int → jT → Prop) : Prop :=
wp_X11_tries M a0 (fun M2 =>
wp_X11_cancelBy M2 a0 a1 a2 (fun z3 M4 =>
wp_X11_ends M4 a0 z3 (fun z5 M6 =>
Q z5 M6)))
def wp_X11_shift (M : jT) (a0 : Int) (a1 : Int) (a2 : Int) (a3 : Int) (Q : Int → jT → Prop) : Prop :=
∀ M1 : jT, M1 = up M a0 0 0 →
wp_X11_isOccurrence M1 a0 a1 a2 (fun z2 M3 =>
rg z2 ∧
((z2 ≠ 0 → ((pg_X11_in a3 ((-1440)) 1440) ∧
((pb_X11_in a3 ((-1440)) 1440 → (wp_X11_changes M3 a0 (fun M11 =>
∀ x14 : Int, x14 = ((pf_X11_meetingAt a1) + 9) + a2 →
(0 ≤ x14 ∧ x14 < 1294) ∧
∀ x16 : Int, x16 = M11 (a0 + 1) x14 →
∀ M17 : jT, M17 = up M11 (a0 + 1) x14 a3 →
Q x16 M17))) ∧
(¬ (pb_X11_in a3 ((-1440)) 1440) → wp_X11_raises M3 a0 2 (fun z18 M19 =>
Q z18 M19))))) ∧
(z2 = 0 → wp_X11_raises M3 a0 1 (fun z20 M21 =>
Q z20 M21))))
def wp_X11_meeting (M : jT) (a0 : Int) (a1 : Int) (a2 : Int) (Q : Int → jT → Prop) : Prop :=
∀ M1 : jT, M1 = up M a0 0 0 →
(pg_X11_isMeeting M1 a0 a1) ∧
((pb_X11_isMeeting M1 a0 a1 → ((pg_X11_in a2 0 9) ∧
((pb_X11_in a2 0 9 → (rg a2 ∧
((5 ≤ a2 → (((8 ≤ a2 → (wp_X11_lists M1 a0 a1 (fun M14 =>
∃ K20 : Int → jT → Prop, (∀ (x18 : Int) (M19 : jT), K20 x18 M19 → Q x18 M19) ∧
((a2 ≠ 8 → wp_X11_placed M14 a0 a1 (fun z22 M23 =>
K20 z22 M23)) ∧
(a2 = 8 → K20 (M14 a0 33) M14))))) ∧
(a2 < 8 → ((0 ≤ ((pf_X11_meetingAt a1) + a2) + 1 ∧ ((pf_X11_meetingAt a1) + a2) + 1 < 1294) ∧
Q (M1 (a0 + 1) (((pf_X11_meetingAt a1) + a2) + 1)) M1))))) ∧
(a2 < 5 → ((0 ≤ (pf_X11_meetingAt a1) + a2 ∧ (pf_X11_meetingAt a1) + a2 < 1294) ∧
Q (M1 (a0 + 1) ((pf_X11_meetingAt a1) + a2)) M1))))) ∧
(¬ (pb_X11_in a2 0 9) → wp_X11_raises M1 a0 2 (fun z30 M31 =>
Q z30 M31))))) ∧
(¬ (pb_X11_isMeeting M1 a0 a1) → wp_X11_raises M1 a0 1 (fun z32 M33 =>
Q z32 M33)))
def wp_X11_occurrence (M : jT) (a0 : Int) (a1 : Int) (a2 : Int) (a3 : Int) (Q : Int → jT → Prop) : Prop :=
∀ M1 : jT, M1 = up M a0 0 0 →
wp_X11_isOccurrence M1 a0 a1 a2 (fun z2 M3 =>
rg z2 ∧
((z2 ≠ 0 → ((pg_X11_in a3 0 5) ∧
((pb_X11_in a3 0 5 → (∀ x12 : Int, x12 = pf_X11_meetingAt a1 →
(pg_X11_localOf M3 a0 a1 a2) ∧
∀ x16 : Int, x16 = pf_X11_localOf M3 a0 a1 a2 →
rg a3 ∧
((a3 ≠ 0 → (((a3 ≠ 1 → (((a3 ≠ 2 → (((a3 ≠ 3 → (((a3 ≠ 4 → (wp_X11_takesPlace M3 a0 a1 a2 (fun z23 M24 =>
∃ K31 : Int → jT → Prop, (∀ (x29 : Int) (M30 : jT), K31 x29 M30 → Q x29 M30) ∧
rg z23 ∧
((z23 = 0 → wp_X11_raises M24 a0 3 (fun z34 M35 =>
K31 z34 M35)) ∧
(z23 ≠ 0 → K31 (M24 a0 28) M24))))) ∧
(a3 = 4 → ((pg_X11_isLocal x16) ∧
((pb_X11_isLocal x16 → ((0 ≤ x12 ∧ x12 < 1294) ∧
wp_X11_finds M3 a0 (M3 (a0 + 1) x12) x16 (fun M42 =>
Q (M42 a0 30) M42))) ∧
(¬ (pb_X11_isLocal x16) → Q ((-1)) M3))))))) ∧
(a3 = 3 → ((0 ≤ (x12 + 49) + a2 ∧ (x12 + 49) + a2 < 1294) ∧
∃ K52 : Int → jT → Prop, (∀ (x50 : Int) (M51 : jT), K52 x50 M51 → Q x50 M51) ∧
rg (M3 (a0 + 1) ((x12 + 49) + a2)) ∧
((M3 (a0 + 1) ((x12 + 49) + a2) ≠ 1 → (wp_X11_isVoid M3 a0 a1 a2 (fun z55 M56 =>
rg z55 ∧
((z55 = 0 → K52 0 M56) ∧
(z55 ≠ 0 → K52 2 M56))))) ∧
(M3 (a0 + 1) ((x12 + 49) + a2) = 1 → K52 1 M3))))))) ∧
(a3 = 2 → ((0 ≤ (x12 + 9) + a2 ∧ (x12 + 9) + a2 < 1294) ∧
Q (M3 (a0 + 1) ((x12 + 9) + a2)) M3))))) ∧
(a3 = 1 → Q x16 M3)))) ∧
(a3 = 0 → ((0 ≤ a2 ∧ a2 < 40) ∧
Q (M3 (a0 + 19) a2) M3))))) ∧
(¬ (pb_X11_in a3 0 5) → wp_X11_raises M3 a0 2 (fun z61 M62 =>
Q z61 M62))))) ∧
(z2 = 0 → wp_X11_raises M3 a0 1 (fun z63 M64 =>
Q z63 M64))))
def wp_X11_enters (M : jT) (a0 : Int) (a1 : Int) (a2 : Int) (Q : jT → Prop) : Prop :=
wp_X11_lists M a0 a1 (fun M2 =>
∃ I5 : Nat → Int → jT → Prop, (∃ n6, I5 n6 0 M2) ∧
∀ (n6 : Nat) (x3 : Int) (M4 : jT), I5 n6 x3 M4 →
rg x3 ∧
rg (M4 a0 33) ∧
((M4 a0 33 ≤ x3 → Q M4) ∧
(x3 < M4 a0 33 → (wp_X11_takesPlace M4 a0 a1 x3 (fun z10 M11 =>
∃ K50 : jT → Prop, (∀ (M49 : jT), K50 M49 → (∀ x51 : Int, x51 = x3 + 1 →
∃ n52, n52 < n6 ∧ I5 n52 x51 M49)) ∧
rg z10 ∧
((z10 = 0 → K50 M11) ∧
(z10 ≠ 0 → (rg (M11 a0 28) ∧
rg a2 ∧
((a2 ≤ M11 a0 28 → (∀ M58 : jT, M58 = up M11 a0 36 ((M11 a0 36) + 1) →
∀ x59 : Int, x59 = M11 a0 36 →
∃ I62 : Nat → Int → jT → Prop, (∃ n63, I62 n63 x59 M58) ∧
∀ (n63 : Nat) (x60 : Int) (M61 : jT), I62 n63 x60 M61 →
∃ K75 : Prop, (K75 → ((0 ≤ x60 ∧ x60 < 400) ∧
∀ M77 : jT, M77 = up M61 (a0 + 20) x60 (M61 a0 28) →
∀ M78 : jT, M78 = up M77 (a0 + 21) x60 ((100 * a1) + x3) →
K50 M78)) ∧
rg x60 ∧
((x60 ≤ 0 → K75) ∧
(0 < x60 → ((0 ≤ x60 - 1 ∧ x60 - 1 < 400) ∧
rg (M61 (a0 + 20) (x60 - 1)) ∧
rg (M61 a0 28) ∧
((M61 (a0 + 20) (x60 - 1) ≤ M61 a0 28 → K75) ∧
(M61 a0 28 < M61 (a0 + 20) (x60 - 1) → ((0 ≤ x60 ∧ x60 < 400) ∧
∀ M86 : jT, M86 = up M61 (a0 + 20) x60 (M61 (a0 + 20) (x60 - 1)) →
∀ M87 : jT, M87 = up M86 (a0 + 21) x60 (M86 (a0 + 21) (x60 - 1)) →
∀ x88 : Int, x88 = x60 + (-1) →
∃ n89, n89 < n63 ∧ I62 n89 x88 M87)))))))) ∧
(M11 a0 28 < a2 → K50 M11))))))))))
def wp_X11_next (M : jT) (a0 : Int) (a1 : Int) (a2 : Int) (Q : Int → jT → Prop) : Prop :=
∀ M1 : jT, M1 = up M a0 0 0 →
(pg_X11_isMeeting M1 a0 a1) ∧
((pb_X11_isMeeting M1 a0 a1 → ((pg_X11_isInstant a2) ∧
((pb_X11_isInstant a2 → (∀ M10 : jT, M10 = up M1 a0 36 0 →
wp_X11_enters M10 a0 a1 a2 (fun M12 =>
∃ K20 : Int → jT → Prop, (∀ (x18 : Int) (M19 : jT), K20 x18 M19 → Q x18 M19) ∧
rg (M12 a0 36) ∧
((M12 a0 36 ≠ 0 → ((0 ≤ (M12 (a0 + 21) 0) ∧ (M12 (a0 + 21) 0) < 2147483648) ∧
K20 ((M12 (a0 + 21) 0) % 100) M12)) ∧
(M12 a0 36 = 0 → wp_X11_raises M12 a0 3 (fun z24 M25 =>
K20 z24 M25)))))) ∧
(¬ (pb_X11_isInstant a2) → wp_X11_raises M1 a0 2 (fun z26 M27 =>
Q z26 M27))))) ∧
(¬ (pb_X11_isMeeting M1 a0 a1) → wp_X11_raises M1 a0 1 (fun z28 M29 =>
Q z28 M29)))
def wp_X11_entersAll (M : jT) (a0 : Int) (a1 : Int) (Q : jT → Prop) : Prop :=
∀ M1 : jT, M1 = up M a0 36 0 →
∃ I4 : Nat → Int → jT → Prop, (∃ n5, I4 n5 0 M1) ∧
∀ (n5 : Nat) (x2 : Int) (M3 : jT), I4 n5 x2 M3 →
rg x2 ∧
rg (M3 (a0 + 1) 1) ∧
((M3 (a0 + 1) 1 ≤ x2 → Q M3) ∧
(x2 < M3 (a0 + 1) 1 → (wp_X11_enters M3 a0 x2 a1 (fun M10 =>
∀ x11 : Int, x11 = x2 + 1 →
∃ n12, n12 < n5 ∧ I4 n12 x11 M10))))
def pf_X11_durationOf (M : jT) (a0 : Int) (a1 : Int) : Int :=
M (a0 + 1) ((pf_X11_meetingAt (a1 / 100)) + 3)
def pg_X11_durationOf (M : jT) (a0 : Int) (a1 : Int) : Prop :=
(0 ≤ a1 ∧ a1 < 2147483648) ∧
(0 ≤ (pf_X11_meetingAt (a1 / 100)) + 3 ∧ (pf_X11_meetingAt (a1 / 100)) + 3 < 1294) ∧
True
def wp_X11_clash (M : jT) (a0 : Int) (a1 : Int) (a2 : Int) (Q : Int → jT → Prop) : Prop :=
∀ M1 : jT, M1 = up M a0 0 0 →
(pg_X11_isMeeting M1 a0 a1) ∧
∃ K134 : Prop, (K134 → wp_X11_raises M1 a0 1 (fun z135 M136 =>
Q z135 M136)) ∧
((¬ (pb_X11_isMeeting M1 a0 a1) → K134) ∧
(pb_X11_isMeeting M1 a0 a1 → ((pg_X11_isMeeting M1 a0 a2) ∧
((pb_X11_isMeeting M1 a0 a2 → (∀ M142 : jT, M142 = up M1 a0 36 0 →
wp_X11_enters M142 a0 a1 ((-2000)) (fun M144 =>
∃ K151 : jT → Prop, (∀ (M150 : jT), K151 M150 → (∃ I154 : Nat → Int → Int → Prop, (∃ n155, I154 n155 ((-1)) 0) ∧
∀ (n155 : Nat) (x152 : Int) (x153 : Int), I154 n155 x152 x153 →
rg x153 ∧
rg (M150 a0 36) ∧
((M150 a0 36 ≤ x153 → Q x152 M150) ∧
(x153 < M150 a0 36 → (∃ I161 : Nat → Int → Int → Prop, (∃ n162, I161 n162 x152 0) ∧
∀ (n162 : Nat) (x159 : Int) (x160 : Int), I161 n162 x159 x160 →
rg x160 ∧
((M150 a0 36 ≤ x160 → (∀ x165 : Int, x165 = x153 + 1 →
∃ n166, n166 < n155 ∧ I154 n166 x159 x165)) ∧
(x160 < M150 a0 36 → ((0 ≤ x153 ∧ x153 < 400) ∧
(0 ≤ (M150 (a0 + 21) x153) ∧ (M150 (a0 + 21) x153) < 2147483648) ∧
(rg ((M150 (a0 + 21) x153) / 100) ∧
rg a1 ∧
(((M150 (a0 + 21) x153) / 100 ≠ a1 → True) ∧
((M150 (a0 + 21) x153) / 100 = a1 → ((0 ≤ x160 ∧ x160 < 400) ∧
(0 ≤ (M150 (a0 + 21) x160) ∧ (M150 (a0 + 21) x160) < 2147483648) ∧
rg ((M150 (a0 + 21) x160) / 100) ∧
rg a2 ∧
(((M150 (a0 + 21) x160) / 100 ≠ a2 → True) ∧
((M150 (a0 + 21) x160) / 100 = a2 → (((a1 ≠ a2 → ((pg_X11_durationOf M150 a0 (M150 (a0 + 21) x160)) ∧
rg (M150 (a0 + 20) x153) ∧
rg ((M150 (a0 + 20) x160) + (pf_X11_durationOf M150 a0 (M150 (a0 + 21) x160))) ∧
(((M150 (a0 + 20) x160) + (pf_X11_durationOf M150 a0 (M150 (a0 + 21) x160)) ≤ M150 (a0 + 20) x153 → True) ∧
(M150 (a0 + 20) x153 < (M150 (a0 + 20) x160) + (pf_X11_durationOf M150 a0 (M150 (a0 + 21) x160)) → ((pg_X11_durationOf M150 a0 (M150 (a0 + 21) x153)) ∧
rg (M150 (a0 + 20) x160) ∧
rg ((M150 (a0 + 20) x153) + (pf_X11_durationOf M150 a0 (M150 (a0 + 21) x153))) ∧
((M150 (a0 + 20) x160 < (M150 (a0 + 20) x153) + (pf_X11_durationOf M150 a0 (M150 (a0 + 21) x153)) → (rg x159 ∧
((x159 < 0 → True) ∧
(0 ≤ x159 → (rg ((100 * ((M150 (a0 + 21) x153) % 100)) + ((M150 (a0 + 21) x160) % 100)) ∧
((x159 ≤ (100 * ((M150 (a0 + 21) x153) % 100)) + ((M150 (a0 + 21) x160) % 100) → True) ∧
((100 * ((M150 (a0 + 21) x153) % 100)) + ((M150 (a0 + 21) x160) % 100) < x159 → True))))))) ∧
((M150 (a0 + 20) x153) + (pf_X11_durationOf M150 a0 (M150 (a0 + 21) x153)) ≤ M150 (a0 + 20) x160 → True))))))) ∧
(a1 = a2 → (rg (M150 (a0 + 21) x153) ∧
rg (M150 (a0 + 21) x160) ∧
((M150 (a0 + 21) x153 < M150 (a0 + 21) x160 → ((pg_X11_durationOf M150 a0 (M150 (a0 + 21) x160)) ∧
rg (M150 (a0 + 20) x153) ∧
rg ((M150 (a0 + 20) x160) + (pf_X11_durationOf M150 a0 (M150 (a0 + 21) x160))) ∧
(((M150 (a0 + 20) x160) + (pf_X11_durationOf M150 a0 (M150 (a0 + 21) x160)) ≤ M150 (a0 + 20) x153 → True) ∧
(M150 (a0 + 20) x153 < (M150 (a0 + 20) x160) + (pf_X11_durationOf M150 a0 (M150 (a0 + 21) x160)) → ((pg_X11_durationOf M150 a0 (M150 (a0 + 21) x153)) ∧
rg (M150 (a0 + 20) x160) ∧
rg ((M150 (a0 + 20) x153) + (pf_X11_durationOf M150 a0 (M150 (a0 + 21) x153))) ∧
((M150 (a0 + 20) x160 < (M150 (a0 + 20) x153) + (pf_X11_durationOf M150 a0 (M150 (a0 + 21) x153)) → (rg x159 ∧
((x159 < 0 → True) ∧
(0 ≤ x159 → (rg ((100 * ((M150 (a0 + 21) x153) % 100)) + ((M150 (a0 + 21) x160) % 100)) ∧
((x159 ≤ (100 * ((M150 (a0 + 21) x153) % 100)) + ((M150 (a0 + 21) x160) % 100) → True) ∧
((100 * ((M150 (a0 + 21) x153) % 100)) + ((M150 (a0 + 21) x160) % 100) < x159 → True))))))) ∧
((M150 (a0 + 20) x153) + (pf_X11_durationOf M150 a0 (M150 (a0 + 21) x153)) ≤ M150 (a0 + 20) x160 → True))))))) ∧
(M150 (a0 + 21) x160 ≤ M150 (a0 + 21) x153 → True)))))))))))) ∧
(∀ x213 : Int, ((M150 (a0 + 21) x153) / 100 ≠ a1 → x213 = x159) → ((M150 (a0 + 21) x153) / 100 = a1 ∧ (M150 (a0 + 21) x160) / 100 ≠ a2 → x213 = x159) → ((M150 (a0 + 21) x153) / 100 = a1 ∧ (M150 (a0 + 21) x160) / 100 = a2 ∧ a1 ≠ a2 ∧ (M150 (a0 + 20) x160) + (pf_X11_durationOf M150 a0 (M150 (a0 + 21) x160)) ≤ M150 (a0 + 20) x153 → x213 = x159) → ((M150 (a0 + 21) x153) / 100 = a1 ∧ (M150 (a0 + 21) x160) / 100 = a2 ∧ a1 ≠ a2 ∧ M150 (a0 + 20) x153 < (M150 (a0 + 20) x160) + (pf_X11_durationOf M150 a0 (M150 (a0 + 21) x160)) ∧ M150 (a0 + 20) x160 < (M150 (a0 + 20) x153) + (pf_X11_durationOf M150 a0 (M150 (a0 + 21) x153)) ∧ x159 < 0 → x213 = (100 * ((M150 (a0 + 21) x153) % 100)) + ((M150 (a0 + 21) x160) % 100)) → ((M150 (a0 + 21) x153) / 100 = a1 ∧ (M150 (a0 + 21) x160) / 100 = a2 ∧ a1 ≠ a2 ∧ M150 (a0 + 20) x153 < (M150 (a0 + 20) x160) + (pf_X11_durationOf M150 a0 (M150 (a0 + 21) x160)) ∧ M150 (a0 + 20) x160 < (M150 (a0 + 20) x153) + (pf_X11_durationOf M150 a0 (M150 (a0 + 21) x153)) ∧ 0 ≤ x159 ∧ x159 ≤ (100 * ((M150 (a0 + 21) x153) % 100)) + ((M150 (a0 + 21) x160) % 100) → x213 = x159) → ((M150 (a0 + 21) x153) / 100 = a1 ∧ (M150 (a0 + 21) x160) / 100 = a2 ∧ a1 ≠ a2 ∧ M150 (a0 + 20) x153 < (M150 (a0 + 20) x160) + (pf_X11_durationOf M150 a0 (M150 (a0 + 21) x160)) ∧ M150 (a0 + 20) x160 < (M150 (a0 + 20) x153) + (pf_X11_durationOf M150 a0 (M150 (a0 + 21) x153)) ∧ 0 ≤ x159 ∧ (100 * ((M150 (a0 + 21) x153) % 100)) + ((M150 (a0 + 21) x160) % 100) < x159 → x213 = (100 * ((M150 (a0 + 21) x153) % 100)) + ((M150 (a0 + 21) x160) % 100)) → ((M150 (a0 + 21) x153) / 100 = a1 ∧ (M150 (a0 + 21) x160) / 100 = a2 ∧ a1 ≠ a2 ∧ M150 (a0 + 20) x153 < (M150 (a0 + 20) x160) + (pf_X11_durationOf M150 a0 (M150 (a0 + 21) x160)) ∧ (M150 (a0 + 20) x153) + (pf_X11_durationOf M150 a0 (M150 (a0 + 21) x153)) ≤ M150 (a0 + 20) x160 → x213 = x159) → ((M150 (a0 + 21) x153) / 100 = a1 ∧ (M150 (a0 + 21) x160) / 100 = a2 ∧ a1 = a2 ∧ M150 (a0 + 21) x153 < M150 (a0 + 21) x160 ∧ (M150 (a0 + 20) x160) + (pf_X11_durationOf M150 a0 (M150 (a0 + 21) x160)) ≤ M150 (a0 + 20) x153 → x213 = x159) → ((M150 (a0 + 21) x153) / 100 = a1 ∧ (M150 (a0 + 21) x160) / 100 = a2 ∧ a1 = a2 ∧ M150 (a0 + 21) x153 < M150 (a0 + 21) x160 ∧ M150 (a0 + 20) x153 < (M150 (a0 + 20) x160) + (pf_X11_durationOf M150 a0 (M150 (a0 + 21) x160)) ∧ M150 (a0 + 20) x160 < (M150 (a0 + 20) x153) + (pf_X11_durationOf M150 a0 (M150 (a0 + 21) x153)) ∧ x159 < 0 → x213 = (100 * ((M150 (a0 + 21) x153) % 100)) + ((M150 (a0 + 21) x160) % 100)) → ((M150 (a0 + 21) x153) / 100 = a1 ∧ (M150 (a0 + 21) x160) / 100 = a2 ∧ a1 = a2 ∧ M150 (a0 + 21) x153 < M150 (a0 + 21) x160 ∧ M150 (a0 + 20) x153 < (M150 (a0 + 20) x160) + (pf_X11_durationOf M150 a0 (M150 (a0 + 21) x160)) ∧ M150 (a0 + 20) x160 < (M150 (a0 + 20) x153) + (pf_X11_durationOf M150 a0 (M150 (a0 + 21) x153)) ∧ 0 ≤ x159 ∧ x159 ≤ (100 * ((M150 (a0 + 21) x153) % 100)) + ((M150 (a0 + 21) x160) % 100) → x213 = x159) → ((M150 (a0 + 21) x153) / 100 = a1 ∧ (M150 (a0 + 21) x160) / 100 = a2 ∧ a1 = a2 ∧ M150 (a0 + 21) x153 < M150 (a0 + 21) x160 ∧ M150 (a0 + 20) x153 < (M150 (a0 + 20) x160) + (pf_X11_durationOf M150 a0 (M150 (a0 + 21) x160)) ∧ M150 (a0 + 20) x160 < (M150 (a0 + 20) x153) + (pf_X11_durationOf M150 a0 (M150 (a0 + 21) x153)) ∧ 0 ≤ x159 ∧ (100 * ((M150 (a0 + 21) x153) % 100)) + ((M150 (a0 + 21) x160) % 100) < x159 → x213 = (100 * ((M150 (a0 + 21) x153) % 100)) + ((M150 (a0 + 21) x160) % 100)) → ((M150 (a0 + 21) x153) / 100 = a1 ∧ (M150 (a0 + 21) x160) / 100 = a2 ∧ a1 = a2 ∧ M150 (a0 + 21) x153 < M150 (a0 + 21) x160 ∧ M150 (a0 + 20) x153 < (M150 (a0 + 20) x160) + (pf_X11_durationOf M150 a0 (M150 (a0 + 21) x160)) ∧ (M150 (a0 + 20) x153) + (pf_X11_durationOf M150 a0 (M150 (a0 + 21) x153)) ≤ M150 (a0 + 20) x160 → x213 = x159) → ((M150 (a0 + 21) x153) / 100 = a1 ∧ (M150 (a0 + 21) x160) / 100 = a2 ∧ a1 = a2 ∧ M150 (a0 + 21) x160 ≤ M150 (a0 + 21) x153 → x213 = x159) → 
∀ x259 : Int, x259 = x160 + 1 →
∃ n260, n260 < n162 ∧ I161 n260 x213 x259))))))))) ∧
rg a1 ∧
rg a2 ∧
((a1 = a2 → K151 M144) ∧
(a1 ≠ a2 → wp_X11_enters M144 a0 a2 ((-2000)) (fun M265 =>
K151 M265)))))) ∧
(¬ (pb_X11_isMeeting M1 a0 a2) → K134)))))
def wp_X11_agenda (M : jT) (a0 : Int) (a1 : Int) (a2 : Int) (Q : Int → jT → Prop) : Prop :=
∀ M1 : jT, M1 = up M a0 0 0 →
(pg_X11_isInstant a1) ∧
((pb_X11_isInstant a1 → (wp_X11_entersAll M1 a0 a1 (fun M7 =>
(pg_X11_in a2 0 ((M7 a0 36) - 1)) ∧
∃ K17 : Int → jT → Prop, (∀ (x15 : Int) (M16 : jT), K17 x15 M16 → Q x15 M16) ∧
((¬ (pb_X11_in a2 0 ((M7 a0 36) - 1)) → wp_X11_raises M7 a0 2 (fun z19 M20 =>
K17 z19 M20)) ∧
(pb_X11_in a2 0 ((M7 a0 36) - 1) → ((0 ≤ a2 ∧ a2 < 400) ∧
K17 (M7 (a0 + 21) a2) M7)))))) ∧
(¬ (pb_X11_isInstant a1) → wp_X11_raises M1 a0 1 (fun z22 M23 =>
Q z22 M23)))
def wp_X11_free (M : jT) (a0 : Int) (a1 : Int) (a2 : Int) (a3 : Int) (Q : Int → jT → Prop) : Prop :=
∀ M1 : jT, M1 = up M a0 0 0 →
(pg_X11_isInstant a1) ∧
∃ K66 : Prop, (K66 → wp_X11_raises M1 a0 1 (fun z67 M68 =>
Q z67 M68)) ∧
((¬ (pb_X11_isInstant a1) → K66) ∧
(pb_X11_isInstant a1 → ((pg_X11_isInstant a2) ∧
((¬ (pb_X11_isInstant a2) → K66) ∧
(pb_X11_isInstant a2 → ((pg_X11_in a3 1 1440) ∧
((pb_X11_in a3 1 1440 → (wp_X11_entersAll M1 a0 ((-2000)) (fun M79 =>
∃ I82 : Nat → Int → Int → Prop, (∃ n83, I82 n83 a1 1) ∧
∀ (n83 : Nat) (x80 : Int) (x81 : Int), I82 n83 x80 x81 →
rg x81 ∧
((x81 = 0 → (∃ K93 : Int → jT → Prop, (∀ (x91 : Int) (M92 : jT), K93 x91 M92 → Q x91 M92) ∧
rg (x80 + a3) ∧
rg a2 ∧
((a2 < x80 + a3 → wp_X11_raises M79 a0 2 (fun z97 M98 =>
K93 z97 M98)) ∧
(x80 + a3 ≤ a2 → K93 x80 M79)))) ∧
(x81 ≠ 0 → (∃ I102 : Nat → Int → Int → Int → Prop, (∃ n103, I102 n103 x80 0 0) ∧
∀ (n103 : Nat) (x99 : Int) (x100 : Int) (x101 : Int), I102 n103 x99 x100 x101 →
rg x101 ∧
rg (M79 a0 36) ∧
((M79 a0 36 ≤ x101 → (∃ n107, n107 < n83 ∧ I82 n107 x99 x100)) ∧
(x101 < M79 a0 36 → ((0 ≤ x101 ∧ x101 < 400) ∧
(pg_X11_durationOf M79 a0 (M79 (a0 + 21) x101)) ∧
∀ x112 : Int, x112 = (M79 (a0 + 20) x101) + (pf_X11_durationOf M79 a0 (M79 (a0 + 21) x101)) →
(rg (M79 (a0 + 20) x101) ∧
rg (x99 + a3) ∧
((x99 + a3 ≤ M79 (a0 + 20) x101 → True) ∧
(M79 (a0 + 20) x101 < x99 + a3 → (rg x112 ∧
rg x99 ∧
((x99 < x112 → True) ∧
(x112 ≤ x99 → True)))))) ∧
(∀ x119 : Int, (x99 + a3 ≤ M79 (a0 + 20) x101 → x119 = x99) → (M79 (a0 + 20) x101 < x99 + a3 ∧ x99 < x112 → x119 = x112) → (M79 (a0 + 20) x101 < x99 + a3 ∧ x112 ≤ x99 → x119 = x99) → ∀ x120 : Int, (x99 + a3 ≤ M79 (a0 + 20) x101 → x120 = x100) → (M79 (a0 + 20) x101 < x99 + a3 ∧ x99 < x112 → x120 = 1) → (M79 (a0 + 20) x101 < x99 + a3 ∧ x112 ≤ x99 → x120 = x100) → 
∀ x128 : Int, x128 = x101 + 1 →
∃ n129, n129 < n103 ∧ I102 n129 x119 x120 x128)))))))))) ∧
(¬ (pb_X11_in a3 1 1440) → K66))))))))
def wp_X11_append (M : jT) (a0 : Int) (a1 : Int) (Q : Int → jT → Prop) : Prop :=
∀ M1 : jT, M1 = up M a0 0 0 →
∃ I4 : Nat → Int → Int → Prop, (∃ n5, I4 n5 0 24) ∧
∀ (n5 : Nat) (x2 : Int) (x3 : Int), I4 n5 x2 x3 →
rg x3 ∧
((x3 < 0 → (rg ((M1 a0 8) + x2) ∧
(((M1 a0 8) + x2 ≤ 60 → (∃ I12 : Nat → Int → jT → Prop, (∃ n13, I12 n13 24 M1) ∧
∀ (n13 : Nat) (x10 : Int) (M11 : jT), I12 n13 x10 M11 →
rg x10 ∧
((x10 < 0 → Q (M11 a0 8) M11) ∧
(0 ≤ x10 → ((0 ≤ x10 ∧ x10 < 32) ∧
∀ x17 : Int, x17 = ((a1 % 4294967296) / 2 ^ x10.toNat) % 256 →
∃ K24 : jT → Prop, (∀ (M23 : jT), K24 M23 → (∀ x25 : Int, x25 = x10 + (-8) →
∃ n26, n26 < n13 ∧ I12 n26 x25 M23)) ∧
rg x17 ∧
((x17 ≤ 0 → K24 M11) ∧
(0 < x17 → (∀ M29 : jT, M29 = up M11 a0 8 ((M11 a0 8) + 1) →
(0 ≤ M11 a0 8 ∧ M11 a0 8 < 60) ∧
∀ M31 : jT, M31 = up M29 (a0 + 5) (M11 a0 8) x17 →
K24 M31)))))))) ∧
(60 < (M1 a0 8) + x2 → wp_X11_raises M1 a0 2 (fun z32 M33 =>
Q z32 M33))))) ∧
(0 ≤ x3 → ((0 ≤ x3 ∧ x3 < 32) ∧
∀ x35 : Int, x35 = ((a1 % 4294967296) / 2 ^ x3.toNat) % 256 →
∃ K46 : Int → Prop, (∀ (x45 : Int), K46 x45 → (∀ x47 : Int, x47 = x3 + (-8) →
∃ n48, n48 < n5 ∧ I4 n48 x45 x47)) ∧
rg x35 ∧
((x35 ≠ 0 → ((pg_X11_in x35 33 126) ∧
((pb_X11_in x35 33 126 → (∀ x55 : Int, x55 = x2 + 1 →
K46 x55)) ∧
(¬ (pb_X11_in x35 33 126) → wp_X11_raises M1 a0 1 (fun z56 M57 =>
Q z56 M57))))) ∧
(x35 = 0 → K46 x2)))))
def pf_X11_here (M : jT) (a0 : Int) : Int :=
if M a0 8 ≤ M a0 9 then 0 else M (a0 + 5) (M a0 9)
def pg_X11_here (M : jT) (a0 : Int) : Prop :=
rg (M a0 9) ∧
rg (M a0 8) ∧
((M a0 8 ≤ M a0 9 → True) ∧
(M a0 9 < M a0 8 → ((0 ≤ M a0 9 ∧ M a0 9 < 60) ∧
True)))
def wp_X11_takes (M : jT) (a0 : Int) (a1 : Int) (Q : Int → jT → Prop) : Prop :=
(pg_X11_here M a0) ∧
rg (pf_X11_here M a0) ∧
rg a1 ∧
((pf_X11_here M a0 = a1 → (∀ M7 : jT, M7 = up M a0 9 ((M a0 9) + 1) →
Q 1 M7)) ∧
(pf_X11_here M a0 ≠ a1 → Q 0 M))
abbrev pb_X11_isDigit (M : jT) (a0 : Int) (a1 : Int) (a2 : Int) : Prop :=
pb_X11_in (pf_X11_here M a0) (48 + a1) (48 + a2)
def pg_X11_isDigit (M : jT) (a0 : Int) (a1 : Int) (a2 : Int) : Prop :=
(pg_X11_here M a0) ∧
(pg_X11_in (pf_X11_here M a0) (48 + a1) (48 + a2)) ∧
True
def wp_X11_number (M : jT) (a0 : Int) (a1 : Int) (Q : Int → jT → Prop) : Prop :=
(pg_X11_isDigit M a0 0 9) ∧
((pb_X11_isDigit M a0 0 9 → (∀ M5 : jT, M5 = up M a0 9 ((M a0 9) + 1) →
(0 ≤ M a0 9 ∧ M a0 9 < 60) ∧
∀ x7 : Int, x7 = (M5 (a0 + 5) (M a0 9)) - 48 →
∃ I11 : Nat → Int → Int → jT → Prop, (∃ n12, I11 n12 x7 1 M5) ∧
∀ (n12 : Nat) (x8 : Int) (x9 : Int) (M10 : jT), I11 n12 x8 x9 M10 →
∃ K27 : Prop, (K27 → Q x8 M10) ∧
rg x9 ∧
rg a1 ∧
((a1 ≤ x9 → K27) ∧
(x9 < a1 → (rg x8 ∧
((x8 ≤ 0 → K27) ∧
(0 < x8 → ((pg_X11_isDigit M10 a0 0 9) ∧
((¬ (pb_X11_isDigit M10 a0 0 9) → K27) ∧
(pb_X11_isDigit M10 a0 0 9 → (∀ M37 : jT, M37 = up M10 a0 9 ((M10 a0 9) + 1) →
(0 ≤ M10 a0 9 ∧ M10 a0 9 < 60) ∧
∀ x39 : Int, x39 = ((10 * x8) + (M37 (a0 + 5) (M10 a0 9))) - 48 →
∀ x40 : Int, x40 = x9 + 1 →
∃ n41, n41 < n12 ∧ I11 n41 x39 x40 M37))))))))))) ∧
(¬ (pb_X11_isDigit M a0 0 9) → Q ((-1)) M))
def wp_X11_date_ (M : jT) (a0 : Int) (a1 : Int) (Q : Int → jT → Prop) : Prop :=
wp_X11_takes M a0 108 (fun z1 M2 =>
rg z1 ∧
((z1 = 0 → ((pg_X11_isDigit M2 a0 0 9) ∧
((pb_X11_isDigit M2 a0 0 9 → ((pg_X11_here M2 a0) ∧
∀ x12 : Int, x12 = (pf_X11_here M2 a0) - 48 →
(rg ((M2 a0 9) + 1) ∧
rg (M2 a0 8) ∧
((M2 a0 8 ≤ (M2 a0 9) + 1 → True) ∧
((M2 a0 9) + 1 < M2 a0 8 → ((0 ≤ (M2 a0 9) + 1 ∧ (M2 a0 9) + 1 < 60) ∧
True)))) ∧
(∀ x17 : Int, (M2 a0 8 ≤ (M2 a0 9) + 1 → x17 = 0) → ((M2 a0 9) + 1 < M2 a0 8 → x17 = M2 (a0 + 5) ((M2 a0 9) + 1)) → 
∃ K38 : Prop, (K38 → (∃ K62 : Prop, (K62 → (wp_X11_number M2 a0 5 (fun z63 M64 =>
(rg z63 ∧
((z63 ≤ 31 → True) ∧
(31 < z63 → True))) ∧
(∀ x67 : Int, (z63 ≤ 31 → x67 = z63) → (31 < z63 → x67 = 0) → 
(0 ≤ a1 ∧ a1 < 8) ∧
∀ M72 : jT, M72 = up M64 (a0 + 7) a1 x67 →
Q 1 M72)))) ∧
rg x17 ∧
((x17 ≠ 62 → K62) ∧
(x17 = 62 → (rg x12 ∧
((6 < x12 → K62) ∧
(x12 ≤ 6 → (∀ M77 : jT, M77 = up M2 a0 9 ((M2 a0 9) + 2) →
wp_X11_number M77 a0 2 (fun z78 M79 =>
rg z78 ∧
((0 ≤ z78 → (∃ K88 : Int → Prop, (∀ (x87 : Int), K88 x87 → ((0 ≤ a1 ∧ a1 < 8) ∧
∀ M90 : jT, M90 = up M79 (a0 + 7) a1 x87 →
Q 1 M90)) ∧
∃ K93 : Prop, (K93 → K88 0) ∧
((z78 = 0 → K93) ∧
(z78 ≠ 0 → (((z78 ≤ 31 → K88 ((1000 + (10 * z78)) + x12)) ∧
(31 < z78 → K93))))))) ∧
(z78 < 0 → Q 0 M79))))))))))) ∧
rg x17 ∧
((x17 ≠ 120 → K38) ∧
(x17 = 120 → ((pg_X11_in x12 1 4) ∧
((¬ (pb_X11_in x12 1 4) → K38) ∧
(pb_X11_in x12 1 4 → (∀ M102 : jT, M102 = up M2 a0 9 ((M2 a0 9) + 2) →
(pg_X11_isDigit M102 a0 0 6) ∧
((pb_X11_isDigit M102 a0 0 6 → (∀ M107 : jT, M107 = up M102 a0 9 ((M102 a0 9) + 1) →
(0 ≤ M102 a0 9 ∧ M102 a0 9 < 60) ∧
(0 ≤ a1 ∧ a1 < 8) ∧
∀ M110 : jT, M110 = up M107 (a0 + 7) a1 (((100 * x12) + (M107 (a0 + 5) (M102 a0 9))) - 48) →
Q 1 M110)) ∧
(¬ (pb_X11_isDigit M102 a0 0 6) → Q 0 M102))))))))))) ∧
(¬ (pb_X11_isDigit M2 a0 0 9) → Q 0 M2)))) ∧
(z1 ≠ 0 → ((pg_X11_isDigit M2 a0 0 6) ∧
((pb_X11_isDigit M2 a0 0 6 → (∀ M115 : jT, M115 = up M2 a0 9 ((M2 a0 9) + 1) →
(0 ≤ M2 a0 9 ∧ M2 a0 9 < 60) ∧
(0 ≤ a1 ∧ a1 < 8) ∧
∀ M118 : jT, M118 = up M115 (a0 + 7) a1 ((500 + (M115 (a0 + 5) (M2 a0 9))) - 48) →
Q 1 M118)) ∧
(¬ (pb_X11_isDigit M2 a0 0 6) → Q 0 M2))))))
def wp_X11_clock (M : jT) (a0 : Int) (a1 : Int) (Q : Int → jT → Prop) : Prop :=
(pg_X11_here M a0) ∧
(rg (pf_X11_here M a0) ∧
((pf_X11_here M a0 ≠ 119 → (((pf_X11_here M a0 ≠ 98 → (((pf_X11_here M a0 ≠ 105 → True) ∧
(pf_X11_here M a0 = 105 → True)))) ∧
(pf_X11_here M a0 = 98 → True)))) ∧
(pf_X11_here M a0 = 119 → True))) ∧
(∀ x12 : Int, (pf_X11_here M a0 ≠ 119 ∧ pf_X11_here M a0 ≠ 98 ∧ pf_X11_here M a0 ≠ 105 → x12 = (-1)) → (pf_X11_here M a0 ≠ 119 ∧ pf_X11_here M a0 ≠ 98 ∧ pf_X11_here M a0 = 105 → x12 = 2) → (pf_X11_here M a0 ≠ 119 ∧ pf_X11_here M a0 = 98 → x12 = 1) → (pf_X11_here M a0 = 119 → x12 = 0) → 
(0 ≤ a1 ∧ a1 < 8) ∧
∀ M23 : jT, M23 = up M (a0 + 7) a1 x12 →
∃ K28 : jT → Prop, (∀ (M27 : jT), K28 M27 → ((rg (M27 (a0 + 7) a1) ∧
((M27 (a0 + 7) a1 < 0 → True) ∧
(0 ≤ M27 (a0 + 7) a1 → True))) ∧
Q (b2i (0 ≤ M27 (a0 + 7) a1)) M27)) ∧
rg (M23 (a0 + 7) a1) ∧
((M23 (a0 + 7) a1 < 0 → K28 M23) ∧
(0 ≤ M23 (a0 + 7) a1 → (∀ M37 : jT, M37 = up M23 a0 9 ((M23 a0 9) + 1) →
K28 M37))))
def wp_X11_plain (M : jT) (a0 : Int) (a1 : Int) (a2 : Int) (Q : Int → jT → Prop) : Prop :=
∃ K17 : Int → jT → Prop, (∀ (x15 : Int) (M16 : jT), K17 x15 M16 → (wp_X11_number M16 a0 5 (fun z18 M19 =>
(0 ≤ a1 ∧ a1 < 8) ∧
∀ M21 : jT, M21 = up M19 (a0 + 7) a1 z18 →
rg (M21 (a0 + 7) a1) ∧
((0 ≤ M21 (a0 + 7) a1 → (∃ K28 : jT → Prop, (∀ (M27 : jT), K28 M27 → Q 1 M27) ∧
rg x15 ∧
((x15 = 0 → K28 M21) ∧
(x15 ≠ 0 → (∀ M31 : jT, M31 = up M21 (a0 + 7) a1 (-(M21 (a0 + 7) a1)) →
K28 M31))))) ∧
(M21 (a0 + 7) a1 < 0 → Q 0 M21))))) ∧
∃ K39 : jT → Prop, (∀ (M38 : jT), K39 M38 → K17 0 M38) ∧
rg a2 ∧
((a2 = 0 → K39 M) ∧
(a2 ≠ 0 → (wp_X11_takes M a0 45 (fun z42 M43 =>
rg z42 ∧
((z42 = 0 → K39 M43) ∧
(z42 ≠ 0 → K17 1 M43))))))
def wp_X11_items (M : jT) (a0 : Int) (a1 : Int) (Q : Int → jT → Prop) : Prop :=
(rg a1 ∧
((a1 ≠ 0 → (((a1 ≠ 1 → (((a1 ≠ 2 → True) ∧
(a1 = 2 → True)))) ∧
(a1 = 1 → True)))) ∧
(a1 = 0 → True))) ∧
(∀ x5 : Int, (a1 ≠ 0 ∧ a1 ≠ 1 ∧ a1 ≠ 2 → x5 = 2) → (a1 ≠ 0 ∧ a1 ≠ 1 ∧ a1 = 2 → x5 = 8) → (a1 ≠ 0 ∧ a1 = 1 → x5 = 3) → (a1 = 0 → x5 = 1) → 
∃ I13 : Nat → Int → jT → Prop, (∃ n14, I13 n14 0 M) ∧
∀ (n14 : Nat) (x11 : Int) (M12 : jT), I13 n14 x11 M12 →
rg x11 ∧
rg x5 ∧
((x5 ≤ x11 → (wp_X11_takes M12 a0 59 (fun z18 M19 =>
(0 ≤ z18 ∧ z18 ≤ 1) ∧
Q z18 M19))) ∧
(x11 < x5 → (∃ K27 : jT → Prop, (∀ (M26 : jT), K27 M26 → (∃ K86 : Int → jT → Prop, (∀ (x84 : Int) (M85 : jT), K86 x84 M85 → (rg x84 ∧
((x84 ≠ 0 → (∀ x89 : Int, x89 = x11 + 1 →
∃ n90, n90 < n14 ∧ I13 n90 x89 M85)) ∧
(x84 = 0 → Q 0 M85)))) ∧
∃ K96 : Prop, (K96 → (∃ K102 : Prop, (K102 → (∃ K119 : Int → Prop, (∀ (x118 : Int), K119 x118 → wp_X11_plain M26 a0 x11 x118 (fun z120 M121 =>
K86 z120 M121)) ∧
∃ K129 : Prop, (K129 → K119 1) ∧
rg a1 ∧
((a1 = 0 → K129) ∧
(a1 ≠ 0 → (∃ K134 : Prop, (K134 → K119 0) ∧
((a1 ≠ 1 → K134) ∧
(a1 = 1 → (((x11 ≠ 2 → K134) ∧
(x11 = 2 → K129)))))))))) ∧
rg a1 ∧
((a1 ≠ 2 → K102) ∧
(a1 = 2 → (((x11 ≠ 6 → K102) ∧
(x11 = 6 → wp_X11_clock M26 a0 x11 (fun z140 M141 =>
K86 z140 M141)))))))) ∧
rg a1 ∧
((a1 ≠ 2 → K96) ∧
(a1 = 2 → (((x11 ≠ 4 → K96) ∧
(x11 = 4 → wp_X11_date_ M26 a0 x11 (fun z145 M146 =>
K86 z145 M146)))))))) ∧
((x11 ≤ 0 → K27 M12) ∧
(0 < x11 → (wp_X11_takes M12 a0 44 (fun z148 M149 =>
rg z148 ∧
((z148 ≠ 0 → K27 M149) ∧
(z148 = 0 → Q 0 M149))))))))))
def wp_X11_does (M : jT) (a0 : Int) (a1 : Int) (Q : Int → jT → Prop) : Prop :=
rg a1 ∧
((a1 = 0 → wp_X11_zoneBy M a0 (M (a0 + 7) 0) (fun z3 M4 =>
Q z3 M4)) ∧
(a1 = 1 → wp_X11_baseBy M a0 (M (a0 + 7) 0) (M (a0 + 7) 1) (M (a0 + 7) 2) (fun z5 M6 =>
Q z5 M6)) ∧
(a1 = 2 → ((pg_X11_in (M (a0 + 7) 1) 2000 2031) ∧
∃ K17 : Prop, (K17 → Q ((-2)) M) ∧
((¬ (pb_X11_in (M (a0 + 7) 1) 2000 2031) → K17) ∧
(pb_X11_in (M (a0 + 7) 1) 2000 2031 → ((pg_X11_in (M (a0 + 7) 2) 2000 2031) ∧
((pb_X11_in (M (a0 + 7) 2) 2000 2031 → wp_X11_ruleBy M a0 (M (a0 + 7) 0) (((100 * ((M (a0 + 7) 1) - 2000)) + (M (a0 + 7) 2)) - 2000) (M (a0 + 7) 3) (M (a0 + 7) 4) ((10 * (M (a0 + 7) 5)) + (M (a0 + 7) 6)) (M (a0 + 7) 7) (fun z23 M24 =>
Q z23 M24)) ∧
(¬ (pb_X11_in (M (a0 + 7) 2) 2000 2031) → K17))))))) ∧
(a1 = 3 → wp_X11_dropBy M a0 (M (a0 + 7) 0) (M (a0 + 7) 1) (fun z25 M26 =>
Q z25 M26)) ∧
(a1 ≠ 0 ∧ a1 ≠ 1 ∧ a1 ≠ 2 ∧ a1 ≠ 3 → wp_X11_cancelBy M a0 (M (a0 + 7) 0) (M (a0 + 7) 1) (fun z27 M28 =>
Q z27 M28)))
def wp_X11_errorPosition (M : jT) (a0 : Int) (Q : Int → jT → Prop) : Prop :=
∀ M1 : jT, M1 = up M a0 0 0 →
Q (M1 a0 10) M1
def wp_X11_character (M : jT) (a0 : Int) (a1 : Int) (Q : Int → jT → Prop) : Prop :=
(pg_X11_in a1 0 ((M a0 12) - 1)) ∧
(((¬ (pb_X11_in a1 0 ((M a0 12) - 1)) → True) ∧
(pb_X11_in a1 0 ((M a0 12) - 1) → True))) ∧
∀ M8 : jT, M8 = up M a0 0 (b2i (¬ (pb_X11_in a1 0 ((M a0 12) - 1)))) →
(rg (M8 a0 0) ∧
((M8 a0 0 ≤ 0 → ((0 ≤ a1 ∧ a1 < 60) ∧
(0 ≤ (M8 (a0 + 6) a1) ∧ (M8 (a0 + 6) a1) < 65536) ∧
True)) ∧
(0 < M8 a0 0 → True))) ∧
(∀ x13 : Int, (M8 a0 0 ≤ 0 → x13 = M8 (a0 + 6) a1) → (0 < M8 a0 0 → x13 = 0) → 
(0 ≤ x13 ∧ x13 < 65536) ∧
Q x13 M8)
def wp_X11_undo (M : jT) (a0 : Int) (Q : Int → jT → Prop) : Prop :=
∀ M1 : jT, M1 = up M a0 0 0 →
rg (M1 a0 3) ∧
((M1 a0 3 ≠ 0 → (∀ M4 : jT, M4 = up M1 a0 3 ((M1 a0 3) - 1) →
∃ I7 : Nat → Int → jT → Prop, (∃ n8, I7 n8 0 M4) ∧
∀ (n8 : Nat) (x5 : Int) (M6 : jT), I7 n8 x5 M6 →
rg x5 ∧
((1294 ≤ x5 → (∀ M11 : jT, M11 = up M6 a0 14 ((-1)) →
Q (M11 a0 3) M11)) ∧
(x5 < 1294 → ((0 ≤ (1294 * (M6 a0 3)) + x5 ∧ (1294 * (M6 a0 3)) + x5 < 10352) ∧
(0 ≤ x5 ∧ x5 < 1294) ∧
∀ M14 : jT, M14 = up M6 (a0 + 1) x5 (M6 (a0 + 2) ((1294 * (M6 a0 3)) + x5)) →
∀ x15 : Int, x15 = x5 + 1 →
∃ n16, n16 < n8 ∧ I7 n16 x15 M14))))) ∧
(M1 a0 3 = 0 → wp_X11_raises M1 a0 1 (fun z17 M18 =>
Q z17 M18)))
def wp_X11_save (M : jT) (a0 : Int) (Q : Int → jT → Prop) : Prop :=
∀ M1 : jT, M1 = up M a0 0 0 →
∀ M2 : jT, M2 = up M1 a0 5 1 →
∃ I5 : Nat → Int → jT → Prop, (∃ n6, I5 n6 0 M2) ∧
∀ (n6 : Nat) (x3 : Int) (M4 : jT), I5 n6 x3 M4 →
rg x3 ∧
((1294 ≤ x3 → Q (M4 (a0 + 1) 0) M4) ∧
(x3 < 1294 → ((0 ≤ x3 ∧ x3 < 1294) ∧
∀ M10 : jT, M10 = up M4 (a0 + 3) x3 (M4 (a0 + 1) x3) →
∀ x11 : Int, x11 = x3 + 1 →
∃ n12, n12 < n6 ∧ I5 n12 x11 M10)))
def wp_X11_restore (M : jT) (a0 : Int) (Q : Int → jT → Prop) : Prop :=
∀ M1 : jT, M1 = up M a0 0 0 →
rg (M1 a0 5) ∧
((M1 a0 5 ≠ 0 → (∃ I6 : Nat → Int → jT → Prop, (∃ n7, I6 n7 0 M1) ∧
∀ (n7 : Nat) (x4 : Int) (M5 : jT), I6 n7 x4 M5 →
rg x4 ∧
((1294 ≤ x4 → (∀ M10 : jT, M10 = up M5 a0 3 0 →
∀ M11 : jT, M11 = up M10 a0 14 ((-1)) →
Q (M11 (a0 + 1) 0) M11)) ∧
(x4 < 1294 → ((0 ≤ x4 ∧ x4 < 1294) ∧
∀ M13 : jT, M13 = up M5 (a0 + 1) x4 (M5 (a0 + 3) x4) →
∀ x14 : Int, x14 = x4 + 1 →
∃ n15, n15 < n7 ∧ I6 n15 x14 M13))))) ∧
(M1 a0 5 = 0 → wp_X11_raises M1 a0 1 (fun z16 M17 =>
Q z16 M17)))
def wp_X11_count (M : jT) (a0 : Int) (a1 : Int) (Q : Int → jT → Prop) : Prop :=
∀ M1 : jT, M1 = up M a0 0 0 →
rg a1 ∧
((a1 = 0 → ((0 ≤ a1 ∧ a1 < 1294) ∧
Q (M1 (a0 + 1) a1) M1)) ∧
(a1 = 1 → ((0 ≤ a1 ∧ a1 < 1294) ∧
Q (M1 (a0 + 1) a1) M1)) ∧
(a1 = 2 → (∃ I9 : Nat → Int → Int → jT → Prop, (∃ n10, I9 n10 0 0 M1) ∧
∀ (n10 : Nat) (x6 : Int) (x7 : Int) (M8 : jT), I9 n10 x6 x7 M8 →
rg x7 ∧
rg (M8 (a0 + 1) 1) ∧
((M8 (a0 + 1) 1 ≤ x7 → Q x6 M8) ∧
(x7 < M8 (a0 + 1) 1 → (wp_X11_lists M8 a0 x7 (fun M15 =>
∀ x16 : Int, x16 = x6 + (M15 a0 33) →
∀ x17 : Int, x17 = x7 + 1 →
∃ n18, n18 < n10 ∧ I9 n18 x16 x17 M15)))))) ∧
(a1 = 3 → (∃ I22 : Nat → Int → Int → jT → Prop, (∃ n23, I22 n23 0 0 M1) ∧
∀ (n23 : Nat) (x19 : Int) (x20 : Int) (M21 : jT), I22 n23 x19 x20 M21 →
rg x20 ∧
rg (M21 (a0 + 1) 1) ∧
((M21 (a0 + 1) 1 ≤ x20 → Q x19 M21) ∧
(x20 < M21 (a0 + 1) 1 → (wp_X11_placed M21 a0 x20 (fun z27 M28 =>
∀ x29 : Int, x29 = x19 + z27 →
∀ x30 : Int, x30 = x20 + 1 →
∃ n31, n31 < n23 ∧ I22 n31 x29 x30 M28)))))) ∧
(a1 = 4 → Q (M1 a0 3) M1) ∧
(a1 = 5 → Q (M1 a0 8) M1) ∧
(a1 ≠ 0 ∧ a1 ≠ 1 ∧ a1 ≠ 2 ∧ a1 ≠ 3 ∧ a1 ≠ 4 ∧ a1 ≠ 5 → wp_X11_raises M1 a0 1 (fun z32 M33 =>
Q z32 M33)))
