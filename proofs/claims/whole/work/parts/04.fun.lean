/-! the methods as functions of their states, by program out of the listing -/
def f7_thrown (S : St) : Option (St × Int32) :=
some (S, S.1 0)
def f7_in (S : St) (v0 : Int32) (v1 : Int32) (v2 : Int32) : Option (St × Int32) :=
if v0 < v1 then
(some (S, 0))
else
(if v2 < v0 then
(some (S, 0))
else
(some (S, 1)))
def f7_refused (S : St) (v1 : Int32) : Option (St × Int32) :=
(stF S 0 v1).bind fun S1 =>
if v1 = 0 then
(some (S1, 0))
else
(some (S1, 1))
def f7_isPack (S : St) (v1 : Int32) : Option (St × Int32) :=
(f7_in S v1 0 ((S.1 2) - 1)).bind fun q3 => (fun (S2 : St) (x1 : Int32) =>
(bzI x1).bind fun w => some (S2, w)) q3.1 q3.2
def f7_isRaise (S : St) (v1 : Int32) : Option (St × Int32) :=
(f7_in S v1 0 ((S.1 6) - 1)).bind fun q3 => (fun (S2 : St) (x1 : Int32) =>
(bzI x1).bind fun w => some (S2, w)) q3.1 q3.2
def f7_isReviewer (S : St) (v0 : Int32) : Option (St × Int32) :=
(f7_in S v0 0 5).bind fun q3 => (fun (S2 : St) (x1 : Int32) =>
(bzI x1).bind fun w => some (S2, w)) q3.1 q3.2
def f7_pack_J29 (v1 : Int32) (t1 : Int32) (S : St) : Option (St × Int32) :=
(f7_refused S t1).bind fun q6 => (fun (S2 : St) (x1 : Int32) =>
if x1 = 0 then
((stA S2 0 12 (S2.1 2) v1).bind fun S4 =>
(stF S4 2 ((S4.1 2) + 1)).bind fun S5 =>
some (S5, (S5.1 2) - 1))
else
(some (S2, 0))) q6.1 q6.2
def f7_pack (S : St) (v1 : Int32) : Option (St × Int32) :=
(f7_in S v1 1 99).bind fun q11 => (fun (S8 : St) (x7 : Int32) =>
if x7 = 0 then
(f7_pack_J29 v1 1 S8)
else
(if (S8.1 2) = 12 then
(f7_pack_J29 v1 2 S8)
else
(f7_pack_J29 v1 0 S8))) q11.1 q11.2
def f7_need_J112 (v1 : Int32) (v2 : Int32) (v3 : Int32) (v4 : Int32) (t1 : Int32) (S : St) : Option (St × Int32) :=
(f7_refused S t1).bind fun q9 => (fun (S2 : St) (x1 : Int32) =>
if x1 = 0 then
((stA S2 1 20 (S2.1 3) v1).bind fun S4 =>
(stA S4 2 20 (S4.1 3) v2).bind fun S5 =>
(stA S5 3 20 (S5.1 3) v3).bind fun S6 =>
(stA S6 4 20 (S6.1 3) v4).bind fun S7 =>
(stF S7 3 ((S7.1 3) + 1)).bind fun S8 =>
some (S8, S8.1 3))
else
(some (S2, 0))) q9.1 q9.2
def f7_need_J107 (v1 : Int32) (v2 : Int32) (v3 : Int32) (v4 : Int32) (S : St) : Option (St × Int32) :=
f7_need_J112 v1 v2 v3 v4 3 S
def f7_need_J55 (v1 : Int32) (v2 : Int32) (v3 : Int32) (v4 : Int32) (v5 : Int32) (t0 : Int32) (S : St) : Option (St × Int32) :=
if v5 = 0 then
(f7_need_J112 v1 v2 v3 v4 1 S)
else
(if t0 = 0 then
(f7_need_J112 v1 v2 v3 v4 2 S)
else
((ldA S 0 12 v2).bind fun x12 =>
(ldA S 0 12 v1).bind fun x13 =>
(f7_in S (x12 - x13) v3 v4).bind fun q18 => (fun (S15 : St) (x14 : Int32) =>
if x14 = 0 then
(f7_need_J107 v1 v2 v3 v4 S15)
else
(if (S15.1 3) = 20 then
(f7_need_J107 v1 v2 v3 v4 S15)
else
(f7_need_J112 v1 v2 v3 v4 0 S15))) q18.1 q18.2))
def f7_need_J54 (v1 : Int32) (v2 : Int32) (v3 : Int32) (v4 : Int32) (v5 : Int32) (S : St) : Option (St × Int32) :=
f7_need_J55 v1 v2 v3 v4 v5 0 S
def f7_need_J21 (v1 : Int32) (v2 : Int32) (v3 : Int32) (v4 : Int32) (t0 : Int32) (S : St) : Option (St × Int32) :=
if v1 = v2 then
(f7_need_J54 v1 v2 v3 v4 t0 S)
else
((f7_in S v3 ((-98)) 98).bind fun q27 => (fun (S21 : St) (x20 : Int32) =>
if x20 = 0 then
(f7_need_J54 v1 v2 v3 v4 t0 S21)
else
((f7_in S21 v4 v3 98).bind fun q26 => (fun (S24 : St) (x23 : Int32) =>
if x23 = 0 then
(f7_need_J54 v1 v2 v3 v4 t0 S24)
else
(f7_need_J55 v1 v2 v3 v4 t0 1 S24)) q26.1 q26.2)) q27.1 q27.2)
def f7_need_J20 (v1 : Int32) (v2 : Int32) (v3 : Int32) (v4 : Int32) (S : St) : Option (St × Int32) :=
f7_need_J21 v1 v2 v3 v4 0 S
def f7_need (S : St) (v1 : Int32) (v2 : Int32) (v3 : Int32) (v4 : Int32) : Option (St × Int32) :=
(f7_isPack S v1).bind fun q35 => (fun (S29 : St) (x28 : Int32) =>
if x28 = 0 then
(f7_need_J20 v1 v2 v3 v4 S29)
else
((f7_isPack S29 v2).bind fun q34 => (fun (S32 : St) (x31 : Int32) =>
if x31 = 0 then
(f7_need_J20 v1 v2 v3 v4 S32)
else
(f7_need_J21 v1 v2 v3 v4 1 S32)) q34.1 q34.2)) q35.1 q35.2
def f7_trust_J27 (v1 : Int32) (v2 : Int32) (t1 : Int32) (S : St) : Option (St × Int32) :=
(f7_refused S t1).bind fun q6 => (fun (S2 : St) (x1 : Int32) =>
if x1 = 0 then
((ldA S2 5 6 v1).bind fun x4 =>
(stA S2 5 6 v1 v2).bind fun S5 =>
some (S5, x4))
else
(some (S2, 0))) q6.1 q6.2
def f7_trust (S : St) (v1 : Int32) (v2 : Int32) : Option (St × Int32) :=
(f7_isReviewer S v1).bind fun q14 => (fun (S8 : St) (x7 : Int32) =>
if x7 = 0 then
(f7_trust_J27 v1 v2 1 S8)
else
((f7_in S8 v2 0 9).bind fun q13 => (fun (S11 : St) (x10 : Int32) =>
if x10 = 0 then
(f7_trust_J27 v1 v2 2 S11)
else
(f7_trust_J27 v1 v2 0 S11)) q13.1 q13.2)) q14.1 q14.2
def f7_patience_J16 (v1 : Int32) (t1 : Int32) (S : St) : Option (St × Int32) :=
(f7_refused S t1).bind fun q5 => (fun (S2 : St) (x1 : Int32) =>
if x1 = 0 then
((stF S2 4 v1).bind fun S4 =>
some (S4, S2.1 4))
else
(some (S2, 0))) q5.1 q5.2
def f7_patience (S : St) (v1 : Int32) : Option (St × Int32) :=
(f7_in S v1 1 100).bind fun q9 => (fun (S7 : St) (x6 : Int32) =>
if x6 = 0 then
(f7_patience_J16 v1 1 S7)
else
(f7_patience_J16 v1 0 S7)) q9.1 q9.2
def f7_freeze_J64 (v1 : Int32) (v2 : Int32) (v3 : Int32) (t1 : Int32) (S : St) : Option (St × Int32) :=
(f7_refused S t1).bind fun q8 => (fun (S2 : St) (x1 : Int32) =>
if x1 = 0 then
((stA S2 6 10 (S2.1 5) v1).bind fun S4 =>
(stA S4 7 10 (S4.1 5) v2).bind fun S5 =>
(stA S5 8 10 (S5.1 5) v3).bind fun S6 =>
(stF S6 5 ((S6.1 5) + 1)).bind fun S7 =>
some (S7, S7.1 5))
else
(some (S2, 0))) q8.1 q8.2
def f7_freeze_J38 (v1 : Int32) (v2 : Int32) (v3 : Int32) (t0 : Int32) (S : St) : Option (St × Int32) :=
if t0 = 0 then
(f7_freeze_J64 v1 v2 v3 1 S)
else
(if (S.1 5) = 10 then
(f7_freeze_J64 v1 v2 v3 2 S)
else
(f7_freeze_J64 v1 v2 v3 0 S))
def f7_freeze_J37 (v1 : Int32) (v2 : Int32) (v3 : Int32) (S : St) : Option (St × Int32) :=
f7_freeze_J38 v1 v2 v3 0 S
def f7_freeze (S : St) (v1 : Int32) (v2 : Int32) (v3 : Int32) : Option (St × Int32) :=
(f7_in S v1 1 4095).bind fun q22 => (fun (S12 : St) (x11 : Int32) =>
if x11 = 0 then
(f7_freeze_J37 v1 v2 v3 S12)
else
((f7_in S12 v2 0 1000).bind fun q21 => (fun (S15 : St) (x14 : Int32) =>
if x14 = 0 then
(f7_freeze_J37 v1 v2 v3 S15)
else
((f7_in S15 v3 v2 1000).bind fun q20 => (fun (S18 : St) (x17 : Int32) =>
if x17 = 0 then
(f7_freeze_J37 v1 v2 v3 S18)
else
(f7_freeze_J38 v1 v2 v3 1 S18)) q20.1 q20.2)) q21.1 q21.2)) q22.1 q22.2
def f7_failing_L4b (k4 : Int32 → Int32 → St → Option (St × Int32)) (v1 : Int32) (v2 : Int32) (S : St) : Option (St × Int32) :=
if (S.1 3) ≤ v2 then
(some (S, v1))
else
((ldA S 2 20 v2).bind fun x2 =>
(ldA S 17 12 x2).bind fun x3 =>
(ldA S 1 20 v2).bind fun x4 =>
(ldA S 17 12 x4).bind fun x5 =>
(ldA S 3 20 v2).bind fun x6 =>
(ldA S 4 20 v2).bind fun x7 =>
(f7_in S (x3 - x5) x6 x7).bind fun q11 => (fun (S9 : St) (x8 : Int32) =>
if x8 = 0 then
(k4 (v1 + 1) (v2 + 1) S9)
else
(k4 (v1 + 0) (v2 + 1) S9)) q11.1 q11.2)
def f7_failing_L4 : Nat → Int32 → Int32 → St → Option (St × Int32)
  | 0, _, _, _ => none
  | n + 1, v1, v2, S => f7_failing_L4b  (f7_failing_L4  n) v1 v2 S
def f7_failing (S : St) : Option (St × Int32) :=
f7_failing_L4 2000 0 0 S
def f7_asNow_L2b (k2 : Int32 → St → Option (St)) (v1 : Int32) (S : St) : Option (St) :=
if (S.1 2) ≤ v1 then
(some S)
else
((ldA S 0 12 v1).bind fun x2 =>
(stA S 17 12 v1 x2).bind fun S3 =>
k2 (v1 + 1) S3)
def f7_asNow_L2 : Nat → Int32 → St → Option (St)
  | 0, _, _ => none
  | n + 1, v1, S => f7_asNow_L2b  (f7_asNow_L2  n) v1 S
def f7_asNow (S : St) : Option (St) :=
f7_asNow_L2 2000 0 S
def f7_failsWith_J43 (k6 : Int32 → Int32 → Int32 → St → Option (St × Int32)) (v1 : Int32) (v2 : Int32) (v3 : Int32) (S : St) : Option (St × Int32) :=
(ldA S 10 40 v3).bind fun x1 =>
(ldA S 11 40 v3).bind fun x2 =>
(stA S 17 12 x1 x2).bind fun S3 =>
k6 v1 v2 (v3 + 1) S3
def f7_failsWith_L6b (k6 : Int32 → Int32 → Int32 → St → Option (St × Int32)) (v1 : Int32) (v2 : Int32) (v3 : Int32) (S : St) : Option (St × Int32) :=
if (S.1 6) ≤ v3 then
((f7_failing S).bind fun q7 => (fun (S6 : St) (x5 : Int32) =>
some (S6, x5)) q7.1 q7.2)
else
((ldA S 9 40 v3).bind fun x8 =>
if x8 = 0 then
((ldA S 14 40 v3).bind fun x10 =>
if x10 = v1 then
(f7_failsWith_J43 k6 v1 v2 v3 S)
else
((ldA S 14 40 v3).bind fun x12 =>
if x12 = v2 then
(f7_failsWith_J43 k6 v1 v2 v3 S)
else
(k6 v1 v2 (v3 + 1) S)))
else
(k6 v1 v2 (v3 + 1) S))
def f7_failsWith_L6 : Nat → Int32 → Int32 → Int32 → St → Option (St × Int32)
  | 0, _, _, _, _ => none
  | n + 1, v1, v2, v3, S => f7_failsWith_L6b  (f7_failsWith_L6  n) v1 v2 v3 S
def f7_failsWith (S : St) (v1 : Int32) (v2 : Int32) : Option (St × Int32) :=
(f7_asNow S).bind fun S15 =>
f7_failsWith_L6 2000 v1 v2 0 S15
def f7_sizeOf_L4b (k4 : Int32 → Int32 → Int32 → St → Option (St × Int32)) (v1 : Int32) (v2 : Int32) (v3 : Int32) (S : St) : Option (St × Int32) :=
if (S.1 6) ≤ v3 then
(some (S, v2))
else
((ldA S 9 40 v3).bind fun x2 =>
if x2 = 0 then
((ldA S 14 40 v3).bind fun x4 =>
if x4 = v1 then
(k4 v1 (v2 + 1) (v3 + 1) S)
else
(k4 v1 (v2 + 0) (v3 + 1) S))
else
(k4 v1 (v2 + 0) (v3 + 1) S))
def f7_sizeOf_L4 : Nat → Int32 → Int32 → Int32 → St → Option (St × Int32)
  | 0, _, _, _, _ => none
  | n + 1, v1, v2, v3, S => f7_sizeOf_L4b  (f7_sizeOf_L4  n) v1 v2 v3 S
def f7_sizeOf (S : St) (v1 : Int32) : Option (St × Int32) :=
f7_sizeOf_L4 2000 v1 0 0 S
def f7_loadOf_L5b (k5 : Int32 → Int32 → Int32 → Int32 → St → Option (St × Int32)) (v1 : Int32) (v2 : Int32) (v3 : Int32) (v4 : Int32) (S : St) : Option (St × Int32) :=
if (S.1 6) ≤ v4 then
(some (S, v3))
else
(if v4 = v2 then
(k5 v1 v2 (v3 + 0) (v4 + 1) S)
else
((ldA S 9 40 v4).bind fun x3 =>
if x3 = 0 then
((ldA S 15 40 v4).bind fun x5 =>
if x5 = v1 then
(k5 v1 v2 (v3 + 1) (v4 + 1) S)
else
(k5 v1 v2 (v3 + 0) (v4 + 1) S))
else
(k5 v1 v2 (v3 + 0) (v4 + 1) S)))
def f7_loadOf_L5 : Nat → Int32 → Int32 → Int32 → Int32 → St → Option (St × Int32)
  | 0, _, _, _, _, _ => none
  | n + 1, v1, v2, v3, v4, S => f7_loadOf_L5b  (f7_loadOf_L5  n) v1 v2 v3 v4 S
def f7_loadOf (S : St) (v1 : Int32) (v2 : Int32) : Option (St × Int32) :=
f7_loadOf_L5 2000 v1 v2 0 0 S
def f7_has_L6b (k6 : Int32 → Int32 → Int32 → Int32 → Int32 → Int32 → St → Option (St × Int32)) (v1 : Int32) (v2 : Int32) (v3 : Int32) (v4 : Int32) (v5 : Int32) (v6 : Int32) (S : St) : Option (St × Int32) :=
if v4 ≤ v6 then
((bzI v5).bind fun w => some (S, w))
else
(if v5 = 0 then
(if v6 = v3 then
(k6 v1 v2 v3 v4 0 (v6 + 1) S)
else
((ldA S 9 40 v6).bind fun x4 =>
if x4 = 0 then
((ldA S 14 40 v6).bind fun x6 =>
if x6 = v2 then
((ldA S 15 40 v6).bind fun x8 =>
if x8 = v1 then
(k6 v1 v2 v3 v4 1 (v6 + 1) S)
else
(k6 v1 v2 v3 v4 0 (v6 + 1) S))
else
(k6 v1 v2 v3 v4 0 (v6 + 1) S))
else
(k6 v1 v2 v3 v4 0 (v6 + 1) S)))
else
(k6 v1 v2 v3 v4 1 (v6 + 1) S))
def f7_has_L6 : Nat → Int32 → Int32 → Int32 → Int32 → Int32 → Int32 → St → Option (St × Int32)
  | 0, _, _, _, _, _, _, _ => none
  | n + 1, v1, v2, v3, v4, v5, v6, S => f7_has_L6b  (f7_has_L6  n) v1 v2 v3 v4 v5 v6 S
def f7_has (S : St) (v1 : Int32) (v2 : Int32) (v3 : Int32) (v4 : Int32) : Option (St × Int32) :=
f7_has_L6 2000 v1 v2 v3 v4 0 0 S
def f7_give_J103 (k2 : Int32 → Int32 → St → Option (St)) (k60 : Int32 → Int32 → Int32 → Int32 → St → Option (St)) (v1 : Int32) (v2 : Int32) (v3 : Int32) (v4 : Int32) (t0 : Int32) (S : St) : Option (St) :=
if t0 = 0 then
(k60 v1 v2 v3 (v4 + 1) S)
else
(if v3 = ((-1)) then
(k60 v1 v2 v4 (v4 + 1) S)
else
((f7_loadOf S v4 v2).bind fun q9 => (fun (S4 : St) (x3 : Int32) =>
(f7_loadOf S4 v3 v2).bind fun q8 => (fun (S6 : St) (x5 : Int32) =>
if x5 ≤ x3 then
(k60 v1 v2 v3 (v4 + 1) S6)
else
(k60 v1 v2 v4 (v4 + 1) S6)) q8.1 q8.2) q9.1 q9.2))
def f7_give_J102 (k2 : Int32 → Int32 → St → Option (St)) (k60 : Int32 → Int32 → Int32 → Int32 → St → Option (St)) (v1 : Int32) (v2 : Int32) (v3 : Int32) (v4 : Int32) (S : St) : Option (St) :=
f7_give_J103 k2 k60 v1 v2 v3 v4 0 S
def f7_give_L60b (k2 : Int32 → Int32 → St → Option (St)) (k60 : Int32 → Int32 → Int32 → Int32 → St → Option (St)) (v1 : Int32) (v2 : Int32) (v3 : Int32) (v4 : Int32) (S : St) : Option (St) :=
if 6 ≤ v4 then
((ldA S 16 40 v2).bind fun x11 =>
if x11 = 0 then
((stZ S 16 40 v2 0).bind fun S13 =>
(stA S13 15 40 v2 v3).bind fun S14 =>
k2 v1 (v2 + 1) S14)
else
((ldA S 15 40 v2).bind fun x15 =>
if x15 = v3 then
((stZ S 16 40 v2 1).bind fun S17 =>
(stA S17 15 40 v2 v3).bind fun S18 =>
k2 v1 (v2 + 1) S18)
else
((stZ S 16 40 v2 0).bind fun S19 =>
(stA S19 15 40 v2 v3).bind fun S20 =>
k2 v1 (v2 + 1) S20)))
else
((ldA S 5 6 v4).bind fun x21 =>
(ldA S 12 40 v2).bind fun x22 =>
if x21 < x22 then
(f7_give_J102 k2 k60 v1 v2 v3 v4 S)
else
((f7_has S v4 v1 v2 (S.1 6)).bind fun q27 => (fun (S25 : St) (x24 : Int32) =>
if x24 = 0 then
(f7_give_J103 k2 k60 v1 v2 v3 v4 1 S25)
else
(f7_give_J102 k2 k60 v1 v2 v3 v4 S25)) q27.1 q27.2))
def f7_give_L60 (k2 : Int32 → Int32 → St → Option (St)) : Nat → Int32 → Int32 → Int32 → Int32 → St → Option (St)
  | 0, _, _, _, _, _ => none
  | n + 1, v1, v2, v3, v4, S => f7_give_L60b k2 (f7_give_L60 k2 n) v1 v2 v3 v4 S
def f7_give_L2b (k2 : Int32 → Int32 → St → Option (St)) (v1 : Int32) (v2 : Int32) (S : St) : Option (St) :=
if (S.1 6) ≤ v2 then
(some S)
else
((ldA S 9 40 v2).bind fun x29 =>
if x29 = 0 then
((ldA S 14 40 v2).bind fun x31 =>
if x31 = v1 then
((ldA S 15 40 v2).bind fun x33 =>
if x33 = ((-1)) then
(f7_give_L60 k2 2000 v1 v2 ((-1)) 0 S)
else
((ldA S 15 40 v2).bind fun x35 =>
(f7_has S x35 v1 v2 v2).bind fun q39 => (fun (S37 : St) (x36 : Int32) =>
if x36 = 0 then
(k2 v1 (v2 + 1) S37)
else
(f7_give_L60 k2 2000 v1 v2 ((-1)) 0 S37)) q39.1 q39.2))
else
(k2 v1 (v2 + 1) S))
else
(k2 v1 (v2 + 1) S))
def f7_give_L2 : Nat → Int32 → Int32 → St → Option (St)
  | 0, _, _, _ => none
  | n + 1, v1, v2, S => f7_give_L2b  (f7_give_L2  n) v1 v2 S
def f7_give (S : St) (v1 : Int32) : Option (St) :=
f7_give_L2 2000 v1 0 S
def f7_settle_L46b (k46 : Int32 → Int32 → Int32 → St → Option (St)) (v1 : Int32) (v2 : Int32) (v3 : Int32) (S : St) : Option (St) :=
if (S.1 6) ≤ v3 then
(if v2 = ((-1)) then
(some S)
else
((f7_give S v2).bind fun S4 =>
some S4))
else
((ldA S 9 40 v3).bind fun x5 =>
if x5 = 0 then
((ldA S 14 40 v3).bind fun x7 =>
if x7 = v1 then
((stA S 14 40 v3 v2).bind fun S9 =>
k46 v1 v2 (v3 + 1) S9)
else
((ldA S 14 40 v3).bind fun x10 =>
(stA S 14 40 v3 x10).bind fun S11 =>
k46 v1 v2 (v3 + 1) S11))
else
((ldA S 14 40 v3).bind fun x12 =>
(stA S 14 40 v3 x12).bind fun S13 =>
k46 v1 v2 (v3 + 1) S13))
def f7_settle_L46 : Nat → Int32 → Int32 → Int32 → St → Option (St)
  | 0, _, _, _, _ => none
  | n + 1, v1, v2, v3, S => f7_settle_L46b  (f7_settle_L46  n) v1 v2 v3 S
def f7_settle_L9b (k9 : Int32 → Int32 → Int32 → St → Option (St)) (v1 : Int32) (v2 : Int32) (v3 : Int32) (S : St) : Option (St) :=
if v3 < 0 then
(f7_settle_L46 2000 v1 v2 0 S)
else
((ldA S 9 40 v3).bind fun x15 =>
if x15 = 0 then
((ldA S 14 40 v3).bind fun x17 =>
if x17 = v1 then
(k9 v1 v3 (v3 + (-1)) S)
else
(k9 v1 v2 (v3 + (-1)) S))
else
(k9 v1 v2 (v3 + (-1)) S))
def f7_settle_L9 : Nat → Int32 → Int32 → Int32 → St → Option (St)
  | 0, _, _, _, _ => none
  | n + 1, v1, v2, v3, S => f7_settle_L9b  (f7_settle_L9  n) v1 v2 v3 S
def f7_settle (S : St) (v1 : Int32) : Option (St) :=
f7_settle_L9 2000 v1 ((-1)) ((S.1 6) - 1) S
def f7_open_L4b (k4 : Int32 → Int32 → St → Option (St × Int32)) (v1 : Int32) (v2 : Int32) (S : St) : Option (St × Int32) :=
if (S.1 6) ≤ v2 then
(some (S, v1))
else
((ldA S 9 40 v2).bind fun x2 =>
if x2 = 0 then
(k4 (v1 + 1) (v2 + 1) S)
else
(k4 (v1 + 0) (v2 + 1) S))
def f7_open_L4 : Nat → Int32 → Int32 → St → Option (St × Int32)
  | 0, _, _, _ => none
  | n + 1, v1, v2, S => f7_open_L4b  (f7_open_L4  n) v1 v2 S
def f7_open (S : St) : Option (St × Int32) :=
f7_open_L4 2000 0 0 S
def f7_raise_J147 (v1 : Int32) (v2 : Int32) (v3 : Int32) (t1 : Int32) (S : St) : Option (St × Int32) :=
(f7_refused S t1).bind fun q13 => (fun (S2 : St) (x1 : Int32) =>
if x1 = 0 then
((stA S2 10 40 (S2.1 6) v1).bind fun S4 =>
(stA S4 11 40 (S4.1 6) v2).bind fun S5 =>
(stA S5 12 40 (S5.1 6) v3).bind fun S6 =>
(stA S6 13 40 (S6.1 6) (S6.1 1)).bind fun S7 =>
(stA S7 14 40 (S7.1 6) (S7.1 6)).bind fun S8 =>
(stA S8 15 40 (S8.1 6) ((-1))).bind fun S9 =>
(stF S9 6 ((S9.1 6) + 1)).bind fun S10 =>
(f7_give S10 ((S10.1 6) - 1)).bind fun S12 =>
some (S12, (S12.1 6) - 1))
else
(some (S2, 0))) q13.1 q13.2
def f7_raise_J142 (v1 : Int32) (v2 : Int32) (v3 : Int32) (S : St) : Option (St × Int32) :=
f7_raise_J147 v1 v2 v3 3 S
def f7_raise_L52b (k52 : Int32 → Int32 → Int32 → Int32 → Int32 → Int32 → Int32 → St → Option (St × Int32)) (v1 : Int32) (v2 : Int32) (v3 : Int32) (v4 : Int32) (v5 : Int32) (v6 : Int32) (v7 : Int32) (S : St) : Option (St × Int32) :=
if (S.1 6) ≤ v7 then
(if v4 = 0 then
(f7_raise_J147 v1 v2 v3 1 S)
else
(if v5 = 0 then
(f7_raise_J147 v1 v2 v3 2 S)
else
(if v6 = 0 then
((f7_open S).bind fun q22 => (fun (S19 : St) (x18 : Int32) =>
if x18 = 10 then
(f7_raise_J142 v1 v2 v3 S19)
else
(if (S19.1 6) = 40 then
(f7_raise_J142 v1 v2 v3 S19)
else
(f7_raise_J147 v1 v2 v3 0 S19))) q22.1 q22.2)
else
(f7_raise_J142 v1 v2 v3 S))))
else
(if v6 = 0 then
((ldA S 9 40 v7).bind fun x24 =>
if x24 = 0 then
((ldA S 10 40 v7).bind fun x26 =>
if x26 = v1 then
(k52 v1 v2 v3 v4 v5 1 (v7 + 1) S)
else
(k52 v1 v2 v3 v4 v5 0 (v7 + 1) S))
else
(k52 v1 v2 v3 v4 v5 0 (v7 + 1) S))
else
(k52 v1 v2 v3 v4 v5 1 (v7 + 1) S))
def f7_raise_L52 : Nat → Int32 → Int32 → Int32 → Int32 → Int32 → Int32 → Int32 → St → Option (St × Int32)
  | 0, _, _, _, _, _, _, _, _ => none
  | n + 1, v1, v2, v3, v4, v5, v6, v7, S => f7_raise_L52b  (f7_raise_L52  n) v1 v2 v3 v4 v5 v6 v7 S
def f7_raise (S : St) (v1 : Int32) (v2 : Int32) (v3 : Int32) : Option (St × Int32) :=
(f7_isPack S v1).bind fun q40 => (fun (S29 : St) (x28 : Int32) =>
if x28 = 0 then
(f7_raise_L52 2000 v1 v2 v3 x28 0 0 0 S29)
else
((ldA S29 0 12 v1).bind fun x31 =>
(f7_in S29 v2 (x31 + 1) 99).bind fun q39 => (fun (S33 : St) (x32 : Int32) =>
if x32 = 0 then
(f7_raise_L52 2000 v1 v2 v3 x28 0 0 0 S33)
else
((f7_in S33 v3 0 9).bind fun q38 => (fun (S36 : St) (x35 : Int32) =>
if x35 = 0 then
(f7_raise_L52 2000 v1 v2 v3 x28 0 0 0 S36)
else
(f7_raise_L52 2000 v1 v2 v3 x28 1 0 0 S36)) q38.1 q38.2)) q39.1 q39.2)) q40.1 q40.2
def f7_approve_J39 (v1 : Int32) (t1 : Int32) (S : St) : Option (St × Int32) :=
(f7_refused S t1).bind fun q6 => (fun (S2 : St) (x1 : Int32) =>
if x1 = 0 then
((ldA S2 16 40 v1).bind fun x4 =>
(stZ S2 16 40 v1 1).bind fun S5 =>
(bzI x4).bind fun w => some (S5, w))
else
(some (S2, 0))) q6.1 q6.2
def f7_approve_J34 (v1 : Int32) (S : St) : Option (St × Int32) :=
f7_approve_J39 v1 2 S
def f7_approve (S : St) (v1 : Int32) : Option (St × Int32) :=
(f7_isRaise S v1).bind fun q14 => (fun (S8 : St) (x7 : Int32) =>
if x7 = 0 then
(f7_approve_J39 v1 1 S8)
else
((ldA S8 9 40 v1).bind fun x10 =>
if x10 = 0 then
((ldA S8 15 40 v1).bind fun x12 =>
if x12 = ((-1)) then
(f7_approve_J34 v1 S8)
else
(f7_approve_J39 v1 0 S8))
else
(f7_approve_J34 v1 S8))) q14.1 q14.2
def f7_landable_L66b (k17 : Int32 → Int32 → Int32 → St → Option (St × Int32)) (k66 : Int32 → Int32 → Int32 → Int32 → St → Option (St × Int32)) (v1 : Int32) (v2 : Int32) (v3 : Int32) (v4 : Int32) (S : St) : Option (St × Int32) :=
if (S.1 5) ≤ v4 then
(k17 v1 v2 (v3 + 1) S)
else
(if v2 = 0 then
(k66 v1 0 v3 (v4 + 1) S)
else
((ldA S 7 10 v4).bind fun x3 =>
(ldA S 8 10 v4).bind fun x4 =>
(f7_in S (S.1 1) x3 x4).bind fun q11 => (fun (S6 : St) (x5 : Int32) =>
if x5 = 0 then
(k66 v1 1 v3 (v4 + 1) S6)
else
((ldA S6 6 10 v4).bind fun x8 =>
(ldA S6 10 40 v3).bind fun x9 =>
if ((x8 >>> (x9 &&& 31)) &&& 1) = 1 then
(k66 v1 0 v3 (v4 + 1) S6)
else
(k66 v1 1 v3 (v4 + 1) S6))) q11.1 q11.2))
def f7_landable_L66 (k17 : Int32 → Int32 → Int32 → St → Option (St × Int32)) : Nat → Int32 → Int32 → Int32 → Int32 → St → Option (St × Int32)
  | 0, _, _, _, _, _ => none
  | n + 1, v1, v2, v3, v4, S => f7_landable_L66b k17 (f7_landable_L66 k17 n) v1 v2 v3 v4 S
def f7_landable_L17b (k17 : Int32 → Int32 → Int32 → St → Option (St × Int32)) (v1 : Int32) (v2 : Int32) (v3 : Int32) (S : St) : Option (St × Int32) :=
if (S.1 6) ≤ v3 then
((bzI v2).bind fun w => some (S, w))
else
((ldA S 9 40 v3).bind fun x13 =>
if x13 = 0 then
((ldA S 14 40 v3).bind fun x15 =>
if x15 = v1 then
(if v2 = 0 then
(f7_landable_L66 k17 2000 v1 0 v3 0 S)
else
((ldA S 16 40 v3).bind fun x18 =>
if x18 = 0 then
(f7_landable_L66 k17 2000 v1 0 v3 0 S)
else
(f7_landable_L66 k17 2000 v1 1 v3 0 S)))
else
(k17 v1 v2 (v3 + 1) S))
else
(k17 v1 v2 (v3 + 1) S))
def f7_landable_L17 : Nat → Int32 → Int32 → Int32 → St → Option (St × Int32)
  | 0, _, _, _, _ => none
  | n + 1, v1, v2, v3, S => f7_landable_L17b  (f7_landable_L17  n) v1 v2 v3 S
def f7_landable (S : St) (v1 : Int32) : Option (St × Int32) :=
(f7_failsWith S v1 v1).bind fun q23 => (fun (S21 : St) (x20 : Int32) =>
if x20 = 0 then
(f7_landable_L17 2000 v1 1 0 S21)
else
(f7_landable_L17 2000 v1 0 0 S21)) q23.1 q23.2
def f7_land_L274b (k274 : Int32 → Int64 → Int32 → St → Option (St × Int32)) (v5 : Int32) (v6 : Int64) (v8 : Int32) (S : St) : Option (St × Int32) :=
if (S.1 6) ≤ v8 then
(some (S, v5))
else
(if (lg_cmp ((v6 >>> (v8.toInt64 &&& 63)) &&& 1) 1) = 0 then
((f7_give S v8).bind fun S4 =>
k274 v5 v6 (v8 + 1) S4)
else
(k274 v5 v6 (v8 + 1) S))
def f7_land_L274 : Nat → Int32 → Int64 → Int32 → St → Option (St × Int32)
  | 0, _, _, _, _ => none
  | n + 1, v5, v6, v8, S => f7_land_L274b  (f7_land_L274  n) v5 v6 v8 S
def f7_land_L220b (k220 : Int32 → Int32 → Int64 → Int32 → St → Option (St × Int32)) (v4 : Int32) (v5 : Int32) (v6 : Int64) (v8 : Int32) (S : St) : Option (St × Int32) :=
if v8 < 0 then
(f7_land_L274 2000 v5 v6 0 S)
else
((ldA S 9 40 v8).bind fun x6 =>
if x6 = 0 then
((ldA S 14 40 v8).bind fun x8 =>
if x8 = v4 then
((stA S 14 40 v8 v8).bind fun S10 =>
k220 v4 v5 (v6 ||| ((1 : Int64) <<< (v8.toInt64 &&& 63))) (v8 + (-1)) S10)
else
(k220 v4 v5 v6 (v8 + (-1)) S))
else
(k220 v4 v5 v6 (v8 + (-1)) S))
def f7_land_L220 : Nat → Int32 → Int32 → Int64 → Int32 → St → Option (St × Int32)
  | 0, _, _, _, _, _ => none
  | n + 1, v4, v5, v6, v8, S => f7_land_L220b  (f7_land_L220  n) v4 v5 v6 v8 S
def f7_land_J173 (k69 : Int32 → Int32 → Int32 → Int32 → St → Option (St × Int32)) (v2 : Int32) (v4 : Int32) (v5 : Int32) (v6 : Int32) (S : St) : Option (St × Int32) :=
(ldA S 9 40 v6).bind fun x11 =>
if x11 = 0 then
((ldA S 14 40 v6).bind fun x13 =>
if x13 = v4 then
((stZ S 16 40 v6 0).bind fun S15 =>
k69 v2 v4 v5 (v6 + 1) S15)
else
(k69 v2 v4 v5 (v6 + 1) S))
else
(k69 v2 v4 v5 (v6 + 1) S)
def f7_land_J134 (k69 : Int32 → Int32 → Int32 → Int32 → St → Option (St × Int32)) (v2 : Int32) (v4 : Int32) (v5 : Int32) (v6 : Int32) (S : St) : Option (St × Int32) :=
(ldA S 9 40 v6).bind fun x16 =>
if x16 = 0 then
((ldA S 14 40 v6).bind fun x18 =>
if x18 = v4 then
(if v5 = 1 then
((stA S 9 40 v6 2).bind fun S21 =>
k69 v2 v4 v5 (v6 + 1) S21)
else
(f7_land_J173 k69 v2 v4 v5 v6 S))
else
(f7_land_J173 k69 v2 v4 v5 v6 S))
else
(f7_land_J173 k69 v2 v4 v5 v6 S)
def f7_land_L69b (k69 : Int32 → Int32 → Int32 → Int32 → St → Option (St × Int32)) (v2 : Int32) (v4 : Int32) (v5 : Int32) (v6 : Int32) (S : St) : Option (St × Int32) :=
if (S.1 6) ≤ v6 then
(f7_land_L220 2000 v4 v5 0 ((S.1 6) - 1) S)
else
((ldA S 9 40 v6).bind fun x23 =>
if x23 = 0 then
((ldA S 14 40 v6).bind fun x25 =>
if x25 = v4 then
(if v2 = 0 then
(f7_land_J134 k69 v2 v4 v5 v6 S)
else
((ldA S 10 40 v6).bind fun x28 =>
(ldA S 11 40 v6).bind fun x29 =>
(stA S 0 12 x28 x29).bind fun S30 =>
(stA S30 9 40 v6 1).bind fun S31 =>
k69 v2 v4 v5 (v6 + 1) S31))
else
(f7_land_J134 k69 v2 v4 v5 v6 S))
else
(f7_land_J134 k69 v2 v4 v5 v6 S))
def f7_land_L69 : Nat → Int32 → Int32 → Int32 → Int32 → St → Option (St × Int32)
  | 0, _, _, _, _, _ => none
  | n + 1, v2, v4, v5, v6, S => f7_land_L69b  (f7_land_L69  n) v2 v4 v5 v6 S
def f7_land_J42 (v1 : Int32) (v2 : Int32) (t1 : Int32) (S : St) : Option (St × Int32) :=
(f7_refused S t1).bind fun q39 => (fun (S33 : St) (x32 : Int32) =>
if x32 = 0 then
((ldA S33 14 40 v1).bind fun x35 =>
(f7_sizeOf S33 x35).bind fun q38 => (fun (S37 : St) (x36 : Int32) =>
f7_land_L69 2000 v2 x35 x36 0 S37) q38.1 q38.2)
else
(some (S33, 0))) q39.1 q39.2
def f7_land_J37 (v1 : Int32) (v2 : Int32) (S : St) : Option (St × Int32) :=
f7_land_J42 v1 v2 2 S
def f7_land (S : St) (v1 : Int32) (v2 : Int32) : Option (St × Int32) :=
(f7_isRaise S v1).bind fun q50 => (fun (S41 : St) (x40 : Int32) =>
if x40 = 0 then
(f7_land_J42 v1 v2 1 S41)
else
((ldA S41 9 40 v1).bind fun x43 =>
if x43 = 0 then
((ldA S41 14 40 v1).bind fun x45 =>
(f7_landable S41 x45).bind fun q49 => (fun (S47 : St) (x46 : Int32) =>
if x46 = 0 then
(f7_land_J37 v1 v2 S47)
else
(f7_land_J42 v1 v2 0 S47)) q49.1 q49.2)
else
(f7_land_J37 v1 v2 S41))) q50.1 q50.2
def f7_close_J29 (v1 : Int32) (t1 : Int32) (S : St) : Option (St) :=
(f7_refused S t1).bind fun q8 => (fun (S2 : St) (x1 : Int32) =>
if x1 = 0 then
((stA S2 9 40 v1 3).bind fun S4 =>
(ldA S4 14 40 v1).bind fun x5 =>
(f7_settle S4 x5).bind fun S7 =>
some S7)
else
(some S2)) q8.1 q8.2
def f7_close (S : St) (v1 : Int32) : Option (St) :=
(f7_isRaise S v1).bind fun q14 => (fun (S10 : St) (x9 : Int32) =>
if x9 = 0 then
(f7_close_J29 v1 1 S10)
else
((ldA S10 9 40 v1).bind fun x12 =>
if x12 = 0 then
(f7_close_J29 v1 0 S10)
else
(f7_close_J29 v1 2 S10))) q14.1 q14.2
def f7_oldest_L6b (k6 : Int32 → Int32 → Int32 → St → Option (St × Int32)) (v1 : Int32) (v2 : Int32) (v3 : Int32) (S : St) : Option (St × Int32) :=
if (S.1 6) ≤ v3 then
(some (S, v2))
else
((ldA S 9 40 v3).bind fun x2 =>
if x2 = 0 then
((ldA S 14 40 v3).bind fun x4 =>
if x4 = v1 then
((ldA S 13 40 v3).bind fun x6 =>
if v2 ≤ x6 then
(k6 v1 v2 (v3 + 1) S)
else
((ldA S 13 40 v3).bind fun x8 =>
k6 v1 x8 (v3 + 1) S))
else
(k6 v1 v2 (v3 + 1) S))
else
(k6 v1 v2 (v3 + 1) S))
def f7_oldest_L6 : Nat → Int32 → Int32 → Int32 → St → Option (St × Int32)
  | 0, _, _, _, _ => none
  | n + 1, v1, v2, v3, S => f7_oldest_L6b  (f7_oldest_L6  n) v1 v2 v3 S
def f7_oldest (S : St) (v1 : Int32) : Option (St × Int32) :=
f7_oldest_L6 2000 v1 1000 0 S
def f7_wake_L139b (k139 : Int32 → Int32 → Int32 → Int32 → St → Option (St)) (v1 : Int32) (v3 : Int32) (v5 : Int32) (v6 : Int32) (S : St) : Option (St) :=
if (S.1 6) ≤ v6 then
((f7_give S v5).bind fun S3 =>
some S3)
else
((ldA S 9 40 v6).bind fun x4 =>
if x4 = 0 then
((ldA S 14 40 v6).bind fun x6 =>
if x6 = v1 then
((stA S 14 40 v6 v5).bind fun S8 =>
k139 v1 v3 v5 (v6 + 1) S8)
else
((ldA S 14 40 v6).bind fun x9 =>
if x9 = v3 then
((stA S 14 40 v6 v5).bind fun S11 =>
k139 v1 v3 v5 (v6 + 1) S11)
else
((ldA S 14 40 v6).bind fun x12 =>
(stA S 14 40 v6 x12).bind fun S13 =>
k139 v1 v3 v5 (v6 + 1) S13)))
else
((ldA S 14 40 v6).bind fun x14 =>
(stA S 14 40 v6 x14).bind fun S15 =>
k139 v1 v3 v5 (v6 + 1) S15))
def f7_wake_L139 : Nat → Int32 → Int32 → Int32 → Int32 → St → Option (St)
  | 0, _, _, _, _, _ => none
  | n + 1, v1, v3, v5, v6, S => f7_wake_L139b  (f7_wake_L139  n) v1 v3 v5 v6 S
def f7_wake_J96 (k37 : Int32 → Int32 → Int32 → Int32 → St → Option (St)) (v1 : Int32) (v4 : Int32) (v5 : Int32) (v6 : Int32) (t0 : Int32) (S : St) : Option (St) :=
if v4 ≤ v6 then
(k37 v1 t0 v4 (v5 + 1) S)
else
(k37 v1 t0 v6 (v5 + 1) S)
def f7_wake_L37b (k37 : Int32 → Int32 → Int32 → Int32 → St → Option (St)) (v1 : Int32) (v3 : Int32) (v4 : Int32) (v5 : Int32) (S : St) : Option (St) :=
if (S.1 6) ≤ v5 then
(if v3 = ((-1)) then
(some S)
else
(if v1 ≤ v3 then
(f7_wake_L139 2000 v1 v3 v1 0 S)
else
(f7_wake_L139 2000 v1 v3 v3 0 S)))
else
((ldA S 9 40 v5).bind fun x20 =>
if x20 = 0 then
((ldA S 14 40 v5).bind fun x22 =>
if x22 = v5 then
(if v5 = v1 then
(k37 v1 v3 v4 (v5 + 1) S)
else
((f7_failsWith S v1 v5).bind fun q28 => (fun (S26 : St) (x25 : Int32) =>
if v4 ≤ x25 then
(f7_wake_J96 k37 v1 v4 v5 x25 v3 S26)
else
(f7_wake_J96 k37 v1 v4 v5 x25 v5 S26)) q28.1 q28.2))
else
(k37 v1 v3 v4 (v5 + 1) S))
else
(k37 v1 v3 v4 (v5 + 1) S))
def f7_wake_L37 : Nat → Int32 → Int32 → Int32 → Int32 → St → Option (St)
  | 0, _, _, _, _, _ => none
  | n + 1, v1, v3, v4, v5, S => f7_wake_L37b  (f7_wake_L37  n) v1 v3 v4 v5 S
def f7_wake (S : St) (v1 : Int32) : Option (St) :=
(f7_failsWith S v1 v1).bind fun q36 => (fun (S30 : St) (x29 : Int32) =>
if x29 = 0 then
(some S30)
else
((f7_oldest S30 v1).bind fun q35 => (fun (S33 : St) (x32 : Int32) =>
if (S33.1 4) ≤ ((S30.1 1) - x32) then
(f7_wake_L37 2000 v1 ((-1)) x29 0 S33)
else
(some S33)) q35.1 q35.2)) q36.1 q36.2
def f7_pass_L59b (k42 : Int32 → Int32 → St → Option (St × Int32)) (k59 : Int32 → Int32 → Int32 → St → Option (St × Int32)) (v1 : Int32) (v2 : Int32) (v3 : Int32) (S : St) : Option (St × Int32) :=
if (S.1 6) ≤ v3 then
(k42 v1 (v2 + 1) S)
else
((ldA S 9 40 v3).bind fun x2 =>
if x2 = 0 then
((ldA S 14 40 v3).bind fun x4 =>
if x4 = v3 then
((f7_wake S v3).bind fun S7 =>
k59 v1 v2 (v3 + 1) S7)
else
(k59 v1 v2 (v3 + 1) S))
else
(k59 v1 v2 (v3 + 1) S))
def f7_pass_L59 (k42 : Int32 → Int32 → St → Option (St × Int32)) : Nat → Int32 → Int32 → Int32 → St → Option (St × Int32)
  | 0, _, _, _, _ => none
  | n + 1, v1, v2, v3, S => f7_pass_L59b k42 (f7_pass_L59 k42 n) v1 v2 v3 S
def f7_pass_L42b (k42 : Int32 → Int32 → St → Option (St × Int32)) (v1 : Int32) (v2 : Int32) (S : St) : Option (St × Int32) :=
if v1 ≤ v2 then
(some (S, S.1 1))
else
((stF S 1 ((S.1 1) + 1)).bind fun S9 =>
f7_pass_L59 k42 2000 v1 v2 0 S9)
def f7_pass_L42 : Nat → Int32 → Int32 → St → Option (St × Int32)
  | 0, _, _, _ => none
  | n + 1, v1, v2, S => f7_pass_L42b  (f7_pass_L42  n) v1 v2 S
def f7_pass_J32 (v1 : Int32) (t1 : Int32) (S : St) : Option (St × Int32) :=
(f7_refused S t1).bind fun q13 => (fun (S11 : St) (x10 : Int32) =>
if x10 = 0 then
(f7_pass_L42 2000 v1 0 S11)
else
(some (S11, 0))) q13.1 q13.2
def f7_pass (S : St) (v1 : Int32) : Option (St × Int32) :=
(f7_in S v1 1 100).bind fun q18 => (fun (S15 : St) (x14 : Int32) =>
if x14 = 0 then
(f7_pass_J32 v1 1 S15)
else
(if ((S15.1 1) + v1) ≤ 1000 then
(f7_pass_J32 v1 0 S15)
else
(f7_pass_J32 v1 2 S15))) q18.1 q18.2
def f7_day (S : St) : Option (St × Int32) :=
(stF S 0 0).bind fun S1 =>
some (S1, S1.1 1)
def f7_version_J14 (v1 : Int32) (t1 : Int32) (S : St) : Option (St × Int32) :=
(f7_refused S t1).bind fun q5 => (fun (S2 : St) (x1 : Int32) =>
if x1 = 0 then
((ldA S2 0 12 v1).bind fun x4 =>
some (S2, x4))
else
(some (S2, 0))) q5.1 q5.2
def f7_version (S : St) (v1 : Int32) : Option (St × Int32) :=
(f7_isPack S v1).bind fun q9 => (fun (S7 : St) (x6 : Int32) =>
if x6 = 0 then
(f7_version_J14 v1 1 S7)
else
(f7_version_J14 v1 0 S7)) q9.1 q9.2
def f7_raiseOf_J28 (v1 : Int32) (v2 : Int32) (t1 : Int32) (S : St) : Option (St × Int32) :=
(f7_refused S t1).bind fun q19 => (fun (S2 : St) (x1 : Int32) =>
if x1 = 0 then
(if v2 = 0 then
((ldA S2 9 40 v1).bind fun x4 =>
some (S2, x4))
else if v2 = 1 then
((ldA S2 10 40 v1).bind fun x5 =>
some (S2, x5))
else if v2 = 2 then
((ldA S2 11 40 v1).bind fun x6 =>
some (S2, x6))
else if v2 = 3 then
((ldA S2 15 40 v1).bind fun x7 =>
some (S2, x7))
else if v2 = 4 then
((ldA S2 16 40 v1).bind fun x8 =>
if x8 = 0 then
(some (S2, 0))
else
(some (S2, 1)))
else if v2 = 5 then
((ldA S2 9 40 v1).bind fun x10 =>
if x10 = 0 then
((ldA S2 14 40 v1).bind fun x12 =>
some (S2, x12))
else
(some (S2, (-1))))
else ((ldA S2 9 40 v1).bind fun x13 =>
if x13 = 0 then
((ldA S2 14 40 v1).bind fun x15 =>
(f7_sizeOf S2 x15).bind fun q18 => (fun (S17 : St) (x16 : Int32) =>
some (S17, x16)) q18.1 q18.2)
else
(some (S2, 0))))
else
(some (S2, 0))) q19.1 q19.2
def f7_raiseOf (S : St) (v1 : Int32) (v2 : Int32) : Option (St × Int32) :=
(f7_isRaise S v1).bind fun q27 => (fun (S21 : St) (x20 : Int32) =>
if x20 = 0 then
(f7_raiseOf_J28 v1 v2 1 S21)
else
((f7_in S21 v2 0 6).bind fun q26 => (fun (S24 : St) (x23 : Int32) =>
if x23 = 0 then
(f7_raiseOf_J28 v1 v2 2 S24)
else
(f7_raiseOf_J28 v1 v2 0 S24)) q26.1 q26.2)) q27.1 q27.2
def f7_fails_J29 (v1 : Int32) (t1 : Int32) (S : St) : Option (St × Int32) :=
(f7_refused S t1).bind fun q9 => (fun (S2 : St) (x1 : Int32) =>
if x1 = 0 then
((ldA S2 14 40 v1).bind fun x4 =>
(ldA S2 14 40 v1).bind fun x5 =>
(f7_failsWith S2 x4 x5).bind fun q8 => (fun (S7 : St) (x6 : Int32) =>
some (S7, x6)) q8.1 q8.2)
else
(some (S2, 0))) q9.1 q9.2
def f7_fails (S : St) (v1 : Int32) : Option (St × Int32) :=
(f7_isRaise S v1).bind fun q15 => (fun (S11 : St) (x10 : Int32) =>
if x10 = 0 then
(f7_fails_J29 v1 1 S11)
else
((ldA S11 9 40 v1).bind fun x13 =>
if x13 = 0 then
(f7_fails_J29 v1 0 S11)
else
(f7_fails_J29 v1 2 S11))) q15.1 q15.2
def f7_canLand_J29 (v1 : Int32) (t1 : Int32) (S : St) : Option (St × Int32) :=
(f7_refused S t1).bind fun q9 => (fun (S2 : St) (x1 : Int32) =>
if x1 = 0 then
((ldA S2 14 40 v1).bind fun x4 =>
(f7_landable S2 x4).bind fun q8 => (fun (S6 : St) (x5 : Int32) =>
if x5 = 0 then
(some (S6, 0))
else
(some (S6, 1))) q8.1 q8.2)
else
(some (S2, 0))) q9.1 q9.2
def f7_canLand (S : St) (v1 : Int32) : Option (St × Int32) :=
(f7_isRaise S v1).bind fun q15 => (fun (S11 : St) (x10 : Int32) =>
if x10 = 0 then
(f7_canLand_J29 v1 1 S11)
else
((ldA S11 9 40 v1).bind fun x13 =>
if x13 = 0 then
(f7_canLand_J29 v1 0 S11)
else
(f7_canLand_J29 v1 2 S11))) q15.1 q15.2
def f7_load_J13 (v1 : Int32) (t1 : Int32) (S : St) : Option (St × Int32) :=
(f7_refused S t1).bind fun q7 => (fun (S2 : St) (x1 : Int32) =>
if x1 = 0 then
((f7_loadOf S2 v1 ((-1))).bind fun q6 => (fun (S5 : St) (x4 : Int32) =>
some (S5, x4)) q6.1 q6.2)
else
(some (S2, 0))) q7.1 q7.2
def f7_load (S : St) (v1 : Int32) : Option (St × Int32) :=
(f7_isReviewer S v1).bind fun q11 => (fun (S9 : St) (x8 : Int32) =>
if x8 = 0 then
(f7_load_J13 v1 1 S9)
else
(f7_load_J13 v1 0 S9)) q11.1 q11.2
def f7_fewest_L73b (k46 : Int32 → Int32 → Int32 → Int32 → St → Option (St × Int32)) (k73 : Int32 → Int32 → Int32 → Int32 → Int32 → Int32 → Int32 → Int32 → St → Option (St × Int32)) (v1 : Int32) (v3 : Int32) (v4 : Int32) (v5 : Int32) (v6 : Int32) (v7 : Int32) (v8 : Int32) (v9 : Int32) (S : St) : Option (St × Int32) :=
if (S.1 6) ≤ v9 then
(if v8 = 0 then
(k46 v1 v3 v4 (v5 + 1) S)
else
(if v4 ≤ v7 then
(k46 v1 v3 v4 (v5 + 1) S)
else
((f7_failing S).bind fun q7 => (fun (S5 : St) (x4 : Int32) =>
if x4 = 0 then
(k46 v1 v5 v7 (v5 + 1) S5)
else
(k46 v1 v3 v4 (v5 + 1) S5)) q7.1 q7.2)))
else
((ldA S 9 40 v9).bind fun x8 =>
if x8 = 0 then
(if ((v5 >>> (v6 &&& 31)) &&& 1) = 1 then
((ldA S 10 40 v9).bind fun x11 =>
(ldA S 11 40 v9).bind fun x12 =>
(stA S 17 12 x11 x12).bind fun S13 =>
if v8 = 0 then
(if v9 = v1 then
(k73 v1 v3 v4 v5 (v6 + 1) (v7 + 1) 1 (v9 + 1) S13)
else
(k73 v1 v3 v4 v5 (v6 + 1) (v7 + 1) 0 (v9 + 1) S13))
else
(k73 v1 v3 v4 v5 (v6 + 1) (v7 + 1) 1 (v9 + 1) S13))
else
(k73 v1 v3 v4 v5 (v6 + 1) v7 v8 (v9 + 1) S))
else
(k73 v1 v3 v4 v5 v6 v7 v8 (v9 + 1) S))
def f7_fewest_L73 (k46 : Int32 → Int32 → Int32 → Int32 → St → Option (St × Int32)) : Nat → Int32 → Int32 → Int32 → Int32 → Int32 → Int32 → Int32 → Int32 → St → Option (St × Int32)
  | 0, _, _, _, _, _, _, _, _, _ => none
  | n + 1, v1, v3, v4, v5, v6, v7, v8, v9, S => f7_fewest_L73b k46 (f7_fewest_L73 k46 n) v1 v3 v4 v5 v6 v7 v8 v9 S
def f7_fewest_L46b (k46 : Int32 → Int32 → Int32 → Int32 → St → Option (St × Int32)) (v1 : Int32) (v3 : Int32) (v4 : Int32) (v5 : Int32) (S : St) : Option (St × Int32) :=
(f7_open S).bind fun q21 => (fun (S17 : St) (x16 : Int32) =>
if (1 <<< (x16 &&& 31)) ≤ v5 then
(some (S17, v3))
else
((f7_asNow S17).bind fun S20 =>
f7_fewest_L73 k46 2000 v1 v3 v4 v5 0 0 0 0 S20)) q21.1 q21.2
def f7_fewest_L46 : Nat → Int32 → Int32 → Int32 → Int32 → St → Option (St × Int32)
  | 0, _, _, _, _, _ => none
  | n + 1, v1, v3, v4, v5, S => f7_fewest_L46b  (f7_fewest_L46  n) v1 v3 v4 v5 S
def f7_fewest_J29 (v1 : Int32) (t1 : Int32) (S : St) : Option (St × Int32) :=
(f7_refused S t1).bind fun q25 => (fun (S23 : St) (x22 : Int32) =>
if x22 = 0 then
(f7_fewest_L46 2000 v1 ((-1)) 11 1 S23)
else
(some (S23, 0))) q25.1 q25.2
def f7_fewest (S : St) (v1 : Int32) : Option (St × Int32) :=
(f7_isRaise S v1).bind fun q31 => (fun (S27 : St) (x26 : Int32) =>
if x26 = 0 then
(f7_fewest_J29 v1 1 S27)
else
((ldA S27 9 40 v1).bind fun x29 =>
if x29 = 0 then
(f7_fewest_J29 v1 0 S27)
else
(f7_fewest_J29 v1 2 S27))) q31.1 q31.2
def f7_fewestAnew (S : St) (v1 : Int32) : Option (St × Int32) :=
(f7_fewest S v1).bind fun q3 => (fun (S2 : St) (x1 : Int32) =>
some (S2, x1)) q3.1 q3.2
def f7_told_J41 (v1 : Int32) (v2 : Int32) (t1 : Int32) (S : St) : Option (St × Int32) :=
(f7_refused S t1).bind fun q17 => (fun (S2 : St) (x1 : Int32) =>
if x1 = 0 then
(if 3 ≤ v2 then
((ldA S2 14 40 v1).bind fun x5 =>
(f7_sizeOf S2 x5).bind fun q9 => (fun (S7 : St) (x6 : Int32) =>
if (x6 - 1) ≤ (v2 - 3) then
(some (S7, 0))
else
(some (S7, 43))) q9.1 q9.2)
else
(if v2 = 0 then
((ldA S2 10 40 v1).bind fun x11 =>
some (S2, ((65 + x11).toUInt32 % 65536).toInt32))
else
(if v2 = 1 then
((ldA S2 11 40 v1).bind fun x13 =>
(dvI x13 10).bind fun x14 =>
some (S2, ((48 + x14).toUInt32 % 65536).toInt32))
else
((ldA S2 11 40 v1).bind fun x15 =>
(rmI x15 10).bind fun x16 =>
some (S2, ((48 + x16).toUInt32 % 65536).toInt32)))))
else
(some (S2, 0))) q17.1 q17.2
def f7_told_J17 (v1 : Int32) (v2 : Int32) (t0 : Int32) (S : St) : Option (St × Int32) :=
if t0 = 0 then
(f7_told_J41 v1 v2 1 S)
else
((ldA S 9 40 v1).bind fun x19 =>
if x19 = 0 then
(f7_told_J41 v1 v2 0 S)
else
(f7_told_J41 v1 v2 2 S))
def f7_told_J16 (v1 : Int32) (v2 : Int32) (S : St) : Option (St × Int32) :=
f7_told_J17 v1 v2 0 S
def f7_told (S : St) (v1 : Int32) (v2 : Int32) : Option (St × Int32) :=
(f7_isRaise S v1).bind fun q25 => (fun (S22 : St) (x21 : Int32) =>
if x21 = 0 then
(f7_told_J16 v1 v2 S22)
else
(if v2 < 0 then
(f7_told_J16 v1 v2 S22)
else
(f7_told_J17 v1 v2 1 S22))) q25.1 q25.2
def f3_startPlan_L2b (k2 : Int32 → St → Option (St)) (v1 : Int32) (S : St) : Option (St) :=
if (S.1 1) ≤ v1 then
(some S)
else
((ldA S 0 12 v1).bind fun x2 =>
(stA S 1 12 v1 x2).bind fun S3 =>
k2 (v1 + 1) S3)
def f3_startPlan_L2 : Nat → Int32 → St → Option (St)
  | 0, _, _ => none
  | n + 1, v1, S => f3_startPlan_L2b  (f3_startPlan_L2  n) v1 S
def f3_startPlan (S : St) : Option (St) :=
f3_startPlan_L2 2000 0 S
def f4_isIn (S : St) (v1 : Int32) (v2 : Int32) : Option (St × Int32) :=
if ((v2 >>> (v1 &&& 31)) &&& 1) = 0 then
(some (S, 0))
else
(some (S, 1))
def f4_plan_L9b (k9 : Int32 → Int32 → St → Option (St)) (v1 : Int32) (v2 : Int32) (S : St) : Option (St) :=
if (S.1 5) ≤ v2 then
(some S)
else
((f4_isIn S v2 v1).bind fun q10 => (fun (S3 : St) (x2 : Int32) =>
if x2 = 0 then
(k9 v1 (v2 + 1) S3)
else
((ldA S3 17 10 v2).bind fun x5 =>
(ldA S3 9 40 x5).bind fun x6 =>
(ldA S3 17 10 v2).bind fun x7 =>
(ldA S3 10 40 x7).bind fun x8 =>
(stA S3 1 12 x6 x8).bind fun S9 =>
k9 v1 (v2 + 1) S9)) q10.1 q10.2)
def f4_plan_L9 : Nat → Int32 → Int32 → St → Option (St)
  | 0, _, _, _ => none
  | n + 1, v1, v2, S => f4_plan_L9b  (f4_plan_L9  n) v1 v2 S
def f4_plan (S : St) (v1 : Int32) : Option (St) :=
(f3_startPlan S).bind fun S12 =>
f4_plan_L9 2000 v1 0 S12
def f6_isWithin (S : St) (v0 : Int32) (v1 : Int32) (v2 : Int32) : Option (St × Int32) :=
if v0 < v1 then
(some (S, 0))
else
(if v2 < v0 then
(some (S, 0))
else
(some (S, 1)))
def f3_holdsInPlan (S : St) (v1 : Int32) : Option (St × Int32) :=
(ldA S 3 20 v1).bind fun x1 =>
(ldA S 1 12 x1).bind fun x2 =>
(ldA S 2 20 v1).bind fun x3 =>
(ldA S 1 12 x3).bind fun x4 =>
(ldA S 4 20 v1).bind fun x5 =>
(ldA S 5 20 v1).bind fun x6 =>
(f6_isWithin S (x2 - x4) x5 x6).bind fun q9 => (fun (S8 : St) (x7 : Int32) =>
(bzI x7).bind fun w => some (S8, w)) q9.1 q9.2
def f3_firstFailingInPlan_L2b (k2 : Int32 → St → Option (St × Int32)) (v1 : Int32) (S : St) : Option (St × Int32) :=
if (S.1 2) ≤ v1 then
(some (S, (-1)))
else
((f3_holdsInPlan S v1).bind fun q5 => (fun (S3 : St) (x2 : Int32) =>
if x2 = 0 then
(some (S3, v1))
else
(k2 (v1 + 1) S3)) q5.1 q5.2)
def f3_firstFailingInPlan_L2 : Nat → Int32 → St → Option (St × Int32)
  | 0, _, _ => none
  | n + 1, v1, S => f3_firstFailingInPlan_L2b  (f3_firstFailingInPlan_L2  n) v1 S
def f3_firstFailingInPlan (S : St) : Option (St × Int32) :=
f3_firstFailingInPlan_L2 2000 0 S
def f4_firstFailing (S : St) (v1 : Int32) : Option (St × Int32) :=
(f4_plan S v1).bind fun S2 =>
(f3_firstFailingInPlan S2).bind fun q5 => (fun (S4 : St) (x3 : Int32) =>
some (S4, x3)) q5.1 q5.2
def f4_bitOfPackage_L2b (k2 : Int32 → Int32 → St → Option (St × Int32)) (v1 : Int32) (v2 : Int32) (S : St) : Option (St × Int32) :=
if (S.1 5) ≤ v2 then
(some (S, 0))
else
((ldA S 17 10 v2).bind fun x2 =>
(ldA S 9 40 x2).bind fun x3 =>
if x3 = v1 then
(some (S, 1 <<< (v2 &&& 31)))
else
(k2 v1 (v2 + 1) S))
def f4_bitOfPackage_L2 : Nat → Int32 → Int32 → St → Option (St × Int32)
  | 0, _, _, _ => none
  | n + 1, v1, v2, S => f4_bitOfPackage_L2b  (f4_bitOfPackage_L2  n) v1 v2 S
def f4_bitOfPackage (S : St) (v1 : Int32) : Option (St × Int32) :=
f4_bitOfPackage_L2 2000 v1 0 S
def f0_byNeeds_L4b (k4 : Int32 → Int32 → St → Option (St × Int32)) (v2 : Int32) (v3 : Int32) (S : St) : Option (St × Int32) :=
if 10 ≤ v3 then
(some (S, (-1)))
else
((f4_firstFailing S v2).bind fun q14 => (fun (S3 : St) (x2 : Int32) =>
if x2 = ((-1)) then
(some (S3, v2))
else
((ldA S3 2 20 x2).bind fun x5 =>
(f4_bitOfPackage S3 x5).bind fun q13 => (fun (S7 : St) (x6 : Int32) =>
(ldA S7 3 20 x2).bind fun x8 =>
(f4_bitOfPackage S7 x8).bind fun q12 => (fun (S10 : St) (x9 : Int32) =>
if ((x6 ||| x9) ||| v2) = v2 then
(some (S10, (-1)))
else
(k4 (v2 ||| (x6 ||| x9)) (v3 + 1) S10)) q12.1 q12.2) q13.1 q13.2)) q14.1 q14.2)
def f0_byNeeds_L4 : Nat → Int32 → Int32 → St → Option (St × Int32)
  | 0, _, _, _ => none
  | n + 1, v2, v3, S => f0_byNeeds_L4b  (f0_byNeeds_L4  n) v2 v3 S
def f0_byNeeds (S : St) (v1 : Int32) : Option (St × Int32) :=
f0_byNeeds_L4 2000 v1 0 S
def fJ_bitCount_0f7a4 (S : St) (v0 : Int32) : Option (St × Int32) :=
some (S, (((((((v0 - (((v0.toUInt32 >>> ((1 : Int32).toUInt32 &&& Int32.toUInt32 31)).toInt32) &&& 1431655765)) &&& 858993459) + ((((v0 - (((v0.toUInt32 >>> ((1 : Int32).toUInt32 &&& Int32.toUInt32 31)).toInt32) &&& 1431655765)).toUInt32 >>> ((2 : Int32).toUInt32 &&& Int32.toUInt32 31)).toInt32) &&& 858993459)) + (((((v0 - (((v0.toUInt32 >>> ((1 : Int32).toUInt32 &&& Int32.toUInt32 31)).toInt32) &&& 1431655765)) &&& 858993459) + ((((v0 - (((v0.toUInt32 >>> ((1 : Int32).toUInt32 &&& Int32.toUInt32 31)).toInt32) &&& 1431655765)).toUInt32 >>> ((2 : Int32).toUInt32 &&& Int32.toUInt32 31)).toInt32) &&& 858993459)).toUInt32 >>> ((4 : Int32).toUInt32 &&& Int32.toUInt32 31)).toInt32)) &&& 252645135) + (((((((v0 - (((v0.toUInt32 >>> ((1 : Int32).toUInt32 &&& Int32.toUInt32 31)).toInt32) &&& 1431655765)) &&& 858993459) + ((((v0 - (((v0.toUInt32 >>> ((1 : Int32).toUInt32 &&& Int32.toUInt32 31)).toInt32) &&& 1431655765)).toUInt32 >>> ((2 : Int32).toUInt32 &&& Int32.toUInt32 31)).toInt32) &&& 858993459)) + (((((v0 - (((v0.toUInt32 >>> ((1 : Int32).toUInt32 &&& Int32.toUInt32 31)).toInt32) &&& 1431655765)) &&& 858993459) + ((((v0 - (((v0.toUInt32 >>> ((1 : Int32).toUInt32 &&& Int32.toUInt32 31)).toInt32) &&& 1431655765)).toUInt32 >>> ((2 : Int32).toUInt32 &&& Int32.toUInt32 31)).toInt32) &&& 858993459)).toUInt32 >>> ((4 : Int32).toUInt32 &&& Int32.toUInt32 31)).toInt32)) &&& 252645135).toUInt32 >>> ((8 : Int32).toUInt32 &&& Int32.toUInt32 31)).toInt32)) + ((((((((v0 - (((v0.toUInt32 >>> ((1 : Int32).toUInt32 &&& Int32.toUInt32 31)).toInt32) &&& 1431655765)) &&& 858993459) + ((((v0 - (((v0.toUInt32 >>> ((1 : Int32).toUInt32 &&& Int32.toUInt32 31)).toInt32) &&& 1431655765)).toUInt32 >>> ((2 : Int32).toUInt32 &&& Int32.toUInt32 31)).toInt32) &&& 858993459)) + (((((v0 - (((v0.toUInt32 >>> ((1 : Int32).toUInt32 &&& Int32.toUInt32 31)).toInt32) &&& 1431655765)) &&& 858993459) + ((((v0 - (((v0.toUInt32 >>> ((1 : Int32).toUInt32 &&& Int32.toUInt32 31)).toInt32) &&& 1431655765)).toUInt32 >>> ((2 : Int32).toUInt32 &&& Int32.toUInt32 31)).toInt32) &&& 858993459)).toUInt32 >>> ((4 : Int32).toUInt32 &&& Int32.toUInt32 31)).toInt32)) &&& 252645135) + (((((((v0 - (((v0.toUInt32 >>> ((1 : Int32).toUInt32 &&& Int32.toUInt32 31)).toInt32) &&& 1431655765)) &&& 858993459) + ((((v0 - (((v0.toUInt32 >>> ((1 : Int32).toUInt32 &&& Int32.toUInt32 31)).toInt32) &&& 1431655765)).toUInt32 >>> ((2 : Int32).toUInt32 &&& Int32.toUInt32 31)).toInt32) &&& 858993459)) + (((((v0 - (((v0.toUInt32 >>> ((1 : Int32).toUInt32 &&& Int32.toUInt32 31)).toInt32) &&& 1431655765)) &&& 858993459) + ((((v0 - (((v0.toUInt32 >>> ((1 : Int32).toUInt32 &&& Int32.toUInt32 31)).toInt32) &&& 1431655765)).toUInt32 >>> ((2 : Int32).toUInt32 &&& Int32.toUInt32 31)).toInt32) &&& 858993459)).toUInt32 >>> ((4 : Int32).toUInt32 &&& Int32.toUInt32 31)).toInt32)) &&& 252645135).toUInt32 >>> ((8 : Int32).toUInt32 &&& Int32.toUInt32 31)).toInt32)).toUInt32 >>> ((16 : Int32).toUInt32 &&& Int32.toUInt32 31)).toInt32)) &&& 63)
def f3_failingInPlan_L4b (k4 : Int32 → Int32 → St → Option (St × Int32)) (v1 : Int32) (v2 : Int32) (S : St) : Option (St × Int32) :=
if (S.1 2) ≤ v2 then
(some (S, v1))
else
((f3_holdsInPlan S v2).bind fun q5 => (fun (S3 : St) (x2 : Int32) =>
if x2 = 0 then
(k4 (v1 + 1) (v2 + 1) S3)
else
(k4 v1 (v2 + 1) S3)) q5.1 q5.2)
def f3_failingInPlan_L4 : Nat → Int32 → Int32 → St → Option (St × Int32)
  | 0, _, _, _ => none
  | n + 1, v1, v2, S => f3_failingInPlan_L4b  (f3_failingInPlan_L4  n) v1 v2 S
def f3_failingInPlan (S : St) : Option (St × Int32) :=
f3_failingInPlan_L4 2000 0 0 S
def f4_failing (S : St) (v1 : Int32) : Option (St × Int32) :=
(f4_plan S v1).bind fun S2 =>
(f3_failingInPlan S2).bind fun q5 => (fun (S4 : St) (x3 : Int32) =>
some (S4, x3)) q5.1 q5.2
def f0_byAllSets_L8b (k8 : Int32 → Int32 → Int32 → Int32 → St → Option (St × Int32)) (v1 : Int32) (v2 : Int32) (v3 : Int32) (v4 : Int32) (S : St) : Option (St × Int32) :=
if (1 <<< ((S.1 5) &&& 31)) ≤ v4 then
(some (S, v2))
else
(if (v4 &&& v1) = 0 then
(k8 v1 v2 v3 (v4 + 1) S)
else
((fJ_bitCount_0f7a4 S v4).bind fun q13 => (fun (S4 : St) (x3 : Int32) =>
if v3 ≤ x3 then
(k8 v1 v2 v3 (v4 + 1) S4)
else
((f4_failing S4 v4).bind fun q12 => (fun (S7 : St) (x6 : Int32) =>
if x6 = 0 then
((fJ_bitCount_0f7a4 S7 v4).bind fun q11 => (fun (S10 : St) (x9 : Int32) =>
k8 v1 v4 x9 (v4 + 1) S10) q11.1 q11.2)
else
(k8 v1 v2 v3 (v4 + 1) S7)) q12.1 q12.2)) q13.1 q13.2))
def f0_byAllSets_L8 : Nat → Int32 → Int32 → Int32 → Int32 → St → Option (St × Int32)
  | 0, _, _, _, _, _ => none
  | n + 1, v1, v2, v3, v4, S => f0_byAllSets_L8b  (f0_byAllSets_L8  n) v1 v2 v3 v4 S
def f0_byAllSets (S : St) (v1 : Int32) : Option (St × Int32) :=
f0_byAllSets_L8 2000 v1 ((-1)) 11 0 S
def f1_add (S : St) (v1 : Int32) (v2 : Int32) (v3 : Int32) : Option (St × Int32) :=
(stA S 6 10 (S.1 3) v1).bind fun S1 =>
(stA S1 7 10 (S1.1 3) v2).bind fun S2 =>
(stA S2 8 10 (S2.1 3) v3).bind fun S3 =>
(stF S3 3 ((S3.1 3) + 1)).bind fun S4 =>
some (S4, S4.1 3)
def f1_isFrozen_L2b (k2 : Int32 → Int32 → Int32 → St → Option (St × Int32)) (v1 : Int32) (v2 : Int32) (v3 : Int32) (S : St) : Option (St × Int32) :=
if (S.1 3) ≤ v3 then
(some (S, 0))
else
((ldA S 6 10 v3).bind fun x2 =>
if (x2 &&& v1) = 0 then
(k2 v1 v2 (v3 + 1) S)
else
((ldA S 7 10 v3).bind fun x4 =>
(ldA S 8 10 v3).bind fun x5 =>
(f6_isWithin S v2 x4 x5).bind fun q9 => (fun (S7 : St) (x6 : Int32) =>
if x6 = 0 then
(k2 v1 v2 (v3 + 1) S7)
else
(some (S7, 1))) q9.1 q9.2))
def f1_isFrozen_L2 : Nat → Int32 → Int32 → Int32 → St → Option (St × Int32)
  | 0, _, _, _, _ => none
  | n + 1, v1, v2, v3, S => f1_isFrozen_L2b  (f1_isFrozen_L2  n) v1 v2 v3 S
def f1_isFrozen (S : St) (v1 : Int32) (v2 : Int32) : Option (St × Int32) :=
f1_isFrozen_L2 2000 v1 v2 0 S
def f4_groupOf_L4b (k4 : Int32 → Int32 → Int32 → St → Option (St × Int32)) (v1 : Int32) (v2 : Int32) (v3 : Int32) (S : St) : Option (St × Int32) :=
if (S.1 5) ≤ v3 then
(some (S, v2))
else
((ldA S 17 10 v3).bind fun x2 =>
(ldA S 16 40 x2).bind fun x3 =>
(ldA S 16 40 v1).bind fun x4 =>
if x3 = x4 then
(k4 v1 (v2 ||| (1 <<< (v3 &&& 31))) (v3 + 1) S)
else
(k4 v1 v2 (v3 + 1) S))
def f4_groupOf_L4 : Nat → Int32 → Int32 → Int32 → St → Option (St × Int32)
  | 0, _, _, _, _ => none
  | n + 1, v1, v2, v3, S => f4_groupOf_L4b  (f4_groupOf_L4  n) v1 v2 v3 S
def f4_groupOf (S : St) (v1 : Int32) : Option (St × Int32) :=
f4_groupOf_L4 2000 v1 0 0 S
def f2_sleepsTooLong (S : St) (v1 : Int32) (v2 : Int32) : Option (St × Int32) :=
(ldA S 12 40 v1).bind fun x1 =>
if (v2 - x1) < (S.1 6) then
(some (S, 0))
else
((f4_groupOf S v1).bind fun q9 => (fun (S4 : St) (x3 : Int32) =>
(f4_failing S4 x3).bind fun q8 => (fun (S6 : St) (x5 : Int32) =>
if x5 = 0 then
(some (S6, 0))
else
(some (S6, 1))) q8.1 q8.2) q9.1 q9.2)
def f2_bestPartner_L24b (k24 : Int32 → Int32 → Int32 → Int32 → Int32 → St → Option (St × Int32)) (v1 : Int32) (v2 : Int32) (v3 : Int32) (v4 : Int32) (v5 : Int32) (S : St) : Option (St × Int32) :=
if (S.1 4) ≤ v5 then
(some (S, v3))
else
(if v5 = v1 then
(k24 v1 v2 v3 v4 (v5 + 1) S)
else
((ldA S 16 40 v5).bind fun x3 =>
if x3 = v5 then
((f4_groupOf S v5).bind fun q11 => (fun (S6 : St) (x5 : Int32) =>
(f4_failing S6 (v2 ||| x5)).bind fun q10 => (fun (S8 : St) (x7 : Int32) =>
if v4 ≤ x7 then
(k24 v1 v2 v3 v4 (v5 + 1) S8)
else
(k24 v1 v2 v5 x7 (v5 + 1) S8)) q10.1 q10.2) q11.1 q11.2)
else
(k24 v1 v2 v3 v4 (v5 + 1) S)))
def f2_bestPartner_L24 : Nat → Int32 → Int32 → Int32 → Int32 → Int32 → St → Option (St × Int32)
  | 0, _, _, _, _, _, _ => none
  | n + 1, v1, v2, v3, v4, v5, S => f2_bestPartner_L24b  (f2_bestPartner_L24  n) v1 v2 v3 v4 v5 S
def f2_bestPartner (S : St) (v1 : Int32) : Option (St × Int32) :=
(f4_groupOf S v1).bind fun q17 => (fun (S13 : St) (x12 : Int32) =>
(f4_failing S13 x12).bind fun q16 => (fun (S15 : St) (x14 : Int32) =>
f2_bestPartner_L24 2000 v1 x12 ((-1)) x14 0 S15) q16.1 q16.2) q17.1 q17.2
def f4_group_J36 (k4 : Int32 → Int32 → Int32 → St → Option (St)) (v1 : Int32) (v3 : Int32) (t0 : Int32) (S : St) : Option (St) :=
(ldA S 17 10 v3).bind fun x1 =>
(stA S 16 40 x1 t0).bind fun S2 =>
k4 v1 t0 (v3 + 1) S2
def f4_group_L4b (k4 : Int32 → Int32 → Int32 → St → Option (St)) (v1 : Int32) (v2 : Int32) (v3 : Int32) (S : St) : Option (St) :=
if (S.1 5) ≤ v3 then
(some S)
else
((f4_isIn S v3 v1).bind fun q9 => (fun (S5 : St) (x4 : Int32) =>
if x4 = 0 then
(k4 v1 v2 (v3 + 1) S5)
else
(if v2 = ((-1)) then
((ldA S5 17 10 v3).bind fun x8 =>
f4_group_J36 k4 v1 v3 x8 S5)
else
(f4_group_J36 k4 v1 v3 v2 S5))) q9.1 q9.2)
def f4_group_L4 : Nat → Int32 → Int32 → Int32 → St → Option (St)
  | 0, _, _, _, _ => none
  | n + 1, v1, v2, v3, S => f4_group_L4b  (f4_group_L4  n) v1 v2 v3 S
def f4_group (S : St) (v1 : Int32) : Option (St) :=
f4_group_L4 2000 v1 ((-1)) 0 S
def f5_reviewsAnother_L3b (k3 : Int32 → Int32 → Int32 → Int32 → St → Option (St × Int32)) (v1 : Int32) (v2 : Int32) (v3 : Int32) (v4 : Int32) (S : St) : Option (St × Int32) :=
if (S.1 5) ≤ v4 then
(some (S, 0))
else
((ldA S 17 10 v4).bind fun x2 =>
if x2 = v2 then
(k3 v1 v2 v3 (v4 + 1) S)
else
(if v3 ≤ x2 then
(k3 v1 v2 v3 (v4 + 1) S)
else
((ldA S 16 40 x2).bind fun x5 =>
(ldA S 16 40 v2).bind fun x6 =>
if x5 = x6 then
((ldA S 14 40 x2).bind fun x8 =>
if x8 = v1 then
(some (S, 1))
else
(k3 v1 v2 v3 (v4 + 1) S))
else
(k3 v1 v2 v3 (v4 + 1) S))))
def f5_reviewsAnother_L3 : Nat → Int32 → Int32 → Int32 → Int32 → St → Option (St × Int32)
  | 0, _, _, _, _, _ => none
  | n + 1, v1, v2, v3, v4, S => f5_reviewsAnother_L3b  (f5_reviewsAnother_L3  n) v1 v2 v3 v4 S
def f5_reviewsAnother (S : St) (v1 : Int32) (v2 : Int32) (v3 : Int32) : Option (St × Int32) :=
f5_reviewsAnother_L3 2000 v1 v2 v3 0 S
def f5_hasOwnReviewer (S : St) (v1 : Int32) : Option (St × Int32) :=
(ldA S 14 40 v1).bind fun x1 =>
if x1 = ((-1)) then
(some (S, 0))
else
((f5_reviewsAnother S x1 v1 v1).bind fun q6 => (fun (S4 : St) (x3 : Int32) =>
if x3 = 0 then
(some (S4, 1))
else
(some (S4, 0))) q6.1 q6.2)
def f5_loadWithout_L5b (k5 : Int32 → Int32 → Int32 → Int32 → St → Option (St × Int32)) (v1 : Int32) (v2 : Int32) (v3 : Int32) (v4 : Int32) (S : St) : Option (St × Int32) :=
if (S.1 5) ≤ v4 then
(some (S, v3))
else
((ldA S 17 10 v4).bind fun x2 =>
if x2 = v2 then
(k5 v1 v2 v3 (v4 + 1) S)
else
((ldA S 14 40 x2).bind fun x4 =>
if x4 = v1 then
(k5 v1 v2 (v3 + 1) (v4 + 1) S)
else
(k5 v1 v2 v3 (v4 + 1) S)))
def f5_loadWithout_L5 : Nat → Int32 → Int32 → Int32 → Int32 → St → Option (St × Int32)
  | 0, _, _, _, _, _ => none
  | n + 1, v1, v2, v3, v4, S => f5_loadWithout_L5b  (f5_loadWithout_L5  n) v1 v2 v3 v4 S
def f5_loadWithout (S : St) (v1 : Int32) (v2 : Int32) : Option (St × Int32) :=
f5_loadWithout_L5 2000 v1 v2 0 0 S
def f5_bestFor_L8b (k8 : Int32 → Int32 → Int32 → Int32 → St → Option (St × Int32)) (v1 : Int32) (v2 : Int32) (v3 : Int32) (v4 : Int32) (S : St) : Option (St × Int32) :=
if 6 ≤ v4 then
(some (S, v2))
else
((f5_loadWithout S v4 v1).bind fun q12 => (fun (S3 : St) (x2 : Int32) =>
if v3 ≤ x2 then
(k8 v1 v2 v3 (v4 + 1) S3)
else
((ldA S3 18 6 v4).bind fun x5 =>
(ldA S3 11 40 v1).bind fun x6 =>
if x5 < x6 then
(k8 v1 v2 v3 (v4 + 1) S3)
else
((f5_reviewsAnother S3 v4 v1 40).bind fun q11 => (fun (S9 : St) (x8 : Int32) =>
if x8 = 0 then
(k8 v1 v4 x2 (v4 + 1) S9)
else
(k8 v1 v2 v3 (v4 + 1) S9)) q11.1 q11.2))) q12.1 q12.2)
def f5_bestFor_L8 : Nat → Int32 → Int32 → Int32 → Int32 → St → Option (St × Int32)
  | 0, _, _, _, _, _ => none
  | n + 1, v1, v2, v3, v4, S => f5_bestFor_L8b  (f5_bestFor_L8  n) v1 v2 v3 v4 S
def f5_bestFor (S : St) (v1 : Int32) : Option (St × Int32) :=
f5_bestFor_L8 2000 v1 ((-1)) 11 0 S
def f5_give (S : St) (v1 : Int32) (v2 : Int32) : Option (St) :=
(ldA S 14 40 v1).bind fun x1 =>
if x1 = v2 then
(some S)
else
((stA S 14 40 v1 v2).bind fun S3 =>
(stZ S3 15 40 v1 0).bind fun S4 =>
some S4)
def f5_giveAnew_L2b (k2 : Int32 → Int32 → St → Option (St)) (v1 : Int32) (v2 : Int32) (S : St) : Option (St) :=
if (S.1 5) ≤ v2 then
(some S)
else
((ldA S 17 10 v2).bind fun x2 =>
(f4_isIn S v2 v1).bind fun q15 => (fun (S4 : St) (x3 : Int32) =>
if x3 = 0 then
(k2 v1 (v2 + 1) S4)
else
((f5_hasOwnReviewer S4 x2).bind fun q14 => (fun (S7 : St) (x6 : Int32) =>
if x6 = 0 then
((f5_bestFor S7 x2).bind fun q13 => (fun (S10 : St) (x9 : Int32) =>
(f5_give S10 x2 x9).bind fun S12 =>
k2 v1 (v2 + 1) S12) q13.1 q13.2)
else
(k2 v1 (v2 + 1) S7)) q14.1 q14.2)) q15.1 q15.2)
def f5_giveAnew_L2 : Nat → Int32 → Int32 → St → Option (St)
  | 0, _, _, _ => none
  | n + 1, v1, v2, S => f5_giveAnew_L2b  (f5_giveAnew_L2  n) v1 v2 S
def f5_giveAnew (S : St) (v1 : Int32) : Option (St) :=
f5_giveAnew_L2 2000 v1 0 S
def f2_join (S : St) (v1 : Int32) (v2 : Int32) : Option (St) :=
if v2 = ((-1)) then
(some S)
else
((stZ S 19 40 v2 0).bind fun S2 =>
(f4_groupOf S2 v1).bind fun q12 => (fun (S4 : St) (x3 : Int32) =>
(f4_groupOf S4 v2).bind fun q11 => (fun (S6 : St) (x5 : Int32) =>
(f4_group S6 (x3 ||| x5)).bind fun S8 =>
(f5_giveAnew S8 (x3 ||| x5)).bind fun S10 =>
some S10) q11.1 q11.2) q12.1 q12.2)
def f2_joinSleepers_L45b (k45 : Int32 → Int32 → St → Option (St)) (v1 : Int32) (v2 : Int32) (S : St) : Option (St) :=
if (S.1 4) ≤ v2 then
(some S)
else
((ldA S 19 40 v2).bind fun x2 =>
if x2 = 0 then
(k45 v1 (v2 + 1) S)
else
((f2_sleepsTooLong S v2 v1).bind fun q12 => (fun (S5 : St) (x4 : Int32) =>
if x4 = 0 then
(k45 v1 (v2 + 1) S5)
else
((f2_bestPartner S5 v2).bind fun q11 => (fun (S8 : St) (x7 : Int32) =>
(f2_join S8 v2 x7).bind fun S10 =>
k45 v1 (v2 + 1) S10) q11.1 q11.2)) q12.1 q12.2))
def f2_joinSleepers_L45 : Nat → Int32 → Int32 → St → Option (St)
  | 0, _, _, _ => none
  | n + 1, v1, v2, S => f2_joinSleepers_L45b  (f2_joinSleepers_L45  n) v1 v2 S
def f2_joinSleepers_L2b (k2 : Int32 → Int32 → St → Option (St)) (v1 : Int32) (v2 : Int32) (S : St) : Option (St) :=
if (S.1 4) ≤ v2 then
(f2_joinSleepers_L45 2000 v1 0 S)
else
((ldA S 16 40 v2).bind fun x14 =>
if x14 = v2 then
((stZ S 19 40 v2 1).bind fun S16 =>
k2 v1 (v2 + 1) S16)
else
((stZ S 19 40 v2 0).bind fun S17 =>
k2 v1 (v2 + 1) S17))
def f2_joinSleepers_L2 : Nat → Int32 → Int32 → St → Option (St)
  | 0, _, _, _ => none
  | n + 1, v1, v2, S => f2_joinSleepers_L2b  (f2_joinSleepers_L2  n) v1 v2 S
def f2_joinSleepers (S : St) (v1 : Int32) : Option (St) :=
f2_joinSleepers_L2 2000 v1 0 S
def f2_part_L2b (k2 : Int32 → Int32 → St → Option (St)) (v1 : Int32) (v2 : Int32) (S : St) : Option (St) :=
if (S.1 5) ≤ v2 then
((f5_giveAnew S v1).bind fun S3 =>
some S3)
else
((f4_isIn S v2 v1).bind fun q11 => (fun (S5 : St) (x4 : Int32) =>
if x4 = 0 then
(k2 v1 (v2 + 1) S5)
else
((f4_group S5 (1 <<< (v2 &&& 31))).bind fun S8 =>
(ldA S8 17 10 v2).bind fun x9 =>
(stZ S8 15 40 x9 0).bind fun S10 =>
k2 v1 (v2 + 1) S10)) q11.1 q11.2)
def f2_part_L2 : Nat → Int32 → Int32 → St → Option (St)
  | 0, _, _, _ => none
  | n + 1, v1, v2, S => f2_part_L2b  (f2_part_L2  n) v1 v2 S
def f2_part (S : St) (v1 : Int32) : Option (St) :=
f2_part_L2 2000 v1 0 S
def f2_mateOf_L2b (k2 : Int32 → Int32 → St → Option (St × Int32)) (v1 : Int32) (v2 : Int32) (S : St) : Option (St × Int32) :=
if (S.1 5) ≤ v2 then
(some (S, (-1)))
else
((ldA S 17 10 v2).bind fun x2 =>
if x2 = v1 then
(k2 v1 (v2 + 1) S)
else
((ldA S 16 40 x2).bind fun x4 =>
(ldA S 16 40 v1).bind fun x5 =>
if x4 = x5 then
(some (S, x2))
else
(k2 v1 (v2 + 1) S)))
def f2_mateOf_L2 : Nat → Int32 → Int32 → St → Option (St × Int32)
  | 0, _, _, _ => none
  | n + 1, v1, v2, S => f2_mateOf_L2b  (f2_mateOf_L2  n) v1 v2 S
def f2_mateOf (S : St) (v1 : Int32) : Option (St × Int32) :=
f2_mateOf_L2 2000 v1 0 S
def f4_bitOf_L2b (k2 : Int32 → Int32 → St → Option (St × Int32)) (v1 : Int32) (v2 : Int32) (S : St) : Option (St × Int32) :=
if (S.1 5) ≤ v2 then
(some (S, 0))
else
((ldA S 17 10 v2).bind fun x2 =>
if x2 = v1 then
(some (S, 1 <<< (v2 &&& 31)))
else
(k2 v1 (v2 + 1) S))
def f4_bitOf_L2 : Nat → Int32 → Int32 → St → Option (St × Int32)
  | 0, _, _, _ => none
  | n + 1, v1, v2, S => f4_bitOf_L2b  (f4_bitOf_L2  n) v1 v2 S
def f4_bitOf (S : St) (v1 : Int32) : Option (St × Int32) :=
f4_bitOf_L2 2000 v1 0 S
def f4_listOpen_L7b (k7 : Int32 → St → Option (St)) (v1 : Int32) (S : St) : Option (St) :=
if (S.1 4) ≤ v1 then
(some S)
else
((ldA S 13 40 v1).bind fun x2 =>
if x2 = 0 then
(if 10 ≤ (S.1 5) then
(k7 (v1 + 1) S)
else
((stA S 17 10 (S.1 5) v1).bind fun S5 =>
(stF S5 5 ((S5.1 5) + 1)).bind fun S6 =>
k7 (v1 + 1) S6))
else
(k7 (v1 + 1) S))
def f4_listOpen_L7 : Nat → Int32 → St → Option (St)
  | 0, _, _ => none
  | n + 1, v1, S => f4_listOpen_L7b  (f4_listOpen_L7  n) v1 S
def f4_listOpen (S : St) : Option (St) :=
(stF S 5 0).bind fun S7 =>
f4_listOpen_L7 2000 0 S7
def f4_end (S : St) (v1 : Int32) (v2 : Int32) : Option (St) :=
(stA S 13 40 v1 v2).bind fun S1 =>
(stA S1 16 40 v1 ((-1))).bind fun S2 =>
(f4_listOpen S2).bind fun S4 =>
some S4
def f2_leave (S : St) (v1 : Int32) : Option (St) :=
(f2_mateOf S v1).bind fun q19 => (fun (S2 : St) (x1 : Int32) =>
(f4_groupOf S2 v1).bind fun q18 => (fun (S4 : St) (x3 : Int32) =>
(f4_bitOf S4 v1).bind fun q17 => (fun (S6 : St) (x5 : Int32) =>
(f4_group S6 (x3 &&& (x5 ^^^ ((-1))))).bind fun S8 =>
(f4_end S8 v1 3).bind fun S10 =>
if x1 = ((-1)) then
(some S10)
else
((f4_groupOf S10 x1).bind fun q16 => (fun (S13 : St) (x12 : Int32) =>
(f5_giveAnew S13 x12).bind fun S15 =>
some S15) q16.1 q16.2)) q17.1 q17.2) q18.1 q18.2) q19.1 q19.2
def f3_add (S : St) (v1 : Int32) : Option (St × Int32) :=
(stA S 0 12 (S.1 1) v1).bind fun S1 =>
(stF S1 1 ((S1.1 1) + 1)).bind fun S2 =>
some (S2, (S2.1 1) - 1)
def f3_addNeed (S : St) (v1 : Int32) (v2 : Int32) (v3 : Int32) (v4 : Int32) : Option (St × Int32) :=
(stA S 2 20 (S.1 2) v1).bind fun S1 =>
(stA S1 3 20 (S1.1 2) v2).bind fun S2 =>
(stA S2 4 20 (S2.1 2) v3).bind fun S3 =>
(stA S3 5 20 (S3.1 2) v4).bind fun S4 =>
(stF S4 2 ((S4.1 2) + 1)).bind fun S5 =>
some (S5, S5.1 2)
def f4_add (S : St) (v1 : Int32) (v2 : Int32) (v3 : Int32) (v4 : Int32) : Option (St × Int32) :=
(stA S 9 40 (S.1 4) v1).bind fun S1 =>
(stA S1 10 40 (S.1 4) v2).bind fun S2 =>
(stA S2 11 40 (S.1 4) v3).bind fun S3 =>
(stA S3 12 40 (S.1 4) v4).bind fun S4 =>
(stA S4 13 40 (S.1 4) 0).bind fun S5 =>
(stA S5 14 40 (S.1 4) ((-1))).bind fun S6 =>
(stZ S6 15 40 (S.1 4) 0).bind fun S7 =>
(stA S7 16 40 (S.1 4) (S.1 4)).bind fun S8 =>
(stF S8 4 ((S8.1 4) + 1)).bind fun S9 =>
(f4_listOpen S9).bind fun S11 =>
some (S11, S.1 4)
def f4_areApproved_L2b (k2 : Int32 → Int32 → St → Option (St × Int32)) (v1 : Int32) (v2 : Int32) (S : St) : Option (St × Int32) :=
if (S.1 5) ≤ v2 then
(some (S, 1))
else
((f4_isIn S v2 v1).bind fun q8 => (fun (S3 : St) (x2 : Int32) =>
if x2 = 0 then
(k2 v1 (v2 + 1) S3)
else
((ldA S3 17 10 v2).bind fun x5 =>
(ldA S3 15 40 x5).bind fun x6 =>
if x6 = 0 then
(some (S3, 0))
else
(k2 v1 (v2 + 1) S3))) q8.1 q8.2)
def f4_areApproved_L2 : Nat → Int32 → Int32 → St → Option (St × Int32)
  | 0, _, _, _ => none
  | n + 1, v1, v2, S => f4_areApproved_L2b  (f4_areApproved_L2  n) v1 v2 S
def f4_areApproved (S : St) (v1 : Int32) : Option (St × Int32) :=
f4_areApproved_L2 2000 v1 0 S
def f4_packagesOf_L4b (k4 : Int32 → Int32 → Int32 → St → Option (St × Int32)) (v1 : Int32) (v2 : Int32) (v3 : Int32) (S : St) : Option (St × Int32) :=
if (S.1 5) ≤ v3 then
(some (S, v2))
else
((f4_isIn S v3 v1).bind fun q7 => (fun (S3 : St) (x2 : Int32) =>
if x2 = 0 then
(k4 v1 v2 (v3 + 1) S3)
else
((ldA S3 17 10 v3).bind fun x5 =>
(ldA S3 9 40 x5).bind fun x6 =>
k4 v1 (v2 ||| (1 <<< (x6 &&& 31))) (v3 + 1) S3)) q7.1 q7.2)
def f4_packagesOf_L4 : Nat → Int32 → Int32 → Int32 → St → Option (St × Int32)
  | 0, _, _, _, _ => none
  | n + 1, v1, v2, v3, S => f4_packagesOf_L4b  (f4_packagesOf_L4  n) v1 v2 v3 S
def f4_packagesOf (S : St) (v1 : Int32) : Option (St × Int32) :=
f4_packagesOf_L4 2000 v1 0 0 S
def f4_release_L9b (k9 : Int32 → Int32 → St → Option (St)) (v2 : Int32) (v3 : Int32) (S : St) : Option (St) :=
if v3 < 0 then
(some S)
else
((f4_isIn S v3 v2).bind fun q11 => (fun (S3 : St) (x2 : Int32) =>
if x2 = 0 then
(k9 v2 (v3 + (-1)) S3)
else
((ldA S3 17 10 v3).bind fun x5 =>
(ldA S3 9 40 x5).bind fun x6 =>
(ldA S3 10 40 x5).bind fun x7 =>
(stA S3 0 12 x6 x7).bind fun S8 =>
(f4_end S8 x5 1).bind fun S10 =>
k9 v2 (v3 + (-1)) S10)) q11.1 q11.2)
def f4_release_L9 : Nat → Int32 → Int32 → St → Option (St)
  | 0, _, _, _ => none
  | n + 1, v2, v3, S => f4_release_L9b  (f4_release_L9  n) v2 v3 S
def f4_release (S : St) (v1 : Int32) : Option (St) :=
f4_release_L9 2000 v1 ((S.1 5) - 1) S
def f6_day (S : St) : Option (St × Int32) :=
some (S, S.1 0)
def f6_isLandable (S : St) (v1 : Int32) : Option (St × Int32) :=
(f4_failing S v1).bind fun q15 => (fun (S2 : St) (x1 : Int32) =>
if x1 = 0 then
((f4_areApproved S2 v1).bind fun q14 => (fun (S5 : St) (x4 : Int32) =>
if x4 = 0 then
(some (S5, 0))
else
((f4_packagesOf S5 v1).bind fun q13 => (fun (S8 : St) (x7 : Int32) =>
(f1_isFrozen S8 x7 (S8.1 0)).bind fun q12 => (fun (S10 : St) (x9 : Int32) =>
if x9 = 0 then
(some (S10, 1))
else
(some (S10, 0))) q12.1 q12.2) q13.1 q13.2)) q14.1 q14.2)
else
(some (S2, 0))) q15.1 q15.2
