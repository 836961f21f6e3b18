def f_X7_in (x0 : Int64) (x2 : Int64) (x4 : Int64) : Int32 :=
  if (lg_cmp x0 x2) < 0 then (0) else (if 0 < (lg_cmp x0 x4) then (0) else (1))
theorem zb_X7_in (x0 : Int64) (x2 : Int64) (x4 : Int64) : f_X7_in x0 x2 x4 &&& 1 = f_X7_in x0 x2 x4 := by
  unfold f_X7_in; (repeat' split) <;> rfl
def f_X7_has (x0 : Int32) (x1 : Int32) : Int32 :=
  if ((isr x0 x1) &&& 1) = 1 then (1) else (0)
theorem zb_X7_has (x0 : Int32) (x1 : Int32) : f_X7_has x0 x1 &&& 1 = f_X7_has x0 x1 := by
  unfold f_X7_has; (repeat' split) <;> rfl
def f_X7_ones_h4 (x0 : Int32) : Nat → Int32 → Int32 → Option Int32
  | 0, _, _ => none
  | n4 + 1, v1, v2 =>
    if v2 = 0 then (some v1) else (sq (v1 + 1) fun y1 => sq (v2 &&& (v2 - 1)) fun y2 => f_X7_ones_h4 x0 n4 y1 y2)
def f_X7_ones (x0 : Int32) : Option Int32 :=
  f_X7_ones_h4 x0 FU 0 x0
def f_X7_isGrave (σ : St) (x1 : Int32) : Int32 :=
  f_X7_in (x1.toInt64) 0 (((σ.1 0 3) - 1).toInt64)
theorem zb_X7_isGrave (σ : St) (x1 : Int32) : f_X7_isGrave σ x1 &&& 1 = f_X7_isGrave σ x1 := by
  unfold f_X7_isGrave; first | exact zb_X7_in _ _ _ | (repeat' split) <;> rfl
def f_X7_isNews (σ : St) (x1 : Int64) : Int32 :=
  f_X7_in x1 0 (((σ.1 0 8) - 1).toInt64)
theorem zb_X7_isNews (σ : St) (x1 : Int64) : f_X7_isNews σ x1 &&& 1 = f_X7_isNews σ x1 := by
  unfold f_X7_isNews; first | exact zb_X7_in _ _ _ | (repeat' split) <;> rfl
def f_X7_isReader (σ : St) (x1 : Int64) : Int32 :=
  f_X7_in x1 0 (((σ.1 0 10) - 1).toInt64)
theorem zb_X7_isReader (σ : St) (x1 : Int64) : f_X7_isReader σ x1 &&& 1 = f_X7_isReader σ x1 := by
  unfold f_X7_isReader; first | exact zb_X7_in _ _ _ | (repeat' split) <;> rfl
def f_X7_isPlace (x0 : Int64) : Int32 :=
  f_X7_in x0 0 35
theorem zb_X7_isPlace (x0 : Int64) : f_X7_isPlace x0 &&& 1 = f_X7_isPlace x0 := by
  unfold f_X7_isPlace; first | exact zb_X7_in _ _ _ | (repeat' split) <;> rfl
def f_X7_areGraves (σ : St) (x1 : Int32) : Int32 :=
  f_X7_in (x1.toInt64) 0 (((isl 1 (σ.1 0 3)) - 1).toInt64)
theorem zb_X7_areGraves (σ : St) (x1 : Int32) : f_X7_areGraves σ x1 &&& 1 = f_X7_areGraves σ x1 := by
  unfold f_X7_areGraves; first | exact zb_X7_in _ _ _ | (repeat' split) <;> rfl
def f_X7_addGrave (σ : St) (x1 : Int32) (x2 : Int32) (x3 : Int32) : Option St :=
  if (σ.1 0 3) < 0 ∨ 10 ≤ ix (σ.1 0 3) then none else sq (wr σ 1 (ix (σ.1 0 3)) x1) fun s1 => if (s1.1 0 3) < 0 ∨ 10 ≤ ix (s1.1 0 3) then none else sq (wr s1 2 (ix (s1.1 0 3)) x2) fun s2 => if (s2.1 0 3) < 0 ∨ 10 ≤ ix (s2.1 0 3) then none else sq (wr s2 3 (ix (s2.1 0 3)) x3) fun s3 => if (0 + (s3.1 0 3)) < 0 ∨ 141 ≤ ix (0 + (s3.1 0 3)) then none else sq (wr s3 9 (ix (0 + (s3.1 0 3))) 0) fun s4 => if (10 + (s4.1 0 3)) < 0 ∨ 141 ≤ ix (10 + (s4.1 0 3)) then none else sq (wr s4 9 (ix (10 + (s4.1 0 3))) 0) fun s5 => sq (wr s5 0 3 ((s5.1 0 3) + 1)) fun s6 => some s6
def f_X7_grave (σ : St) (x1 : Int32) (x2 : Int32) (x3 : Int32) : Option (Int32 × St) :=
  if (f_X7_in (x1.toInt64) 0 5) = 0 then (some ((-1), σ)) else (if (f_X7_isPlace (x2.toInt64)) = 0 then (some ((-1), σ)) else (if (f_X7_in (x3.toInt64) 0 89) = 0 then (some ((-1), σ)) else (if (σ.1 0 3) = 10 then (some ((-3), σ)) else (bdr (f_X7_addGrave σ x1 x2 x3) fun s2 => some ((s2.1 0 3) - 1, s2)))))
def f_X7_out (σ : St) : Option (Int32 × St) :=
  if (σ.1 0 3) = 0 then (some ((-4), σ)) else (sq (wr σ 0 3 ((σ.1 0 3) - 1)) fun s1 => if (0 + (s1.1 0 3)) < 0 ∨ 141 ≤ ix (0 + (s1.1 0 3)) then none else sq (wr s1 9 (ix (0 + (s1.1 0 3))) 0) fun s2 => if (10 + (s2.1 0 3)) < 0 ∨ 141 ≤ ix (10 + (s2.1 0 3)) then none else sq (wr s2 9 (ix (10 + (s2.1 0 3))) 0) fun s3 => sq (wr s3 0 17 0) fun s4 => some (s4.1 0 3, s4))
def f_X7_reader (σ : St) (x1 : Int32) : Option (Int32 × St) :=
  if (f_X7_in (x1.toInt64) 0 9) = 0 then (some ((-1), σ)) else (if (σ.1 0 10) = 4 then (some ((-3), σ)) else (if (σ.1 0 10) < 0 ∨ 4 ≤ ix (σ.1 0 10) then none else sq (wr σ 7 (ix (σ.1 0 10)) x1) fun s1 => sq (wr s1 0 10 ((s1.1 0 10) + 1)) fun s2 => some ((s2.1 0 10) - 1, s2)))
def f_X7_mayBeAhead_b30 (rec4 : Int32 → Int32 → Option Int32) (σ : St) (x1 : Int32) (v3 : Int32) (t0 : Int32) (t1 : Int32) : Option Int32 :=
  sq (t1 ||| t0) fun y1 => sq (v3 + 1) fun y2 => rec4 y1 y2
def f_X7_mayBeAhead_h4 (σ : St) (x1 : Int32) : Nat → Int32 → Int32 → Option Int32
  | 0, _, _ => none
  | n4 + 1, v2, v3 =>
    if (σ.1 0 8) ≤ v3 then (some v2) else (if v3 < 0 ∨ 12 ≤ ix v3 then none else if x1 < (σ.1 4 (ix v3)) then (f_X7_mayBeAhead_b30 (f_X7_mayBeAhead_h4 σ x1 n4) σ x1 v3 0 v2) else (f_X7_mayBeAhead_b30 (f_X7_mayBeAhead_h4 σ x1 n4) σ x1 v3 (isl 1 v3) v2))
def f_X7_mayBeAhead (σ : St) (x1 : Int32) : Option Int32 :=
  f_X7_mayBeAhead_h4 σ x1 FU 0 0
def f_X7_addNews (σ : St) (x1 : Int32) (x2 : Int32) (x3 : Int32) (x4 : Int32) : Option St :=
  if (σ.1 0 8) < 0 ∨ 12 ≤ ix (σ.1 0 8) then none else sq (wr σ 4 (ix (σ.1 0 8)) x1) fun s1 => if (s1.1 0 8) < 0 ∨ 12 ≤ ix (s1.1 0 8) then none else sq (wr s1 5 (ix (s1.1 0 8)) x2) fun s2 => if (s2.1 0 8) < 0 ∨ 12 ≤ ix (s2.1 0 8) then none else sq (wr s2 6 (ix (s2.1 0 8)) x3) fun s3 => sq (wr s3 0 7 (((s3.1 0 7) &&& ((isl 1 (s3.1 0 8)) ^^^ ((-1)))) ||| (isl x4 (s3.1 0 8)))) fun s4 => sq (wr s4 0 8 ((s4.1 0 8) + 1)) fun s5 => some s5
def f_X7_news (σ : St) (x1 : Int32) (x2 : Int32) (x3 : Int32) : Option (Int32 × St) :=
  if (f_X7_in (x1.toInt64) 0 99) = 0 then (some ((-1), σ)) else (if x2 < 0 then (some ((-1), σ)) else (bdr (f_X7_mayBeAhead σ x1) fun r2 => if (x2 &&& (r2 ^^^ ((-1)))) = 0 then (if (f_X7_in (x3.toInt64) 0 1) = 0 then (some ((-1), σ)) else (if (σ.1 0 8) = 12 then (some ((-3), σ)) else (bdr (f_X7_addNews σ x1 x2 0 x3) fun s4 => some ((s4.1 0 8) - 1, s4)))) else (some ((-1), σ))))
def f_X7_bar (σ : St) (x1 : Int32) (x2 : Int32) : Option (Int32 × St) :=
  if (f_X7_isNews σ (x1.toInt64)) = 0 then (some ((-1), σ)) else (if (f_X7_in (x2.toInt64) 0 1023) = 0 then (some ((-1), σ)) else (if x1 < 0 ∨ 12 ≤ ix x1 then none else sq (σ.1 6 (ix x1)) fun y1 => if x1 < 0 ∨ 12 ≤ ix x1 then none else sq (wr σ 6 (ix x1) x2) fun s2 => some (y1, s2)))
def f_X7_wind (σ : St) (x1 : Int32) : Option (Int32 × St) :=
  if (f_X7_in (x1.toInt64) 0 4) = 0 then (some ((-1), σ)) else (sq (σ.1 0 11) fun y1 => sq (wr σ 0 11 x1) fun s2 => some (y1, s2))
def f_X7_weight (σ : St) (x1 : Int32) (x2 : Int32) : Option (Int32 × St) :=
  if (f_X7_in (x1.toInt64) 0 4) = 0 then (some ((-1), σ)) else (if (f_X7_in (x2.toInt64) 0 9) = 0 then (some ((-1), σ)) else (if x1 < 0 ∨ 5 ≤ ix x1 then none else sq (σ.1 8 (ix x1)) fun y1 => if x1 < 0 ∨ 5 ≤ ix x1 then none else sq (wr σ 8 (ix x1) x2) fun s2 => some (y1, s2)))
def f_X7_now (σ : St) (x1 : Int32) : Option (Int32 × St) :=
  if (f_X7_in (x1.toInt64) 0 99) = 0 then (some ((-1), σ)) else (sq (σ.1 0 13) fun y1 => sq (wr σ 0 13 x1) fun s2 => some (y1, s2))
def f_X7_off (x0 : Int32) (x1 : Int32) : Int32 :=
  if x0 ≤ x1 then (x1 - x0) else (x0 - x1)
def f_X7_sign (x0 : Int32) : Int32 :=
  if x0 ≤ 0 then (if 0 ≤ x0 then (0) else ((-1))) else (1)
def f_X7_far_b74 (x0 : Int32) (x1 : Int32) (x2 : Int32) (v3 : Int32) (v4 : Int32) (t0 : Int32) : Int32 :=
  ((f_X7_off v3 0) + (f_X7_off v4 0)) - t0
def f_X7_far (x0 : Int32) (x1 : Int32) (x2 : Int32) : Int32 :=
  sq ((x1 / 6) - (x0 / 6)) fun y1 => sq ((irm x1 6) - (irm x0 6)) fun y2 => if x2 = 1 then (f_X7_far_b74 x0 x1 x2 y1 y2 (-(f_X7_sign y1))) else (if x2 = 2 then (f_X7_far_b74 x0 x1 x2 y1 y2 (f_X7_sign y2)) else (if x2 = 3 then (f_X7_far_b74 x0 x1 x2 y1 y2 (f_X7_sign y1)) else (if x2 = 4 then (f_X7_far_b74 x0 x1 x2 y1 y2 (-(f_X7_sign y2))) else (f_X7_far_b74 x0 x1 x2 y1 y2 0))))
def f_X7_hearsOne_b47 (σ : St) (x1 : Int32) (x2 : Int32) (x3 : Int32) (x4 : Int32) (v6 : Int32) : Option Int32 :=
  if v6 < 0 then (some 0) else (if x1 < 0 ∨ 10 ≤ ix x1 then none else if v6 < (f_X7_far x3 (σ.1 2 (ix x1)) x4) then (some 0) else (some 1))
def f_X7_hearsOne_b27 (σ : St) (x1 : Int32) (x2 : Int32) (x3 : Int32) (x4 : Int32) (v5 : Int32) (t0 : Int32) : Option Int32 :=
  if v5 = 3 then (some 0) else (if v5 = 4 then (if x4 = 3 then (some 0) else (f_X7_hearsOne_b47 σ x1 x2 x3 x4 t0)) else (f_X7_hearsOne_b47 σ x1 x2 x3 x4 t0))
def f_X7_hearsOne_b20 (σ : St) (x1 : Int32) (x2 : Int32) (x3 : Int32) (x4 : Int32) (v5 : Int32) : Option Int32 :=
  f_X7_hearsOne_b27 σ x1 x2 x3 x4 v5 (x2 - 1)
def f_X7_hearsOne (σ : St) (x1 : Int32) (x2 : Int32) (x3 : Int32) (x4 : Int32) : Option Int32 :=
  if x1 < 0 ∨ 10 ≤ ix x1 then none else sq (σ.1 1 (ix x1)) fun y1 => if y1 = 1 then (f_X7_hearsOne_b20 σ x1 x2 x3 x4 y1) else (if y1 = 4 then (f_X7_hearsOne_b20 σ x1 x2 x3 x4 y1) else (f_X7_hearsOne_b27 σ x1 x2 x3 x4 y1 x2))
def f_X7_hearers_b42 (rec6 : Int32 → Int32 → Option Int32) (σ : St) (x1 : Int32) (x2 : Int32) (x3 : Int32) (v5 : Int32) (t0 : Int32) (t1 : Int32) : Option Int32 :=
  sq (t1 ||| t0) fun y3 => sq (v5 + 1) fun y4 => rec6 y3 y4
def f_X7_hearers_h6 (σ : St) (x1 : Int32) (x2 : Int32) (x3 : Int32) : Nat → Int32 → Int32 → Option Int32
  | 0, _, _ => none
  | n6 + 1, v4, v5 =>
    if (σ.1 0 3) ≤ v5 then (some v4) else (if x1 < 0 ∨ 4 ≤ ix x1 then none else bdr (f_X7_hearsOne σ v5 (σ.1 7 (ix x1)) x2 x3) fun r2 => if r2 = 0 then (f_X7_hearers_b42 (f_X7_hearers_h6 σ x1 x2 x3 n6) σ x1 x2 x3 v5 0 v4) else (f_X7_hearers_b42 (f_X7_hearers_h6 σ x1 x2 x3 n6) σ x1 x2 x3 v5 (isl 1 v5) v4))
def f_X7_hearers (σ : St) (x1 : Int32) (x2 : Int32) (x3 : Int32) : Option Int32 :=
  f_X7_hearers_h6 σ x1 x2 x3 FU 0 0
def f_X7_isOwed_b143 (σ : St) (x1 : Int32) (x2 : Int32) (t0 : Int32) : Option Int32 :=
  if t0 = 0 then (some 0) else (if x2 < 0 ∨ 12 ≤ ix x2 then none else if (f_X7_has (σ.1 6 (ix x2)) x1) = 0 then (some 1) else (some 0))
def f_X7_isOwed_b32 (σ : St) (x1 : Int32) (x2 : Int32) (v3 : Int32) (v4 : Int32) (t0 : Int32) : Option Int32 :=
  sq (f_X7_in (v4.toInt64) 0 8) fun y3 => if v3 = 3 then (f_X7_isOwed_b143 σ x1 x2 0) else (if v3 = 2 then (if y3 = 0 then (f_X7_isOwed_b143 σ x1 x2 0) else (if (f_X7_has (σ.1 0 7) x2) = 0 then (f_X7_isOwed_b143 σ x1 x2 0) else (f_X7_isOwed_b143 σ x1 x2 1))) else (if v3 = 5 then (if t0 = 0 then (if y3 = 0 then (f_X7_isOwed_b143 σ x1 x2 0) else (if (f_X7_has (σ.1 0 7) x2) = 0 then (f_X7_isOwed_b143 σ x1 x2 0) else (f_X7_isOwed_b143 σ x1 x2 1))) else (f_X7_isOwed_b143 σ x1 x2 1)) else (if v3 = 4 then (if y3 = 0 then (f_X7_isOwed_b143 σ x1 x2 0) else (if t0 = 0 then (f_X7_isOwed_b143 σ x1 x2 1) else (f_X7_isOwed_b143 σ x1 x2 0))) else (f_X7_isOwed_b143 σ x1 x2 y3))))
def f_X7_isOwed (σ : St) (x1 : Int32) (x2 : Int32) : Option Int32 :=
  if x1 < 0 ∨ 10 ≤ ix x1 then none else sq (σ.1 1 (ix x1)) fun y1 => if x2 < 0 ∨ 12 ≤ ix x2 then none else if x1 < 0 ∨ 10 ≤ ix x1 then none else sq ((σ.1 4 (ix x2)) - (σ.1 3 (ix x1))) fun y2 => if y2 = 0 then (f_X7_isOwed_b32 σ x1 x2 y1 y2 1) else (f_X7_isOwed_b32 σ x1 x2 y1 y2 0)
def f_X7_owedTo_b29 (rec4 : Int32 → Int32 → Option Int32) (σ : St) (x1 : Int32) (v3 : Int32) (t0 : Int32) (t1 : Int32) : Option Int32 :=
  sq (t1 ||| t0) fun y3 => sq (v3 + 1) fun y4 => rec4 y3 y4
def f_X7_owedTo_h4 (σ : St) (x1 : Int32) : Nat → Int32 → Int32 → Option Int32
  | 0, _, _ => none
  | n4 + 1, v2, v3 =>
    if (σ.1 0 8) ≤ v3 then (some v2) else (bdr (f_X7_isOwed σ x1 v3) fun r2 => if r2 = 0 then (f_X7_owedTo_b29 (f_X7_owedTo_h4 σ x1 n4) σ x1 v3 0 v2) else (f_X7_owedTo_b29 (f_X7_owedTo_h4 σ x1 n4) σ x1 v3 (isl 1 v3) v2))
def f_X7_owedTo (σ : St) (x1 : Int32) : Option Int32 :=
  f_X7_owedTo_h4 σ x1 FU 0 0
def f_X7_arrears (σ : St) (x1 : Int32) : Option Int32 :=
  bdr (f_X7_owedTo σ x1) fun r2 => if (0 + x1) < 0 ∨ 141 ≤ ix (0 + x1) then none else some (r2 &&& ((σ.1 9 (ix (0 + x1))) ^^^ ((-1))))
def f_X7_isLate_b48 (rec4 : Int32 → Int32 → Option Int32) (σ : St) (x1 : Int32) (v3 : Int32) : Option Int32 :=
  sq (v3 + 1) fun y3 => rec4 0 y3
def f_X7_isLate_b44 (rec4 : Int32 → Int32 → Option Int32) (σ : St) (x1 : Int32) (v3 : Int32) : Option Int32 :=
  sq (v3 + 1) fun y4 => rec4 1 y4
def f_X7_isLate_h4 (σ : St) (x1 : Int32) : Nat → Int32 → Int32 → Option Int32
  | 0, _, _ => none
  | n4 + 1, v2, v3 =>
    if (σ.1 0 8) ≤ v3 then (if ¬ v2 &&& 1 = v2 then none else some v2) else (if v2 = 0 then (bdr (f_X7_arrears σ x1) fun r2 => if (f_X7_has r2 v3) = 0 then (f_X7_isLate_b48 (f_X7_isLate_h4 σ x1 n4) σ x1 v3) else (if v3 < 0 ∨ 12 ≤ ix v3 then none else if (σ.1 0 13) < ((σ.1 4 (ix v3)) + 9) then (f_X7_isLate_b48 (f_X7_isLate_h4 σ x1 n4) σ x1 v3) else (f_X7_isLate_b44 (f_X7_isLate_h4 σ x1 n4) σ x1 v3))) else (f_X7_isLate_b44 (f_X7_isLate_h4 σ x1 n4) σ x1 v3))
def f_X7_isLate (σ : St) (x1 : Int32) : Option Int32 :=
  f_X7_isLate_h4 σ x1 FU 0 0
def f_X7_told (σ : St) (x1 : Int32) (x2 : Int32) : Option Int32 :=
  if (f_X7_isGrave σ x1) = 0 then (some ((-1))) else (if x2 = 0 then (if x1 < 0 ∨ 10 ≤ ix x1 then none else some (σ.1 1 (ix x1))) else if x2 = 1 then (if x1 < 0 ∨ 10 ≤ ix x1 then none else some (σ.1 2 (ix x1))) else if x2 = 2 then (if x1 < 0 ∨ 10 ≤ ix x1 then none else some (σ.1 3 (ix x1))) else if x2 = 3 then (if (0 + x1) < 0 ∨ 141 ≤ ix (0 + x1) then none else some (σ.1 9 (ix (0 + x1)))) else if x2 = 4 then (bdr (f_X7_owedTo σ x1) fun r2 => some r2) else if x2 = 5 then (bdr (f_X7_arrears σ x1) fun r4 => some r4) else if x2 = 6 then (if (10 + x1) < 0 ∨ 141 ≤ ix (10 + x1) then none else some (σ.1 9 (ix (10 + x1)))) else if x2 = 7 then (bdr (f_X7_isLate σ x1) fun r6 => if r6 = 0 then (some 0) else (some 1)) else (some ((-1))))
def f_X7_of_b136 (rec83 : Int32 → Int32 → Option Int32) (σ : St) (x1 : Int32) (x2 : Int32) (v4 : Int32) (t0 : Int32) (t1 : Int32) : Option Int32 :=
  sq (t1 ||| t0) fun y3 => sq (v4 + 1) fun y4 => rec83 y3 y4
def f_X7_of_b120 (rec83 : Int32 → Int32 → Option Int32) (σ : St) (x1 : Int32) (x2 : Int32) (v3 : Int32) (v4 : Int32) (t0 : Int32) : Option Int32 :=
  if t0 = 0 then (f_X7_of_b136 rec83 σ x1 x2 v4 0 v3) else (f_X7_of_b136 rec83 σ x1 x2 v4 (isl 1 v4) v3)
def f_X7_of_h83 (σ : St) (x1 : Int32) (x2 : Int32) : Nat → Int32 → Int32 → Option Int32
  | 0, _, _ => none
  | n83 + 1, v3, v4 =>
    if (σ.1 0 3) ≤ v4 then (some v3) else (if x2 = 4 then (bdr (f_X7_isOwed σ v4 x1) fun r2 => f_X7_of_b120 (f_X7_of_h83 σ x1 x2 n83) σ x1 x2 v3 v4 r2) else (if (0 + v4) < 0 ∨ 141 ≤ ix (0 + v4) then none else f_X7_of_b120 (f_X7_of_h83 σ x1 x2 n83) σ x1 x2 v3 v4 (f_X7_has (σ.1 9 (ix (0 + v4))) x1)))
def f_X7_of (σ : St) (x1 : Int32) (x2 : Int32) : Option Int32 :=
  if (f_X7_isNews σ (x1.toInt64)) = 0 then (some ((-1))) else (if (f_X7_in (x2.toInt64) 0 5) = 0 then (some ((-1))) else (if 4 ≤ x2 then (f_X7_of_h83 σ x1 x2 FU 0 0) else (if x2 = 0 then (if x1 < 0 ∨ 12 ≤ ix x1 then none else some (σ.1 4 (ix x1))) else (if x2 = 1 then (if x1 < 0 ∨ 12 ≤ ix x1 then none else some (σ.1 5 (ix x1))) else (if x2 = 2 then (if x1 < 0 ∨ 12 ≤ ix x1 then none else some (σ.1 6 (ix x1))) else (some ((isr (σ.1 0 7) x1) &&& 1)))))))
def f_X7_type (σ : St) (x1 : Int32) : Option (Int32 × St) :=
  if (f_X7_in (x1.toInt64) 32 126) = 0 then (some ((-1), σ)) else (if (σ.1 0 19) = 160 then (some ((-3), σ)) else (if (σ.1 0 19) < 0 ∨ 160 ≤ ix (σ.1 0 19) then none else sq (wr σ 11 (ix (σ.1 0 19)) x1) fun s1 => sq (wr s1 0 19 ((s1.1 0 19) + 1)) fun s2 => some (s2.1 0 19, s2)))
def f_X7_nextLetter_b38 (σ38 : St) : Option (Int32 × St) :=
  if (σ38.1 0 19) ≤ (σ38.1 0 20) then (some ((-1), σ38)) else (if (σ38.1 0 20) < 0 ∨ 160 ≤ ix (σ38.1 0 20) then none else some (σ38.1 11 (ix (σ38.1 0 20)), σ38))
def f_X7_nextLetter_h0 : Nat → St → Option (Int32 × St)
  | 0, _ => none
  | n0 + 1, σ0 =>
    if (σ0.1 0 19) ≤ (σ0.1 0 20) then (f_X7_nextLetter_b38 σ0) else (if (σ0.1 0 20) < 0 ∨ 160 ≤ ix (σ0.1 0 20) then none else if (σ0.1 11 (ix (σ0.1 0 20))) = 32 then (sq (wr σ0 0 20 ((σ0.1 0 20) + 1)) fun s1 => f_X7_nextLetter_h0 n0 s1) else (f_X7_nextLetter_b38 σ0))
def f_X7_nextLetter (σ : St) : Option (Int32 × St) :=
  f_X7_nextLetter_h0 FU σ
def f_X7_takes_b13 (x1 : Int32) (t0 : Int32) (σ13 : St) : Option (Int32 × St) :=
  if t0 = 0 then (sq (wr σ13 0 20 ((σ13.1 0 20) + 0)) fun s4 => if ¬ t0 &&& 1 = t0 then none else some (t0, s4)) else (sq (wr σ13 0 20 ((σ13.1 0 20) + 1)) fun s5 => if ¬ t0 &&& 1 = t0 then none else some (t0, s5))
def f_X7_takes (σ : St) (x1 : Int32) : Option (Int32 × St) :=
  bdp (f_X7_nextLetter σ) fun r2 s3 => if r2 = x1 then (f_X7_takes_b13 x1 1 s3) else (f_X7_takes_b13 x1 0 s3)
def f_X7_readFigure (σ : St) (x1 : Int32) : Option (Int32 × St) :=
  bdp (f_X7_nextLetter σ) fun r2 s3 => sq (r2 - 48) fun y4 => if (f_X7_in (y4.toInt64) 0 (x1.toInt64)) = 0 then (some ((-1), s3)) else (sq (wr s3 0 20 ((s3.1 0 20) + 1)) fun s5 => some (y4, s5))
def f_X7_readNumber_b73 (rec12 : Int32 → Int32 → St → Option (Int32 × St)) (x1 : Int32) (v2 : Int32) (t0 : Int32) (σ73 : St) : Option (Int32 × St) :=
  sq (wr σ73 0 20 ((σ73.1 0 20) + 1)) fun s5 => rec12 v2 t0 s5
def f_X7_readNumber_b100 (x1 : Int32) (v2 : Int32) (σ100 : St) : Option (Int32 × St) :=
  sq (wr σ100 0 20 v2) fun s6 => some ((-1), s6)
def f_X7_readNumber_b87 (x1 : Int32) (v2 : Int32) (v3 : Int32) (σ87 : St) : Option (Int32 × St) :=
  if (σ87.1 0 20) = v2 then (f_X7_readNumber_b100 x1 v2 σ87) else (if v3 ≤ x1 then (some (v3, σ87)) else (f_X7_readNumber_b100 x1 v2 σ87))
def f_X7_readNumber_h12 (x1 : Int32) : Nat → Int32 → Int32 → St → Option (Int32 × St)
  | 0, _, _, _ => none
  | n12 + 1, v2, v3, σ12 =>
    if (σ12.1 0 19) ≤ (σ12.1 0 20) then (f_X7_readNumber_b87 x1 v2 v3 σ12) else (if (σ12.1 0 20) < 0 ∨ 160 ≤ ix (σ12.1 0 20) then none else if (f_X7_in ((σ12.1 11 (ix (σ12.1 0 20))).toInt64) 48 57) = 0 then (f_X7_readNumber_b87 x1 v2 v3 σ12) else (if v3 ≤ 9999 then (if (σ12.1 0 20) < 0 ∨ 160 ≤ ix (σ12.1 0 20) then none else f_X7_readNumber_b73 (f_X7_readNumber_h12 x1 n12) x1 v2 (((10 * v3) + (σ12.1 11 (ix (σ12.1 0 20)))) - 48) σ12) else (f_X7_readNumber_b73 (f_X7_readNumber_h12 x1 n12) x1 v2 v3 σ12)))
def f_X7_readNumber (σ : St) (x1 : Int32) : Option (Int32 × St) :=
  bdp (f_X7_nextLetter σ) fun r2 s3 => sq (s3.1 0 20) fun y4 => f_X7_readNumber_h12 x1 FU y4 0 s3
def f_X7_end_b9 (x1 : Int32) (σ9 : St) : Option (Int32 × St) :=
  sq (wr σ9 0 19 0) fun s4 => if x1 = 0 then (some (((-20)) - (s4.1 0 20), s4)) else (some (0, s4))
def f_X7_end (σ : St) (x1 : Int32) : Option (Int32 × St) :=
  if x1 = 0 then (bdp (f_X7_nextLetter σ) fun r2 s3 => f_X7_end_b9 x1 s3) else (f_X7_end_b9 x1 σ)
def f_X7_kindOf (x0 : Int32) : Int32 :=
  if x0 = 112 then (0) else (if x0 = 100 then (1) else (if x0 = 105 then (2) else (if x0 = 101 then (3) else (if x0 = 102 then (4) else (if x0 = 110 then (5) else ((-1)))))))
def f_X7_readGrave (σ : St) (x1 : Int32) : Option (Int32 × St) :=
  bdp (f_X7_nextLetter σ) fun r2 s3 => if x1 < 0 ∨ 128 ≤ ix x1 then none else sq (wr s3 12 (ix x1) (f_X7_kindOf r2)) fun s4 => if x1 < 0 ∨ 128 ≤ ix x1 then none else if 0 ≤ (s4.1 12 (ix x1)) then (sq (wr s4 0 20 ((s4.1 0 20) + 1)) fun s5 => bdp (f_X7_readFigure s5 5) fun r7 s8 => if 0 ≤ r7 then (bdp (f_X7_readFigure s8 5) fun r10 s11 => if r10 < 0 then (some (0, s11)) else (bdp (f_X7_takes s11 64) fun r13 s14 => if r13 = 0 then (some (0, s14)) else (if (x1 + 1) < 0 ∨ 128 ≤ ix (x1 + 1) then none else sq (wr s14 12 (ix (x1 + 1)) ((6 * r7) + r10)) fun s15 => bdp (f_X7_readNumber s15 89) fun r17 s18 => if (x1 + 2) < 0 ∨ 128 ≤ ix (x1 + 2) then none else sq (wr s18 12 (ix (x1 + 2)) r17) fun s19 => if (x1 + 2) < 0 ∨ 128 ≤ ix (x1 + 2) then none else if (s19.1 12 (ix (x1 + 2))) < 0 then (some (0, s19)) else (some (1, s19))))) else (some (0, s8))) else (some (0, s4))
def f_X7_readAhead_b23 (rec2 : Int32 → St → Option (Int32 × St)) (x1 : Int32) (x2 : Int32) (v3 : Int32) (σ23 : St) : Option (Int32 × St) :=
  bdp (f_X7_nextLetter σ23) fun r5 s6 => sq (r5 - 97) fun y7 => if (f_X7_in (y7.toInt64) 0 ((x1 - 1).toInt64)) = 0 then (some ((-1), s6)) else (if (4 * y7) < 0 ∨ 128 ≤ ix (4 * y7) then none else if x2 < (s6.1 12 (ix (4 * y7))) then (some ((-1), s6)) else (if (f_X7_has v3 y7) = 0 then (sq (v3 ||| (isl 1 y7)) fun y8 => sq (wr s6 0 20 ((s6.1 0 20) + 1)) fun s9 => rec2 y8 s9) else (some ((-1), s6))))
def f_X7_readAhead_h2 (x1 : Int32) (x2 : Int32) : Nat → Int32 → St → Option (Int32 × St)
  | 0, _, _ => none
  | n2 + 1, v3, σ2 =>
    if v3 = 0 then (f_X7_readAhead_b23 (f_X7_readAhead_h2 x1 x2 n2) x1 x2 v3 σ2) else (bdp (f_X7_nextLetter σ2) fun r2 s3 => if (f_X7_in (r2.toInt64) 97 122) = 0 then (some (v3, s3)) else (f_X7_readAhead_b23 (f_X7_readAhead_h2 x1 x2 n2) x1 x2 v3 s3))
def f_X7_readAhead (σ : St) (x1 : Int32) (x2 : Int32) : Option (Int32 × St) :=
  f_X7_readAhead_h2 x1 x2 FU 0 σ
def f_X7_readBarred_b23 (rec2 : Int32 → St → Option (Int32 × St)) (v1 : Int32) (σ23 : St) : Option (Int32 × St) :=
  bdp (f_X7_nextLetter σ23) fun r5 s6 => sq (r5 - 48) fun y7 => if (f_X7_in (y7.toInt64) 0 9) = 0 then (some ((-1), s6)) else (if (f_X7_has v1 y7) = 0 then (sq (v1 ||| (isl 1 y7)) fun y8 => sq (wr s6 0 20 ((s6.1 0 20) + 1)) fun s9 => rec2 y8 s9) else (some ((-1), s6)))
def f_X7_readBarred_h2 : Nat → Int32 → St → Option (Int32 × St)
  | 0, _, _ => none
  | n2 + 1, v1, σ2 =>
    if v1 = 0 then (f_X7_readBarred_b23 (f_X7_readBarred_h2 n2) v1 σ2) else (bdp (f_X7_nextLetter σ2) fun r2 s3 => if (f_X7_in (r2.toInt64) 48 57) = 0 then (some (v1, s3)) else (f_X7_readBarred_b23 (f_X7_readBarred_h2 n2) v1 s3))
def f_X7_readBarred (σ : St) : Option (Int32 × St) :=
  f_X7_readBarred_h2 FU 0 σ
def f_X7_readNews_b118 (x1 : Int32) (v2 : Int32) (t0 : Int32) (t1 : Int32) (σ118 : St) : Option (Int32 × St) :=
  if t1 < 0 ∨ 128 ≤ ix t1 then none else sq (wr σ118 12 (ix t1) t0) fun s23 => if (v2 + 2) < 0 ∨ 128 ≤ ix (v2 + 2) then none else if (s23.1 12 (ix (v2 + 2))) < 0 then (some (0, s23)) else (some (1, s23))
def f_X7_readNews_b80 (x1 : Int32) (v2 : Int32) (t0 : Int32) (t1 : Int32) (σ80 : St) : Option (Int32 × St) :=
  if t1 < 0 ∨ 128 ≤ ix t1 then none else sq (wr σ80 12 (ix t1) t0) fun s16 => if (v2 + 1) < 0 ∨ 128 ≤ ix (v2 + 1) then none else if 0 ≤ (s16.1 12 (ix (v2 + 1))) then (bdp (f_X7_takes s16 33) fun r18 s19 => if r18 = 0 then (f_X7_readNews_b118 x1 v2 0 (v2 + 2) s19) else (bdp (f_X7_readBarred s19) fun r21 s22 => f_X7_readNews_b118 x1 v2 r21 (v2 + 2) s22)) else (some (0, s16))
def f_X7_readNews_b48 (x1 : Int32) (v2 : Int32) (t0 : Int32) (t1 : Int32) (σ48 : St) : Option (Int32 × St) :=
  if t1 < 0 ∨ 128 ≤ ix t1 then none else sq (wr σ48 12 (ix t1) t0) fun s9 => bdp (f_X7_takes s9 60) fun r11 s12 => if r11 = 0 then (f_X7_readNews_b80 x1 v2 0 (v2 + 1) s12) else (if v2 < 0 ∨ 128 ≤ ix v2 then none else bdp (f_X7_readAhead s12 x1 (s12.1 12 (ix v2))) fun r14 s15 => f_X7_readNews_b80 x1 v2 r14 (v2 + 1) s15)
def f_X7_readNews (σ : St) (x1 : Int32) : Option (Int32 × St) :=
  sq (4 * x1) fun y1 => bdp (f_X7_readNumber σ 99) fun r3 s4 => if y1 < 0 ∨ 128 ≤ ix y1 then none else sq (wr s4 12 (ix y1) r3) fun s5 => if y1 < 0 ∨ 128 ≤ ix y1 then none else if 0 ≤ (s5.1 12 (ix y1)) then (bdp (f_X7_takes s5 115) fun r7 s8 => if r7 = 0 then (f_X7_readNews_b48 x1 y1 0 (y1 + 3) s8) else (f_X7_readNews_b48 x1 y1 1 (y1 + 3) s8)) else (some (0, s5))
def f_X7_readReading (σ : St) (x1 : Int32) : Option (Int32 × St) :=
  bdp (f_X7_nextLetter σ) fun r2 s3 => sq (r2 - 48) fun y4 => if (f_X7_in (y4.toInt64) 0 9) = 0 then (some (0, s3)) else (if (f_X7_isReader s3 (y4.toInt64)) = 0 then (some (0, s3)) else (sq (wr s3 0 20 ((s3.1 0 20) + 1)) fun s5 => bdp (f_X7_readFigure s5 5) fun r7 s8 => if 0 ≤ r7 then (bdp (f_X7_readFigure s8 5) fun r10 s11 => if 0 ≤ r10 then (bdp (f_X7_nextLetter s11) fun r13 s14 => sq (r13 - 97) fun y15 => if (f_X7_isNews s14 (y15.toInt64)) = 0 then (some (0, s14)) else (sq (wr s14 0 20 ((s14.1 0 20) + 1)) fun s16 => if x1 < 0 ∨ 128 ≤ ix x1 then none else sq (wr s16 12 (ix x1) y4) fun s17 => if (x1 + 1) < 0 ∨ 128 ≤ ix (x1 + 1) then none else sq (wr s17 12 (ix (x1 + 1)) ((6 * r7) + r10)) fun s18 => if (x1 + 2) < 0 ∨ 128 ≤ ix (x1 + 2) then none else sq (wr s18 12 (ix (x1 + 2)) y15) fun s19 => some (1, s19))) else (some (0, s11))) else (some (0, s8))))
def f_X7_readAll_b143 (rec34 : Int32 → Int32 → St → Option (Int32 × St)) (x1 : Int32) (v2 : Int32) (t0 : Int32) (σ143 : St) : Option (Int32 × St) :=
  bdp (f_X7_takes σ143 t0) fun r17 s18 => if r17 = 0 then (rec34 v2 0 s18) else (rec34 v2 1 s18)
def f_X7_readAll_b103 (rec34 : Int32 → Int32 → St → Option (Int32 × St)) (x1 : Int32) (v2 : Int32) (t0 : Int32) (σ103 : St) : Option (Int32 × St) :=
  if t0 = 0 then (some (0, σ103)) else (sq (wr σ103 0 21 ((σ103.1 0 21) + 1)) fun s15 => if v2 ≤ (s15.1 0 21) then (rec34 v2 0 s15) else (if x1 = 2 then (f_X7_readAll_b143 rec34 x1 v2 59 s15) else (f_X7_readAll_b143 rec34 x1 v2 44 s15)))
def f_X7_readAll_h34 (x1 : Int32) : Nat → Int32 → Int32 → St → Option (Int32 × St)
  | 0, _, _, _ => none
  | n34 + 1, v2, v3, σ34 =>
    if v3 = 0 then (bdp (f_X7_nextLetter σ34) fun r4 s5 => if 0 ≤ r4 then (some (0, s5)) else (some (1, s5))) else (if v2 ≤ (σ34.1 0 21) then (f_X7_readAll_b103 (f_X7_readAll_h34 x1 n34) x1 v2 0 σ34) else (if x1 = 0 then (bdp (f_X7_readGrave σ34 (3 * (σ34.1 0 21))) fun r13 s14 => if r13 = 0 then (f_X7_readAll_b103 (f_X7_readAll_h34 x1 n34) x1 v2 0 s14) else (f_X7_readAll_b103 (f_X7_readAll_h34 x1 n34) x1 v2 1 s14)) else (if x1 = 1 then (bdp (f_X7_readNews σ34 (σ34.1 0 21)) fun r10 s11 => if r10 = 0 then (f_X7_readAll_b103 (f_X7_readAll_h34 x1 n34) x1 v2 0 s11) else (f_X7_readAll_b103 (f_X7_readAll_h34 x1 n34) x1 v2 1 s11)) else (bdp (f_X7_readReading σ34 (3 * (σ34.1 0 21))) fun r7 s8 => if r7 = 0 then (f_X7_readAll_b103 (f_X7_readAll_h34 x1 n34) x1 v2 0 s8) else (f_X7_readAll_b103 (f_X7_readAll_h34 x1 n34) x1 v2 1 s8)))))
def f_X7_readAll (σ : St) (x1 : Int32) : Option (Int32 × St) :=
  sq (wr σ 0 20 0) fun s1 => sq (wr s1 0 21 0) fun s2 => if x1 = 0 then (f_X7_readAll_h34 x1 FU 10 1 s2) else (if x1 = 1 then (f_X7_readAll_h34 x1 FU 12 1 s2) else (f_X7_readAll_h34 x1 FU 40 1 s2))
def f_X7_forget_h2 : Nat → Int32 → St → Option St
  | 0, _, _ => none
  | n2 + 1, v1, σ2 =>
    if 10 ≤ v1 then (sq (wr σ2 0 17 0) fun s1 => some s1) else (if (0 + v1) < 0 ∨ 141 ≤ ix (0 + v1) then none else sq (wr σ2 9 (ix (0 + v1)) 0) fun s2 => if (10 + v1) < 0 ∨ 141 ≤ ix (10 + v1) then none else sq (wr s2 9 (ix (10 + v1)) 0) fun s3 => sq (v1 + 1) fun y4 => f_X7_forget_h2 n2 y4 s3)
def f_X7_forget (σ : St) : Option St :=
  f_X7_forget_h2 FU 0 σ
def f_X7_yard_h27 : Nat → Int32 → St → Option (Int32 × St)
  | 0, _, _ => none
  | n27 + 1, v2, σ27 =>
    if (σ27.1 0 21) ≤ v2 then (some (σ27.1 0 3, σ27)) else (if (3 * v2) < 0 ∨ 128 ≤ ix (3 * v2) then none else if ((3 * v2) + 1) < 0 ∨ 128 ≤ ix ((3 * v2) + 1) then none else if ((3 * v2) + 2) < 0 ∨ 128 ≤ ix ((3 * v2) + 2) then none else bdr (f_X7_addGrave σ27 (σ27.1 12 (ix (3 * v2))) (σ27.1 12 (ix ((3 * v2) + 1))) (σ27.1 12 (ix ((3 * v2) + 2)))) fun s11 => sq (v2 + 1) fun y12 => f_X7_yard_h27 n27 y12 s11)
def f_X7_yard (σ : St) : Option (Int32 × St) :=
  bdp (f_X7_readAll σ 0) fun r2 s3 => bdp (f_X7_end s3 r2) fun r5 s6 => if 0 ≤ r5 then (sq (wr s6 0 3 0) fun s7 => bdr (f_X7_forget s7) fun s9 => f_X7_yard_h27 FU 0 s9) else (some (r5, s6))
def f_X7_paper_h27 : Nat → Int32 → St → Option (Int32 × St)
  | 0, _, _ => none
  | n27 + 1, v2, σ27 =>
    if (σ27.1 0 21) ≤ v2 then (some (σ27.1 0 8, σ27)) else (if (4 * v2) < 0 ∨ 128 ≤ ix (4 * v2) then none else if ((4 * v2) + 1) < 0 ∨ 128 ≤ ix ((4 * v2) + 1) then none else if ((4 * v2) + 2) < 0 ∨ 128 ≤ ix ((4 * v2) + 2) then none else if ((4 * v2) + 3) < 0 ∨ 128 ≤ ix ((4 * v2) + 3) then none else bdr (f_X7_addNews σ27 (σ27.1 12 (ix (4 * v2))) (σ27.1 12 (ix ((4 * v2) + 1))) (σ27.1 12 (ix ((4 * v2) + 2))) (σ27.1 12 (ix ((4 * v2) + 3)))) fun s11 => sq (v2 + 1) fun y12 => f_X7_paper_h27 n27 y12 s11)
def f_X7_paper (σ : St) : Option (Int32 × St) :=
  bdp (f_X7_readAll σ 1) fun r2 s3 => bdp (f_X7_end s3 r2) fun r5 s6 => if 0 ≤ r5 then (sq (wr s6 0 8 0) fun s7 => bdr (f_X7_forget s7) fun s9 => f_X7_paper_h27 FU 0 s9) else (some (r5, s6))
def f_X7_wrongedBy_b129 (rec18 : Int32 → Int32 → Int32 → Option Int32) (σ : St) (x1 : Int32) (x2 : Int32) (x3 : Int32) (v4 : Int32) (v6 : Int32) (t0 : Int32) (t1 : Int32) : Option Int32 :=
  sq (t1 ||| t0) fun y5 => sq (v6 + 1) fun y6 => rec18 v4 y5 y6
def f_X7_wrongedBy_b102 (rec18 : Int32 → Int32 → Int32 → Option Int32) (σ : St) (x1 : Int32) (x2 : Int32) (x3 : Int32) (v4 : Int32) (v5 : Int32) (v6 : Int32) (t0 : Int32) : Option Int32 :=
  if (f_X7_has v4 v6) = 0 then (f_X7_wrongedBy_b129 rec18 σ x1 x2 x3 v4 v6 0 v5) else (if t0 = 0 then (f_X7_wrongedBy_b129 rec18 σ x1 x2 x3 v4 v6 0 v5) else (f_X7_wrongedBy_b129 rec18 σ x1 x2 x3 v4 v6 (isl 1 v6) v5))
def f_X7_wrongedBy_b60 (rec18 : Int32 → Int32 → Int32 → Option Int32) (σ : St) (x1 : Int32) (x2 : Int32) (x3 : Int32) (v4 : Int32) (v5 : Int32) (v6 : Int32) (t0 : Int32) : Option Int32 :=
  if x3 < 0 ∨ 12 ≤ ix x3 then none else if (f_X7_has (σ.1 6 (ix x3)) v6) = 0 then (if (0 + v6) < 0 ∨ 141 ≤ ix (0 + v6) then none else if (f_X7_has (σ.1 9 (ix (0 + v6))) x3) = 0 then (if t0 = 0 then (f_X7_wrongedBy_b102 rec18 σ x1 x2 x3 v4 v5 v6 0) else (f_X7_wrongedBy_b102 rec18 σ x1 x2 x3 v4 v5 v6 1)) else (f_X7_wrongedBy_b102 rec18 σ x1 x2 x3 v4 v5 v6 1)) else (f_X7_wrongedBy_b102 rec18 σ x1 x2 x3 v4 v5 v6 1)
def f_X7_wrongedBy_h18 (σ : St) (x1 : Int32) (x2 : Int32) (x3 : Int32) : Nat → Int32 → Int32 → Int32 → Option Int32
  | 0, _, _, _ => none
  | n18 + 1, v4, v5, v6 =>
    if (σ.1 0 3) ≤ v6 then (some v5) else (if x3 < 0 ∨ 12 ≤ ix x3 then none else bdr (f_X7_owedTo σ v6) fun r4 => if (0 + v6) < 0 ∨ 141 ≤ ix (0 + v6) then none else if (((σ.1 5 (ix x3)) &&& r4) &&& ((σ.1 9 (ix (0 + v6))) ^^^ ((-1)))) = 0 then (f_X7_wrongedBy_b60 (f_X7_wrongedBy_h18 σ x1 x2 x3 n18) σ x1 x2 x3 v4 v5 v6 0) else (f_X7_wrongedBy_b60 (f_X7_wrongedBy_h18 σ x1 x2 x3 n18) σ x1 x2 x3 v4 v5 v6 1))
def f_X7_wrongedBy (σ : St) (x1 : Int32) (x2 : Int32) (x3 : Int32) : Option Int32 :=
  bdr (f_X7_hearers σ x1 x2 (σ.1 0 11)) fun r2 => f_X7_wrongedBy_h18 σ x1 x2 x3 FU r2 0 0
def f_X7_note_h52 : Nat → Int32 → St → Option St
  | 0, _, _ => none
  | n52 + 1, v1, σ52 =>
    if 141 ≤ v1 then (sq (wr σ52 0 17 ((σ52.1 0 17) + 1)) fun s4 => some s4) else (if v1 < 0 ∨ 141 ≤ ix v1 then none else if ((141 * (σ52.1 0 17)) + v1) < 0 ∨ 1410 ≤ ix ((141 * (σ52.1 0 17)) + v1) then none else sq (wr σ52 10 (ix ((141 * (σ52.1 0 17)) + v1)) (σ52.1 9 (ix v1))) fun s5 => sq (v1 + 1) fun y6 => f_X7_note_h52 n52 y6 s5)
def f_X7_note_h11 : Nat → Int32 → St → Option St
  | 0, _, _ => none
  | n11 + 1, v1, σ11 =>
    if 1269 ≤ v1 then (sq (wr σ11 0 17 ((σ11.1 0 17) - 1)) fun s1 => f_X7_note_h52 FU 0 s1) else (if (v1 + 141) < 0 ∨ 1410 ≤ ix (v1 + 141) then none else if v1 < 0 ∨ 1410 ≤ ix v1 then none else sq (wr σ11 10 (ix v1) (σ11.1 10 (ix (v1 + 141)))) fun s2 => sq (v1 + 1) fun y3 => f_X7_note_h11 n11 y3 s2)
def f_X7_note (σ : St) : Option St :=
  if (σ.1 0 17) = 10 then (f_X7_note_h11 FU 0 σ) else (f_X7_note_h52 FU 0 σ)
def f_X7_tell_b152 (rec24 : Int32 → Int32 → Int32 → St → Option St) (x1 : Int32) (x2 : Int32) (x3 : Int32) (v4 : Int32) (v5 : Int32) (v6 : Int32) (t0 : Int32) (t1 : Int32) (t2 : Int32) (σ152 : St) : Option St :=
  if t2 < 0 ∨ 141 ≤ ix t2 then none else sq (wr σ152 9 (ix t2) (t1 + t0)) fun s10 => sq (v6 + 1) fun y11 => rec24 v4 v5 y11 s10
def f_X7_tell_b95 (rec24 : Int32 → Int32 → Int32 → St → Option St) (x1 : Int32) (x2 : Int32) (x3 : Int32) (v4 : Int32) (v5 : Int32) (v6 : Int32) (t0 : Int32) (t1 : Int32) (σ95 : St) : Option St :=
  if t1 < 0 ∨ 141 ≤ ix t1 then none else sq (wr σ95 9 (ix t1) t0) fun s8 => if (0 + v6) < 0 ∨ 141 ≤ ix (0 + v6) then none else if (0 + v6) < 0 ∨ 141 ≤ ix (0 + v6) then none else sq (wr s8 9 (ix (0 + v6)) ((s8.1 9 (ix (0 + v6))) ||| (isl 1 x3))) fun s9 => if (10 + v6) < 0 ∨ 141 ≤ ix (10 + v6) then none else if (f_X7_has v5 v6) = 0 then (f_X7_tell_b152 rec24 x1 x2 x3 v4 v5 v6 0 (s9.1 9 (ix (10 + v6))) (10 + v6) s9) else (if (10 + v6) < 0 ∨ 141 ≤ ix (10 + v6) then none else if 99 ≤ (s9.1 9 (ix (10 + v6))) then (f_X7_tell_b152 rec24 x1 x2 x3 v4 v5 v6 0 (s9.1 9 (ix (10 + v6))) (10 + v6) s9) else (f_X7_tell_b152 rec24 x1 x2 x3 v4 v5 v6 1 (s9.1 9 (ix (10 + v6))) (10 + v6) s9))
def f_X7_tell_h24 (x1 : Int32) (x2 : Int32) (x3 : Int32) : Nat → Int32 → Int32 → Int32 → St → Option St
  | 0, _, _, _, _ => none
  | n24 + 1, v4, v5, v6, σ24 =>
    if (σ24.1 0 3) ≤ v6 then (if (140 : Int32) < 0 ∨ 141 ≤ ix 140 then none else if (140 : Int32) < 0 ∨ 141 ≤ ix 140 then none else sq (wr σ24 9 (ix 140) ((σ24.1 9 (ix 140)) + 1)) fun s5 => some s5) else (if (f_X7_has v4 v6) = 0 then (sq (v6 + 1) fun y6 => f_X7_tell_h24 x1 x2 x3 n24 v4 v5 y6 σ24) else (sq ((20 + (12 * v6)) + x3) fun y7 => if (0 + v6) < 0 ∨ 141 ≤ ix (0 + v6) then none else if (f_X7_has (σ24.1 9 (ix (0 + v6))) x3) = 0 then (if (140 : Int32) < 0 ∨ 141 ≤ ix 140 then none else f_X7_tell_b95 (f_X7_tell_h24 x1 x2 x3 n24) x1 x2 x3 v4 v5 v6 (σ24.1 9 (ix 140)) y7 σ24) else (if y7 < 0 ∨ 141 ≤ ix y7 then none else f_X7_tell_b95 (f_X7_tell_h24 x1 x2 x3 n24) x1 x2 x3 v4 v5 v6 (σ24.1 9 (ix y7)) y7 σ24)))
def f_X7_tell (σ : St) (x1 : Int32) (x2 : Int32) (x3 : Int32) : Option St :=
  bdr (f_X7_hearers σ x1 x2 (σ.1 0 11)) fun r2 => bdr (f_X7_wrongedBy σ x1 x2 x3) fun r4 => f_X7_tell_h24 x1 x2 x3 FU r2 r4 0 σ
def f_X7_readNow (σ : St) (x1 : Int32) (x2 : Int32) (x3 : Int32) : Option (Int32 × St) :=
  bdr (f_X7_note σ) fun s2 => bdr (f_X7_tell s2 x1 x2 x3) fun s4 => bdr (f_X7_hearers s4 x1 x2 (s4.1 0 11)) fun r6 => some (r6, s4)
def f_X7_day_b85 (rec20 : Int32 → Int32 → St → Option (Int32 × St)) (v3 : Int32) (v4 : Int32) (t0 : Int32) (t1 : Int32) (σ85 : St) : Option (Int32 × St) :=
  sq (t1 + t0) fun y10 => if v4 < 0 ∨ 128 ≤ ix v4 then none else if (v4 + 1) < 0 ∨ 128 ≤ ix (v4 + 1) then none else if (v4 + 2) < 0 ∨ 128 ≤ ix (v4 + 2) then none else bdp (f_X7_readNow σ85 (σ85.1 12 (ix v4)) (σ85.1 12 (ix (v4 + 1))) (σ85.1 12 (ix (v4 + 2)))) fun r12 s13 => sq (v3 + 1) fun y14 => rec20 y10 y14 s13
def f_X7_day_h20 : Nat → Int32 → Int32 → St → Option (Int32 × St)
  | 0, _, _, _ => none
  | n20 + 1, v2, v3, σ20 =>
    if (σ20.1 0 21) ≤ v3 then (some (v2, σ20)) else (if (140 : Int32) < 0 ∨ 141 ≤ ix 140 then none else if 9999 ≤ (σ20.1 9 (ix 140)) then (some (v2, σ20)) else (sq (3 * v3) fun y7 => if y7 < 0 ∨ 128 ≤ ix y7 then none else if (y7 + 1) < 0 ∨ 128 ≤ ix (y7 + 1) then none else if (y7 + 2) < 0 ∨ 128 ≤ ix (y7 + 2) then none else bdr (f_X7_wrongedBy σ20 (σ20.1 12 (ix y7)) (σ20.1 12 (ix (y7 + 1))) (σ20.1 12 (ix (y7 + 2)))) fun r9 => if r9 = 0 then (f_X7_day_b85 (f_X7_day_h20 n20) v3 y7 1 v2 σ20) else (f_X7_day_b85 (f_X7_day_h20 n20) v3 y7 0 v2 σ20)))
def f_X7_day (σ : St) : Option (Int32 × St) :=
  bdp (f_X7_readAll σ 2) fun r2 s3 => bdp (f_X7_end s3 r2) fun r5 s6 => if 0 ≤ r5 then (f_X7_day_h20 FU 0 0 s6) else (some (r5, s6))
def f_X7_count_b67 (rec13 : Int32 → Int32 → Int32 → Int32 → Int32 → Option Int32) (σ : St) (x1 : Int32) (v2 : Int32) (v3 : Int32) (v5 : Int32) (v6 : Int32) (t0 : Int32) (t1 : Int32) : Option Int32 :=
  sq (t1 + t0) fun y11 => if (10 + v6) < 0 ∨ 141 ≤ ix (10 + v6) then none else sq (v5 + (σ.1 9 (ix (10 + v6)))) fun y12 => sq (v6 + 1) fun y13 => rec13 v2 v3 y11 y12 y13
def f_X7_count_b49 (rec13 : Int32 → Int32 → Int32 → Int32 → Int32 → Option Int32) (σ : St) (x1 : Int32) (v2 : Int32) (v4 : Int32) (v5 : Int32) (v6 : Int32) (t0 : Int32) (t1 : Int32) : Option Int32 :=
  sq (t1 + t0) fun y8 => bdr (f_X7_isLate σ v6) fun r10 => if r10 = 0 then (f_X7_count_b67 rec13 σ x1 v2 y8 v5 v6 0 v4) else (f_X7_count_b67 rec13 σ x1 v2 y8 v5 v6 1 v4)
def f_X7_count_h13 (σ : St) (x1 : Int32) : Nat → Int32 → Int32 → Int32 → Int32 → Int32 → Option Int32
  | 0, _, _, _, _, _ => none
  | n13 + 1, v2, v3, v4, v5, v6 =>
    if (σ.1 0 3) ≤ v6 then (if x1 = 0 then (some (σ.1 0 3)) else if x1 = 1 then (some (σ.1 0 8)) else if x1 = 2 then (some (σ.1 0 10)) else if x1 = 3 then (if (140 : Int32) < 0 ∨ 141 ≤ ix 140 then none else some (σ.1 9 (ix 140))) else if x1 = 4 then (some v2) else if x1 = 5 then (some v3) else if x1 = 6 then (some v4) else if x1 = 7 then (some (σ.1 0 17)) else if x1 = 8 then (some (σ.1 0 11)) else if x1 = 9 then (some v5) else (some ((-1)))) else (bdr (f_X7_arrears σ v6) fun r2 => bdr (f_X7_ones r2) fun r4 => sq (v2 + r4) fun y5 => bdr (f_X7_arrears σ v6) fun r7 => if r7 = 0 then (f_X7_count_b49 (f_X7_count_h13 σ x1 n13) σ x1 y5 v4 v5 v6 1 v3) else (f_X7_count_b49 (f_X7_count_h13 σ x1 n13) σ x1 y5 v4 v5 v6 0 v3))
def f_X7_count (σ : St) (x1 : Int32) : Option Int32 :=
  f_X7_count_h13 σ x1 FU 0 0 0 0 0
def f_X7_hears (σ : St) (x1 : Int32) (x2 : Int32) : Option Int32 :=
  if (f_X7_isReader σ (x1.toInt64)) = 0 then (some ((-1))) else (if (f_X7_isPlace (x2.toInt64)) = 0 then (some ((-1))) else (bdr (f_X7_hearers σ x1 x2 (σ.1 0 11)) fun r2 => some r2))
def f_X7_isReading (σ : St) (x1 : Int64) (x3 : Int64) (x5 : Int64) : Int32 :=
  if (f_X7_isReader σ x1) = 0 then (0) else (if (f_X7_isPlace x3) = 0 then (0) else (if (f_X7_isNews σ x5) = 0 then (0) else (1)))
theorem zb_X7_isReading (σ : St) (x1 : Int64) (x3 : Int64) (x5 : Int64) : f_X7_isReading σ x1 x3 x5 &&& 1 = f_X7_isReading σ x1 x3 x5 := by
  unfold f_X7_isReading; (repeat' split) <;> rfl
def f_X7_wronged (σ : St) (x1 : Int32) (x2 : Int32) (x3 : Int32) : Option Int32 :=
  if (f_X7_isReading σ (x1.toInt64) (x2.toInt64) (x3.toInt64)) = 0 then (some ((-1))) else (bdr (f_X7_wrongedBy σ x1 x2 x3) fun r2 => some r2)
def f_X7_read (σ : St) (x1 : Int32) (x2 : Int32) (x3 : Int32) : Option (Int32 × St) :=
  if (f_X7_isReading σ (x1.toInt64) (x2.toInt64) (x3.toInt64)) = 0 then (some ((-1), σ)) else (if (140 : Int32) < 0 ∨ 141 ≤ ix 140 then none else if (σ.1 9 (ix 140)) = 9999 then (some ((-3), σ)) else (bdp (f_X7_readNow σ x1 x2 x3) fun r2 s3 => some (r2, s3)))
def f_X7_undo_h22 : Nat → Int32 → St → Option (Int32 × St)
  | 0, _, _ => none
  | n22 + 1, v1, σ22 =>
    if 141 ≤ v1 then (some (σ22.1 0 17, σ22)) else (if ((141 * (σ22.1 0 17)) + v1) < 0 ∨ 1410 ≤ ix ((141 * (σ22.1 0 17)) + v1) then none else if v1 < 0 ∨ 141 ≤ ix v1 then none else sq (wr σ22 9 (ix v1) (σ22.1 10 (ix ((141 * (σ22.1 0 17)) + v1)))) fun s2 => sq (v1 + 1) fun y3 => f_X7_undo_h22 n22 y3 s2)
def f_X7_undo (σ : St) : Option (Int32 × St) :=
  if (σ.1 0 17) = 0 then (some ((-4), σ)) else (sq (wr σ 0 17 ((σ.1 0 17) - 1)) fun s1 => f_X7_undo_h22 FU 0 s1)
def f_X7_nextDraw (σ : St) (x1 : Int32) : Option (Int32 × St) :=
  sq (wr σ 0 14 ((((((σ.1 0 14).toInt64) * 1103515245) + 12345) &&& 2147483647).toInt32)) fun s1 => if x1 = 0 then none else some (irm ((s1.1 0 14) / 65536) x1, s1)
def f_X7_lots_b115 (rec54 : Int32 → Int32 → St → Option (Int32 × St)) (x1 : Int32) (v3 : Int32) (v4 : Int32) (v5 : Int32) (v6 : Int32) (t0 : Int32) (t1 : Int32) (σ115 : St) : Option (Int32 × St) :=
  sq (t1 + t0) fun y16 => bdp (f_X7_readNow σ115 v4 v5 v6) fun r18 s19 => sq (v3 + 1) fun y20 => rec54 y16 y20 s19
def f_X7_lots_h54 (x1 : Int32) : Nat → Int32 → Int32 → St → Option (Int32 × St)
  | 0, _, _, _ => none
  | n54 + 1, v2, v3, σ54 =>
    if x1 ≤ v3 then (some (v2, σ54)) else (bdp (f_X7_nextDraw σ54 5) fun r2 s3 => sq (wr s3 0 11 r2) fun s4 => bdp (f_X7_nextDraw s4 (s4.1 0 10)) fun r6 s7 => bdp (f_X7_nextDraw s7 36) fun r9 s10 => bdp (f_X7_nextDraw s10 (s10.1 0 8)) fun r12 s13 => bdr (f_X7_wrongedBy s13 r6 r9 r12) fun r15 => if r15 = 0 then (f_X7_lots_b115 (f_X7_lots_h54 x1 n54) x1 v3 r6 r9 r12 1 v2 s13) else (f_X7_lots_b115 (f_X7_lots_h54 x1 n54) x1 v3 r6 r9 r12 0 v2 s13))
def f_X7_lots (σ : St) (x1 : Int32) : Option (Int32 × St) :=
  if (f_X7_in (x1.toInt64) 1 30) = 0 then (some ((-1), σ)) else (if (σ.1 0 10) = 0 then (some ((-2), σ)) else (if (σ.1 0 8) = 0 then (some ((-2), σ)) else (if (140 : Int32) < 0 ∨ 141 ≤ ix 140 then none else if ((σ.1 9 (ix 140)) + x1) ≤ 9999 then (f_X7_lots_h54 x1 FU 0 0 σ) else (some ((-3), σ)))))
def f_X7_seed (σ : St) (x1 : Int32) : Option (Int32 × St) :=
  if 0 ≤ x1 then (sq (σ.1 0 14) fun y1 => sq (wr σ 0 14 x1) fun s2 => some (y1, s2)) else (some ((-1), σ))
def f_X7_lacking_b32 (rec4 : Int32 → Int32 → Option Int32) (σ : St) (x1 : Int32) (v3 : Int32) (t0 : Int32) (t1 : Int32) : Option Int32 :=
  sq (t1 ||| t0) fun y3 => sq (v3 + 1) fun y4 => rec4 y3 y4
def f_X7_lacking_h4 (σ : St) (x1 : Int32) : Nat → Int32 → Int32 → Option Int32
  | 0, _, _ => none
  | n4 + 1, v2, v3 =>
    if (σ.1 0 3) ≤ v3 then (some v2) else (bdr (f_X7_arrears σ v3) fun r2 => if (f_X7_has r2 x1) = 0 then (f_X7_lacking_b32 (f_X7_lacking_h4 σ x1 n4) σ x1 v3 0 v2) else (f_X7_lacking_b32 (f_X7_lacking_h4 σ x1 n4) σ x1 v3 (isl 1 v3) v2))
def f_X7_lacking (σ : St) (x1 : Int32) : Option Int32 :=
  f_X7_lacking_h4 σ x1 FU 0 0
def f_X7_stand_h36 (σ : St) (x1 : Int32) (x2 : Int32) : Nat → Int32 → Int32 → Int32 → Int32 → Option Int32
  | 0, _, _, _, _ => none
  | n36 + 1, v3, v4, v5, v6 =>
    if 36 ≤ v6 then (some v3) else (bdr (f_X7_hearers σ x1 v6 (σ.1 0 11)) fun r4 => bdr (f_X7_ones (r4 &&& v5)) fun r6 => if r6 ≤ v4 then (sq (v6 + 1) fun y7 => f_X7_stand_h36 σ x1 x2 n36 v3 v4 v5 y7) else (bdr (f_X7_wrongedBy σ x1 v6 x2) fun r9 => if r9 = 0 then (sq (v6 + 1) fun y11 => f_X7_stand_h36 σ x1 x2 n36 v6 r6 v5 y11) else (sq (v6 + 1) fun y10 => f_X7_stand_h36 σ x1 x2 n36 v3 v4 v5 y10)))
def f_X7_stand (σ : St) (x1 : Int32) (x2 : Int32) : Option Int32 :=
  if (f_X7_isReader σ (x1.toInt64)) = 0 then (some ((-1))) else (if (f_X7_isNews σ (x2.toInt64)) = 0 then (some ((-1))) else (bdr (f_X7_lacking σ x2) fun r2 => f_X7_stand_h36 σ x1 x2 FU ((-4)) 0 r2 0))
def f_X7_areApart (σ : St) (x1 : Int32) (x2 : Int32) : Option Int32 :=
  if x1 < 0 ∨ 36 ≤ ix x1 then none else if (σ.1 13 (ix x1)) < 0 then (some 0) else (if x2 < 0 ∨ 36 ≤ ix x2 then none else if (σ.1 13 (ix x2)) < 0 then (some 0) else (if x1 < 0 ∨ 36 ≤ ix x1 then none else if x2 < 0 ∨ 36 ≤ ix x2 then none else if ((σ.1 13 (ix x1)) &&& (σ.1 13 (ix x2))) = 0 then (some 1) else (some 0)))
def f_X7_findCover_h202 (x1 : Int32) (x2 : Int32) : Nat → Int32 → Int32 → St → Option (Int32 × St)
  | 0, _, _, _ => none
  | n202 + 1, v3, v4, σ202 =>
    if 46656 ≤ v4 then (some ((-4), σ202)) else (sq ((v4 / 36) / 36) fun y3 => sq (irm (v4 / 36) 36) fun y4 => sq (irm v4 36) fun y5 => bdr (f_X7_areApart σ202 y3 y4) fun r7 => if r7 = 0 then (sq (v4 + 1) fun y8 => f_X7_findCover_h202 x1 x2 n202 v3 y8 σ202) else (bdr (f_X7_areApart σ202 y3 y5) fun r10 => if r10 = 0 then (sq (v4 + 1) fun y11 => f_X7_findCover_h202 x1 x2 n202 v3 y11 σ202) else (bdr (f_X7_areApart σ202 y4 y5) fun r13 => if r13 = 0 then (sq (v4 + 1) fun y14 => f_X7_findCover_h202 x1 x2 n202 v3 y14 σ202) else (if y3 < 0 ∨ 36 ≤ ix y3 then none else if y4 < 0 ∨ 36 ≤ ix y4 then none else if y5 < 0 ∨ 36 ≤ ix y5 then none else if (((v3 &&& ((σ202.1 13 (ix y3)) ^^^ ((-1)))) &&& ((σ202.1 13 (ix y4)) ^^^ ((-1)))) &&& ((σ202.1 13 (ix y5)) ^^^ ((-1)))) = 0 then (if (0 : Int32) < 0 ∨ 3 ≤ ix 0 then none else sq (wr σ202 14 (ix 0) y3) fun s16 => if (1 : Int32) < 0 ∨ 3 ≤ ix 1 then none else sq (wr s16 14 (ix 1) y4) fun s17 => if (2 : Int32) < 0 ∨ 3 ≤ ix 2 then none else sq (wr s17 14 (ix 2) y5) fun s18 => some (3, s18)) else (sq (v4 + 1) fun y15 => f_X7_findCover_h202 x1 x2 n202 v3 y15 σ202)))))
def f_X7_findCover_h114 (x1 : Int32) (x2 : Int32) : Nat → Int32 → Int32 → St → Option (Int32 × St)
  | 0, _, _, _ => none
  | n114 + 1, v3, v4, σ114 =>
    if 1296 ≤ v4 then (f_X7_findCover_h202 x1 x2 FU v3 0 σ114) else (bdr (f_X7_areApart σ114 (v4 / 36) (irm v4 36)) fun r20 => if r20 = 0 then (sq (v4 + 1) fun y21 => f_X7_findCover_h114 x1 x2 n114 v3 y21 σ114) else (if (v4 / 36) < 0 ∨ 36 ≤ ix (v4 / 36) then none else if (irm v4 36) < 0 ∨ 36 ≤ ix (irm v4 36) then none else if ((v3 &&& ((σ114.1 13 (ix (v4 / 36))) ^^^ ((-1)))) &&& ((σ114.1 13 (ix (irm v4 36))) ^^^ ((-1)))) = 0 then (if (0 : Int32) < 0 ∨ 3 ≤ ix 0 then none else sq (wr σ114 14 (ix 0) (v4 / 36)) fun s23 => if (1 : Int32) < 0 ∨ 3 ≤ ix 1 then none else sq (wr s23 14 (ix 1) (irm v4 36)) fun s24 => some (2, s24)) else (sq (v4 + 1) fun y22 => f_X7_findCover_h114 x1 x2 n114 v3 y22 σ114)))
def f_X7_findCover_h64 (x1 : Int32) (x2 : Int32) : Nat → Int32 → Int32 → St → Option (Int32 × St)
  | 0, _, _, _ => none
  | n64 + 1, v3, v4, σ64 =>
    if 36 ≤ v4 then (f_X7_findCover_h114 x1 x2 FU v3 0 σ64) else (if v4 < 0 ∨ 36 ≤ ix v4 then none else if (σ64.1 13 (ix v4)) < 0 then (sq (v4 + 1) fun y25 => f_X7_findCover_h64 x1 x2 n64 v3 y25 σ64) else (if v4 < 0 ∨ 36 ≤ ix v4 then none else if (v3 &&& ((σ64.1 13 (ix v4)) ^^^ ((-1)))) = 0 then (if (0 : Int32) < 0 ∨ 3 ≤ ix 0 then none else sq (wr σ64 14 (ix 0) v4) fun s27 => some (1, s27)) else (sq (v4 + 1) fun y26 => f_X7_findCover_h64 x1 x2 n64 v3 y26 σ64)))
def f_X7_findCover_h15 (x1 : Int32) (x2 : Int32) : Nat → Int32 → Int32 → St → Option (Int32 × St)
  | 0, _, _, _ => none
  | n15 + 1, v3, v4, σ15 =>
    if 36 ≤ v4 then (f_X7_findCover_h64 x1 x2 FU v3 0 σ15) else (bdr (f_X7_wrongedBy σ15 x1 v4 x2) fun r29 => if r29 = 0 then (bdr (f_X7_hearers σ15 x1 v4 (σ15.1 0 11)) fun r33 => if v4 < 0 ∨ 36 ≤ ix v4 then none else sq (wr σ15 13 (ix v4) r33) fun s34 => sq (v4 + 1) fun y35 => f_X7_findCover_h15 x1 x2 n15 v3 y35 s34) else (if v4 < 0 ∨ 36 ≤ ix v4 then none else sq (wr σ15 13 (ix v4) ((-1))) fun s30 => sq (v4 + 1) fun y31 => f_X7_findCover_h15 x1 x2 n15 v3 y31 s30))
def f_X7_findCover (σ : St) (x1 : Int32) (x2 : Int32) : Option (Int32 × St) :=
  bdr (f_X7_lacking σ x2) fun r2 => if r2 = 0 then (some (0, σ)) else (f_X7_findCover_h15 x1 x2 FU r2 0 σ)
def f_X7_cover (σ : St) (x1 : Int32) (x2 : Int32) (x3 : Int32) : Option (Int32 × St) :=
  if (f_X7_isReader σ (x1.toInt64)) = 0 then (some ((-1), σ)) else (if (f_X7_isNews σ (x2.toInt64)) = 0 then (some ((-1), σ)) else (if (f_X7_in (x3.toInt64) ((-1)) 2) = 0 then (some ((-1), σ)) else (bdp (f_X7_findCover σ x1 x2) fun r2 s3 => if r2 < 0 then (some (r2, s3)) else (if 0 ≤ x3 then (if r2 ≤ x3 then (some ((-4), s3)) else (if x3 < 0 ∨ 3 ≤ ix x3 then none else some (s3.1 14 (ix x3), s3))) else (some (r2, s3))))))
def f_X7_orders_b210 (rec152 : Int32 → Int32 → Int32 → St → Option (Int32 × St)) (rec173 : Int32 → Int32 → Int32 → Int32 → St → Option (Int32 × St)) (x1 : Int32) (v3 : Int32) (v4 : Int32) (v5 : Int32) (v6 : Int32) (σ210 : St) : Option (Int32 × St) :=
  sq (v6 + 1) fun y5 => rec173 v3 v4 v5 y5 σ210
def f_X7_orders_h173 (rec152 : Int32 → Int32 → Int32 → St → Option (Int32 × St)) (x1 : Int32) : Nat → Int32 → Int32 → Int32 → Int32 → St → Option (Int32 × St)
  | 0, _, _, _, _, _ => none
  | n173 + 1, v3, v4, v5, v6, σ173 =>
    if (σ173.1 0 8) ≤ v6 then (sq (v3 ||| (isl 1 v4)) fun y2 => sq (v5 + 1) fun y3 => rec152 y2 v4 y3 σ173) else (if (f_X7_has v3 v6) = 0 then (if v6 < 0 ∨ 12 ≤ ix v6 then none else if ((σ173.1 5 (ix v6)) &&& (v3 ^^^ ((-1)))) = 0 then (sq (v6 + 1) fun y4 => f_X7_orders_h173 rec152 x1 n173 v3 v6 v5 y4 σ173) else (f_X7_orders_b210 rec152 (f_X7_orders_h173 rec152 x1 n173) x1 v3 v4 v5 v6 σ173)) else (f_X7_orders_b210 rec152 (f_X7_orders_h173 rec152 x1 n173) x1 v3 v4 v5 v6 σ173))
def f_X7_orders_h152 (x1 : Int32) : Nat → Int32 → Int32 → Int32 → St → Option (Int32 × St)
  | 0, _, _, _, _ => none
  | n152 + 1, v3, v4, v5, σ152 =>
    if x1 < v5 then (some (v4, σ152)) else (if (σ152.1 0 8) ≤ x1 then (some (v4, σ152)) else (f_X7_orders_h173 (f_X7_orders_h152 x1 n152) x1 FU v3 ((-4)) v5 0 σ152))
def f_X7_orders_b122 (rec31 : Int32 → Int32 → St → Option (Int32 × St)) (rec54 : Int32 → Int32 → Int32 → St → Option (Int32 × St)) (x1 : Int32) (v2 : Int32) (v3 : Int32) (v4 : Int32) (t0 : Int32) (t1 : Int32) (t2 : Int32) (σ122 : St) : Option (Int32 × St) :=
  if t2 < 0 ∨ 4096 ≤ ix t2 then none else sq (wr σ122 15 (ix t2) (t1 + t0)) fun s9 => sq (v4 + 1) fun y10 => rec54 v2 v3 y10 s9
def f_X7_orders_b91 (rec31 : Int32 → Int32 → St → Option (Int32 × St)) (rec54 : Int32 → Int32 → Int32 → St → Option (Int32 × St)) (x1 : Int32) (v2 : Int32) (v3 : Int32) (v4 : Int32) (t0 : Int32) (σ91 : St) : Option (Int32 × St) :=
  if v3 < 0 ∨ 4096 ≤ ix v3 then none else if t0 = 0 then (f_X7_orders_b122 rec31 rec54 x1 v2 v3 v4 0 (σ91.1 15 (ix v3)) v3 σ91) else (if (v3 &&& ((isl 1 v4) ^^^ ((-1)))) < 0 ∨ 4096 ≤ ix (v3 &&& ((isl 1 v4) ^^^ ((-1)))) then none else f_X7_orders_b122 rec31 rec54 x1 v2 v3 v4 (σ91.1 15 (ix (v3 &&& ((isl 1 v4) ^^^ ((-1)))))) (σ91.1 15 (ix v3)) v3 σ91)
def f_X7_orders_h54 (rec31 : Int32 → Int32 → St → Option (Int32 × St)) (x1 : Int32) : Nat → Int32 → Int32 → Int32 → St → Option (Int32 × St)
  | 0, _, _, _, _ => none
  | n54 + 1, v2, v3, v4, σ54 =>
    if (σ54.1 0 8) ≤ v4 then (sq (v3 + 1) fun y8 => rec31 v2 y8 σ54) else (if (f_X7_has v3 v4) = 0 then (f_X7_orders_b91 rec31 (f_X7_orders_h54 rec31 x1 n54) x1 v2 v3 v4 0 σ54) else (if v4 < 0 ∨ 12 ≤ ix v4 then none else if ((σ54.1 5 (ix v4)) &&& (v3 ^^^ ((-1)))) = 0 then (f_X7_orders_b91 rec31 (f_X7_orders_h54 rec31 x1 n54) x1 v2 v3 v4 1 σ54) else (f_X7_orders_b91 rec31 (f_X7_orders_h54 rec31 x1 n54) x1 v2 v3 v4 0 σ54)))
def f_X7_orders_h31 (x1 : Int32) : Nat → Int32 → Int32 → St → Option (Int32 × St)
  | 0, _, _, _ => none
  | n31 + 1, v2, v3, σ31 =>
    if v2 < v3 then (if v2 < 0 ∨ 4096 ≤ ix v2 then none else some (σ31.1 15 (ix v2), σ31)) else (if v3 = 0 then (if v3 < 0 ∨ 4096 ≤ ix v3 then none else sq (wr σ31 15 (ix v3) 1) fun s7 => f_X7_orders_h54 (f_X7_orders_h31 x1 n31) x1 FU v2 v3 0 s7) else (if v3 < 0 ∨ 4096 ≤ ix v3 then none else sq (wr σ31 15 (ix v3) 0) fun s6 => f_X7_orders_h54 (f_X7_orders_h31 x1 n31) x1 FU v2 v3 0 s6))
def f_X7_orders (σ : St) (x1 : Int32) : Option (Int32 × St) :=
  if (f_X7_in (x1.toInt64) ((-1)) 11) = 0 then (some ((-1), σ)) else (sq ((isl 1 (σ.1 0 8)) - 1) fun y1 => if 0 ≤ x1 then (f_X7_orders_h152 x1 FU 0 ((-4)) 0 σ) else (f_X7_orders_h31 x1 FU y1 0 σ))
def f_X7_years_h39 (rec29 : Int32 → Int32 → Option Int32) (σ : St) (x1 : Int32) (x2 : Int32) : Nat → Int32 → Int32 → Int32 → Option Int32
  | 0, _, _, _ => none
  | n39 + 1, v3, v4, v5 =>
    if 120 ≤ v5 then (sq (v4 + 1) fun y1 => rec29 v3 y1) else (sq (v5 / 12) fun y2 => sq (irm v5 12) fun y3 => if (σ.1 0 3) ≤ y2 then (sq (v5 + 1) fun y4 => f_X7_years_h39 rec29 σ x1 x2 n39 v3 v4 y4) else (if (σ.1 0 8) ≤ y3 then (sq (v5 + 1) fun y5 => f_X7_years_h39 rec29 σ x1 x2 n39 v3 v4 y5) else (if y3 < 0 ∨ 12 ≤ ix y3 then none else if (σ.1 4 (ix y3)) = v4 then (bdr (f_X7_arrears σ y2) fun r8 => if (f_X7_has r8 y3) = 0 then (sq (v5 + 1) fun y9 => f_X7_years_h39 rec29 σ x1 x2 n39 v3 v4 y9) else (if x2 = 1 then (if x1 = 0 then none else if (((σ.1 0 13) + (v3 / x1)) - v4) < 9 then (sq (v3 + 1) fun y12 => sq (v5 + 1) fun y13 => f_X7_years_h39 rec29 σ x1 x2 n39 y12 v4 y13) else (some y2)) else (sq (v3 + 1) fun y10 => sq (v5 + 1) fun y11 => f_X7_years_h39 rec29 σ x1 x2 n39 y10 v4 y11))) else (sq (v5 + 1) fun y6 => f_X7_years_h39 rec29 σ x1 x2 n39 v3 v4 y6))))
def f_X7_years_h29 (σ : St) (x1 : Int32) (x2 : Int32) : Nat → Int32 → Int32 → Option Int32
  | 0, _, _ => none
  | n29 + 1, v3, v4 =>
    if 100 ≤ v4 then (if x2 = 1 then (some ((-4))) else (if x1 = 0 then none else some (((v3 + x1) - 1) / x1))) else (f_X7_years_h39 (f_X7_years_h29 σ x1 x2 n29) σ x1 x2 FU v3 v4 0)
def f_X7_years (σ : St) (x1 : Int32) (x2 : Int32) : Option Int32 :=
  if (f_X7_in (x1.toInt64) 1 30) = 0 then (some ((-1))) else (if (f_X7_in (x2.toInt64) 0 1) = 0 then (some ((-1))) else (f_X7_years_h29 σ x1 x2 FU 0 0))
def f_X7_weightOf_b40 (rec6 : Int32 → Int32 → Option Int32) (σ : St) (x1 : Int32) (x2 : Int32) (x3 : Int32) (v5 : Int32) (t0 : Int32) (t1 : Int32) : Option Int32 :=
  sq (t1 + t0) fun y3 => sq (v5 + 1) fun y4 => rec6 y3 y4
def f_X7_weightOf_h6 (σ : St) (x1 : Int32) (x2 : Int32) (x3 : Int32) : Nat → Int32 → Int32 → Option Int32
  | 0, _, _ => none
  | n6 + 1, v4, v5 =>
    if 5 ≤ v5 then (some v4) else (bdr (f_X7_hearers σ x1 x2 v5) fun r2 => if (x3 &&& (r2 ^^^ ((-1)))) = 0 then (if v5 < 0 ∨ 5 ≤ ix v5 then none else f_X7_weightOf_b40 (f_X7_weightOf_h6 σ x1 x2 x3 n6) σ x1 x2 x3 v5 (σ.1 8 (ix v5)) v4) else (f_X7_weightOf_b40 (f_X7_weightOf_h6 σ x1 x2 x3 n6) σ x1 x2 x3 v5 0 v4))
def f_X7_weightOf (σ : St) (x1 : Int32) (x2 : Int32) (x3 : Int32) : Option Int32 :=
  f_X7_weightOf_h6 σ x1 x2 x3 FU 0 0
def f_X7_allWeights_h4 (σ : St) : Nat → Int32 → Int32 → Option Int32
  | 0, _, _ => none
  | n4 + 1, v1, v2 =>
    if 5 ≤ v2 then (some v1) else (if v2 < 0 ∨ 5 ≤ ix v2 then none else sq (v1 + (σ.1 8 (ix v2))) fun y1 => sq (v2 + 1) fun y2 => f_X7_allWeights_h4 σ n4 y1 y2)
def f_X7_allWeights (σ : St) : Option Int32 :=
  f_X7_allWeights_h4 σ FU 0 0
def f_X7_common_h4 (x0 : Int32) (x1 : Int32) : Nat → Int32 → Int32 → Option Int32
  | 0, _, _ => none
  | n4 + 1, v2, v3 =>
    if v3 = 0 then (some v2) else (if v3 = 0 then none else sq (irm v2 v3) fun y1 => f_X7_common_h4 x0 x1 n4 v3 y1)
def f_X7_common (x0 : Int32) (x1 : Int32) : Option Int32 :=
  f_X7_common_h4 x0 x1 FU x0 x1
def f_X7_chance (σ : St) (x1 : Int32) (x2 : Int32) (x3 : Int32) (x4 : Int32) : Option Int32 :=
  if (f_X7_isReader σ (x1.toInt64)) = 0 then (some ((-1))) else (if (f_X7_isPlace (x2.toInt64)) = 0 then (some ((-1))) else (if (f_X7_areGraves σ x3) = 0 then (some ((-1))) else (if (f_X7_in (x4.toInt64) 0 1) = 0 then (some ((-1))) else (bdr (f_X7_allWeights σ) fun r2 => if r2 = 0 then (some ((-2))) else (bdr (f_X7_weightOf σ x1 x2 x3) fun r4 => bdr (f_X7_common r4 r2) fun r6 => if x4 = 0 then (if r6 = 0 then none else some (r4 / r6)) else (if r6 = 0 then none else some (r2 / r6)))))))
def f_X7_likeliest_h34 (σ : St) (x1 : Int32) (x2 : Int32) : Nat → Int32 → Int32 → Option Int32
  | 0, _, _ => none
  | n34 + 1, v3, v4 =>
    if 36 ≤ v4 then (some v3) else (bdr (f_X7_weightOf σ x1 v4 x2) fun r4 => bdr (f_X7_weightOf σ x1 v3 x2) fun r6 => if r4 ≤ r6 then (sq (v4 + 1) fun y7 => f_X7_likeliest_h34 σ x1 x2 n34 v3 y7) else (sq (v4 + 1) fun y8 => f_X7_likeliest_h34 σ x1 x2 n34 v4 y8))
def f_X7_likeliest (σ : St) (x1 : Int32) (x2 : Int32) : Option Int32 :=
  if (f_X7_isReader σ (x1.toInt64)) = 0 then (some ((-1))) else (if (f_X7_areGraves σ x2) = 0 then (some ((-1))) else (bdr (f_X7_allWeights σ) fun r2 => if r2 = 0 then (some ((-2))) else (f_X7_likeliest_h34 σ x1 x2 FU 0 1)))
def f_X7_more (σ : St) (x1 : Int32) (x2 : Int32) : Option Int32 :=
  if (f_X7_isGrave σ x1) = 0 then (some ((-1))) else (if (f_X7_isGrave σ x2) = 0 then (some ((-1))) else (if (0 + x1) < 0 ∨ 141 ≤ ix (0 + x1) then none else if (0 + x2) < 0 ∨ 141 ≤ ix (0 + x2) then none else some ((σ.1 9 (ix (0 + x1))) &&& ((σ.1 9 (ix (0 + x2))) ^^^ ((-1))))))
def f_X7_sooner_b191 (rec29 : Int32 → Int32 → Int32 → Option Int32) (σ : St) (x1 : Int32) (x2 : Int32) (v4 : Int32) (v5 : Int32) (t0 : Int32) (t1 : Int32) : Option Int32 :=
  sq (t1 + t0) fun y8 => sq (v5 + 1) fun y9 => rec29 y8 v4 y9
def f_X7_sooner_b178 (rec29 : Int32 → Int32 → Int32 → Option Int32) (σ : St) (x1 : Int32) (x2 : Int32) (v3 : Int32) (v5 : Int32) (v8 : Int32) (t0 : Int32) : Option Int32 :=
  if v8 = 0 then (f_X7_sooner_b191 rec29 σ x1 x2 t0 v5 0 v3) else (f_X7_sooner_b191 rec29 σ x1 x2 t0 v5 1 v3)
def f_X7_sooner_b154 (rec29 : Int32 → Int32 → Int32 → Option Int32) (σ : St) (x1 : Int32) (x2 : Int32) (v3 : Int32) (v4 : Int32) (v5 : Int32) (v6 : Int32) (v7 : Int32) (t0 : Int32) : Option Int32 :=
  if t0 = 0 then (f_X7_sooner_b178 rec29 σ x1 x2 v3 v5 t0 v4) else (if v3 = 0 then (f_X7_sooner_b178 rec29 σ x1 x2 v3 v5 t0 ((100 * v6) + v7)) else (f_X7_sooner_b178 rec29 σ x1 x2 v3 v5 t0 v4))
def f_X7_sooner_h29 (σ : St) (x1 : Int32) (x2 : Int32) : Nat → Int32 → Int32 → Int32 → Option Int32
  | 0, _, _, _ => none
  | n29 + 1, v3, v4, v5 =>
    if 144 ≤ v5 then (if x2 = 0 then (some v3) else (some v4)) else (sq (v5 / 12) fun y1 => sq (irm v5 12) fun y2 => if (σ.1 0 8) ≤ y1 then (sq (v5 + 1) fun y3 => f_X7_sooner_h29 σ x1 x2 n29 v3 v4 y3) else (if (σ.1 0 8) ≤ y2 then (sq (v5 + 1) fun y4 => f_X7_sooner_h29 σ x1 x2 n29 v3 v4 y4) else (if y2 < 0 ∨ 12 ≤ ix y2 then none else if (f_X7_has (σ.1 5 (ix y2)) y1) = 0 then (sq (v5 + 1) fun y5 => f_X7_sooner_h29 σ x1 x2 n29 v3 v4 y5) else (if (0 + x1) < 0 ∨ 141 ≤ ix (0 + x1) then none else if (f_X7_has (σ.1 9 (ix (0 + x1))) y1) = 0 then (sq (v5 + 1) fun y6 => f_X7_sooner_h29 σ x1 x2 n29 v3 v4 y6) else (if (0 + x1) < 0 ∨ 141 ≤ ix (0 + x1) then none else if (f_X7_has (σ.1 9 (ix (0 + x1))) y2) = 0 then (sq (v5 + 1) fun y7 => f_X7_sooner_h29 σ x1 x2 n29 v3 v4 y7) else (if ((20 + (12 * x1)) + y2) < 0 ∨ 141 ≤ ix ((20 + (12 * x1)) + y2) then none else if ((20 + (12 * x1)) + y1) < 0 ∨ 141 ≤ ix ((20 + (12 * x1)) + y1) then none else if (σ.1 9 (ix ((20 + (12 * x1)) + y1))) ≤ (σ.1 9 (ix ((20 + (12 * x1)) + y2))) then (f_X7_sooner_b154 (f_X7_sooner_h29 σ x1 x2 n29) σ x1 x2 v3 v4 v5 y1 y2 0) else (f_X7_sooner_b154 (f_X7_sooner_h29 σ x1 x2 n29) σ x1 x2 v3 v4 v5 y1 y2 1)))))))
def f_X7_sooner (σ : St) (x1 : Int32) (x2 : Int32) : Option Int32 :=
  if (f_X7_isGrave σ x1) = 0 then (some ((-1))) else (if (f_X7_in (x2.toInt64) 0 1) = 0 then (some ((-1))) else (f_X7_sooner_h29 σ x1 x2 FU 0 ((-4)) 0))
def f_X7_hidden_b58 (rec26 : Int64 → Int32 → Option Int64) (σ : St) (x1 : Int32) (x2 : Int32) (v5 : Int32) (t0 : Int64) (t1 : Int64) : Option Int64 :=
  sq (t1 ||| t0) fun y3 => sq (v5 + 1) fun y4 => rec26 y3 y4
def f_X7_hidden_h26 (σ : St) (x1 : Int32) (x2 : Int32) : Nat → Int64 → Int32 → Option Int64
  | 0, _, _ => none
  | n26 + 1, v3, v5 =>
    if 36 ≤ v5 then (some v3) else (bdr (f_X7_hearers σ x1 v5 (σ.1 0 11)) fun r2 => if (r2 &&& x2) = 0 then (f_X7_hidden_b58 (f_X7_hidden_h26 σ x1 x2 n26) σ x1 x2 v5 (lsl 1 v5) v3) else (f_X7_hidden_b58 (f_X7_hidden_h26 σ x1 x2 n26) σ x1 x2 v5 0 v3))
def f_X7_hidden (σ : St) (x1 : Int32) (x2 : Int32) : Option Int64 :=
  if (f_X7_isReader σ (x1.toInt64)) = 0 then (some ((-1))) else (if (f_X7_areGraves σ x2) = 0 then (some ((-1))) else (f_X7_hidden_h26 σ x1 x2 FU 0 0))
def f_X7_alone_h21 (σ : St) (x1 : Int32) (x2 : Int32) : Nat → Int32 → Option Int32
  | 0, _ => none
  | n21 + 1, v3 =>
    if 36 ≤ v3 then (some ((-4))) else (bdr (f_X7_hearers σ x1 v3 (σ.1 0 11)) fun r2 => if r2 = (isl 1 x2) then (some v3) else (sq (v3 + 1) fun y3 => f_X7_alone_h21 σ x1 x2 n21 y3))
def f_X7_alone (σ : St) (x1 : Int32) (x2 : Int32) : Option Int32 :=
  if (f_X7_isReader σ (x1.toInt64)) = 0 then (some ((-1))) else (if (f_X7_isGrave σ x2) = 0 then (some ((-1))) else (f_X7_alone_h21 σ x1 x2 FU 0))
def f_X7_carried_b644 (x1 : Int32) (x2 : Int32) (x3 : Int32) (t0 : Int32) (σ644 : St) : Option (Int32 × St) :=
  sq (wr σ644 0 17 t0) fun s8 => if x1 = 1626 then (some (s8.1 0 3, s8)) else (if x1 = 1627 then (some (s8.1 0 8, s8)) else (if x1 = 1628 then (some (s8.1 0 10, s8)) else (if x1 = 1629 then (some (s8.1 0 7, s8)) else (if x1 = 1630 then (some (s8.1 0 11, s8)) else (if x1 = 1631 then (some (s8.1 0 13, s8)) else (if x1 = 1632 then (some (s8.1 0 14, s8)) else (some (s8.1 0 17, s8))))))))
def f_X7_carried_b621 (x1 : Int32) (x2 : Int32) (x3 : Int32) (t0 : Int32) (σ621 : St) : Option (Int32 × St) :=
  sq (wr σ621 0 14 t0) fun s7 => if x3 = 0 then (f_X7_carried_b644 x1 x2 x3 (s7.1 0 17) s7) else (if x1 = 1633 then (f_X7_carried_b644 x1 x2 x3 x2 s7) else (f_X7_carried_b644 x1 x2 x3 (s7.1 0 17) s7))
def f_X7_carried_b598 (x1 : Int32) (x2 : Int32) (x3 : Int32) (t0 : Int32) (σ598 : St) : Option (Int32 × St) :=
  sq (wr σ598 0 13 t0) fun s6 => if x3 = 0 then (f_X7_carried_b621 x1 x2 x3 (s6.1 0 14) s6) else (if x1 = 1632 then (f_X7_carried_b621 x1 x2 x3 x2 s6) else (f_X7_carried_b621 x1 x2 x3 (s6.1 0 14) s6))
def f_X7_carried_b575 (x1 : Int32) (x2 : Int32) (x3 : Int32) (t0 : Int32) (σ575 : St) : Option (Int32 × St) :=
  sq (wr σ575 0 11 t0) fun s5 => if x3 = 0 then (f_X7_carried_b598 x1 x2 x3 (s5.1 0 13) s5) else (if x1 = 1631 then (f_X7_carried_b598 x1 x2 x3 x2 s5) else (f_X7_carried_b598 x1 x2 x3 (s5.1 0 13) s5))
def f_X7_carried_b552 (x1 : Int32) (x2 : Int32) (x3 : Int32) (t0 : Int32) (σ552 : St) : Option (Int32 × St) :=
  sq (wr σ552 0 7 t0) fun s4 => if x3 = 0 then (f_X7_carried_b575 x1 x2 x3 (s4.1 0 11) s4) else (if x1 = 1630 then (f_X7_carried_b575 x1 x2 x3 x2 s4) else (f_X7_carried_b575 x1 x2 x3 (s4.1 0 11) s4))
def f_X7_carried_b529 (x1 : Int32) (x2 : Int32) (x3 : Int32) (t0 : Int32) (σ529 : St) : Option (Int32 × St) :=
  sq (wr σ529 0 10 t0) fun s3 => if x3 = 0 then (f_X7_carried_b552 x1 x2 x3 (s3.1 0 7) s3) else (if x1 = 1629 then (f_X7_carried_b552 x1 x2 x3 x2 s3) else (f_X7_carried_b552 x1 x2 x3 (s3.1 0 7) s3))
def f_X7_carried_b506 (x1 : Int32) (x2 : Int32) (x3 : Int32) (t0 : Int32) (σ506 : St) : Option (Int32 × St) :=
  sq (wr σ506 0 8 t0) fun s2 => if x3 = 0 then (f_X7_carried_b529 x1 x2 x3 (s2.1 0 10) s2) else (if x1 = 1628 then (f_X7_carried_b529 x1 x2 x3 x2 s2) else (f_X7_carried_b529 x1 x2 x3 (s2.1 0 10) s2))
def f_X7_carried_b483 (x1 : Int32) (x2 : Int32) (x3 : Int32) (t0 : Int32) (σ483 : St) : Option (Int32 × St) :=
  sq (wr σ483 0 3 t0) fun s1 => if x3 = 0 then (f_X7_carried_b506 x1 x2 x3 (s1.1 0 8) s1) else (if x1 = 1627 then (f_X7_carried_b506 x1 x2 x3 x2 s1) else (f_X7_carried_b506 x1 x2 x3 (s1.1 0 8) s1))
def f_X7_carried_b451 (x1 : Int32) (x2 : Int32) (x3 : Int32) (t0 : Int32) (t1 : Int32) (σ451 : St) : Option (Int32 × St) :=
  if t1 < 0 ∨ 1410 ≤ ix t1 then none else sq (wr σ451 10 (ix t1) t0) fun s9 => if (x1 - 216) < 0 ∨ 1410 ≤ ix (x1 - 216) then none else some (s9.1 10 (ix (x1 - 216)), s9)
def f_X7_carried_b406 (x1 : Int32) (x2 : Int32) (x3 : Int32) (t0 : Int32) (t1 : Int32) (σ406 : St) : Option (Int32 × St) :=
  if t1 < 0 ∨ 141 ≤ ix t1 then none else sq (wr σ406 9 (ix t1) t0) fun s10 => if (x1 - 75) < 0 ∨ 141 ≤ ix (x1 - 75) then none else some (s10.1 9 (ix (x1 - 75)), s10)
def f_X7_carried_b363 (x1 : Int32) (x2 : Int32) (x3 : Int32) (v4 : Int32) (t0 : Int32) (t1 : Int32) (σ363 : St) : Option (Int32 × St) :=
  if t1 < 0 ∨ 5 ≤ ix t1 then none else sq (wr σ363 8 (ix t1) t0) fun s12 => if (v4 - 4) < 0 ∨ 5 ≤ ix (v4 - 4) then none else some (s12.1 8 (ix (v4 - 4)), s12)
def f_X7_carried_b329 (x1 : Int32) (x2 : Int32) (x3 : Int32) (v4 : Int32) (t0 : Int32) (t1 : Int32) (σ329 : St) : Option (Int32 × St) :=
  if t1 < 0 ∨ 4 ≤ ix t1 then none else sq (wr σ329 7 (ix t1) t0) fun s13 => if v4 < 0 ∨ 4 ≤ ix v4 then none else some (s13.1 7 (ix v4), s13)
def f_X7_carried_b250 (x1 : Int32) (x2 : Int32) (x3 : Int32) (v4 : Int32) (v5 : Int32) (t0 : Int32) (t1 : Int32) (σ250 : St) : Option (Int32 × St) :=
  if t1 < 0 ∨ 12 ≤ ix t1 then none else sq (wr σ250 6 (ix t1) t0) fun s18 => if v5 = 0 then (if v4 < 0 ∨ 12 ≤ ix v4 then none else some (s18.1 4 (ix v4), s18)) else (if v5 = 1 then (if v4 < 0 ∨ 12 ≤ ix v4 then none else some (s18.1 5 (ix v4), s18)) else (if v4 < 0 ∨ 12 ≤ ix v4 then none else some (s18.1 6 (ix v4), s18)))
def f_X7_carried_b243 (x1 : Int32) (x2 : Int32) (x3 : Int32) (v4 : Int32) (v5 : Int32) (t0 : Int32) (σ243 : St) : Option (Int32 × St) :=
  if v4 < 0 ∨ 12 ≤ ix v4 then none else f_X7_carried_b250 x1 x2 x3 v4 v5 (σ243.1 6 (ix v4)) t0 σ243
def f_X7_carried_b222 (x1 : Int32) (x2 : Int32) (x3 : Int32) (v4 : Int32) (v5 : Int32) (t0 : Int32) (t1 : Int32) (σ222 : St) : Option (Int32 × St) :=
  if t1 < 0 ∨ 12 ≤ ix t1 then none else sq (wr σ222 5 (ix t1) t0) fun s17 => if x3 = 0 then (f_X7_carried_b243 x1 x2 x3 v4 v5 v4 s17) else (if v5 = 2 then (f_X7_carried_b250 x1 x2 x3 v4 v5 x2 v4 s17) else (f_X7_carried_b243 x1 x2 x3 v4 v5 v4 s17))
def f_X7_carried_b215 (x1 : Int32) (x2 : Int32) (x3 : Int32) (v4 : Int32) (v5 : Int32) (t0 : Int32) (σ215 : St) : Option (Int32 × St) :=
  if v4 < 0 ∨ 12 ≤ ix v4 then none else f_X7_carried_b222 x1 x2 x3 v4 v5 (σ215.1 5 (ix v4)) t0 σ215
def f_X7_carried_b194 (x1 : Int32) (x2 : Int32) (x3 : Int32) (v4 : Int32) (v5 : Int32) (t0 : Int32) (t1 : Int32) (σ194 : St) : Option (Int32 × St) :=
  if t1 < 0 ∨ 12 ≤ ix t1 then none else sq (wr σ194 4 (ix t1) t0) fun s16 => if x3 = 0 then (f_X7_carried_b215 x1 x2 x3 v4 v5 v4 s16) else (if v5 = 1 then (f_X7_carried_b222 x1 x2 x3 v4 v5 x2 v4 s16) else (f_X7_carried_b215 x1 x2 x3 v4 v5 v4 s16))
def f_X7_carried_b187 (x1 : Int32) (x2 : Int32) (x3 : Int32) (v4 : Int32) (v5 : Int32) (t0 : Int32) (σ187 : St) : Option (Int32 × St) :=
  if v4 < 0 ∨ 12 ≤ ix v4 then none else f_X7_carried_b194 x1 x2 x3 v4 v5 (σ187.1 4 (ix v4)) t0 σ187
def f_X7_carried_b103 (x1 : Int32) (x2 : Int32) (x3 : Int32) (v4 : Int32) (t0 : Int32) (t1 : Int32) (σ103 : St) : Option (Int32 × St) :=
  if t1 < 0 ∨ 10 ≤ ix t1 then none else sq (wr σ103 3 (ix t1) t0) fun s22 => if 10 ≤ x1 then (if 20 ≤ x1 then (if v4 < 0 ∨ 10 ≤ ix v4 then none else some (s22.1 3 (ix v4), s22)) else (if v4 < 0 ∨ 10 ≤ ix v4 then none else some (s22.1 2 (ix v4), s22))) else (if v4 < 0 ∨ 10 ≤ ix v4 then none else some (s22.1 1 (ix v4), s22))
def f_X7_carried_b96 (x1 : Int32) (x2 : Int32) (x3 : Int32) (v4 : Int32) (t0 : Int32) (σ96 : St) : Option (Int32 × St) :=
  if v4 < 0 ∨ 10 ≤ ix v4 then none else f_X7_carried_b103 x1 x2 x3 v4 (σ96.1 3 (ix v4)) t0 σ96
def f_X7_carried_b75 (x1 : Int32) (x2 : Int32) (x3 : Int32) (v4 : Int32) (t0 : Int32) (t1 : Int32) (σ75 : St) : Option (Int32 × St) :=
  if t1 < 0 ∨ 10 ≤ ix t1 then none else sq (wr σ75 2 (ix t1) t0) fun s21 => if x3 = 0 then (f_X7_carried_b96 x1 x2 x3 v4 v4 s21) else (if x1 < 20 then (f_X7_carried_b96 x1 x2 x3 v4 v4 s21) else (f_X7_carried_b103 x1 x2 x3 v4 x2 v4 s21))
def f_X7_carried_b68 (x1 : Int32) (x2 : Int32) (x3 : Int32) (v4 : Int32) (t0 : Int32) (σ68 : St) : Option (Int32 × St) :=
  if v4 < 0 ∨ 10 ≤ ix v4 then none else f_X7_carried_b75 x1 x2 x3 v4 (σ68.1 2 (ix v4)) t0 σ68
def f_X7_carried_b39 (x1 : Int32) (x2 : Int32) (x3 : Int32) (v4 : Int32) (t0 : Int32) (t1 : Int32) (σ39 : St) : Option (Int32 × St) :=
  if t1 < 0 ∨ 10 ≤ ix t1 then none else sq (wr σ39 1 (ix t1) t0) fun s20 => if x3 = 0 then (f_X7_carried_b68 x1 x2 x3 v4 v4 s20) else (if (f_X7_in (x1.toInt64) 10 19) = 0 then (f_X7_carried_b68 x1 x2 x3 v4 v4 s20) else (f_X7_carried_b75 x1 x2 x3 v4 x2 v4 s20))
def f_X7_carried_b32 (x1 : Int32) (x2 : Int32) (x3 : Int32) (v4 : Int32) (t0 : Int32) (σ32 : St) : Option (Int32 × St) :=
  if v4 < 0 ∨ 10 ≤ ix v4 then none else f_X7_carried_b39 x1 x2 x3 v4 (σ32.1 1 (ix v4)) t0 σ32
def f_X7_carried (σ : St) (x1 : Int32) (x2 : Int32) (x3 : Int32) : Option (Int32 × St) :=
  if 30 ≤ x1 then (if 66 ≤ x1 then (if 75 ≤ x1 then (if 216 ≤ x1 then (if 1626 ≤ x1 then (if x3 = 0 then (f_X7_carried_b483 x1 x2 x3 (σ.1 0 3) σ) else (if x1 = 1626 then (f_X7_carried_b483 x1 x2 x3 x2 σ) else (f_X7_carried_b483 x1 x2 x3 (σ.1 0 3) σ))) else (if x3 = 0 then (if (x1 - 216) < 0 ∨ 1410 ≤ ix (x1 - 216) then none else f_X7_carried_b451 x1 x2 x3 (σ.1 10 (ix (x1 - 216))) (x1 - 216) σ) else (f_X7_carried_b451 x1 x2 x3 x2 (x1 - 216) σ))) else (if x3 = 0 then (if (x1 - 75) < 0 ∨ 141 ≤ ix (x1 - 75) then none else f_X7_carried_b406 x1 x2 x3 (σ.1 9 (ix (x1 - 75))) (x1 - 75) σ) else (f_X7_carried_b406 x1 x2 x3 x2 (x1 - 75) σ))) else (sq (x1 - 66) fun y11 => if 4 ≤ y11 then (if x3 = 0 then (if (y11 - 4) < 0 ∨ 5 ≤ ix (y11 - 4) then none else f_X7_carried_b363 x1 x2 x3 y11 (σ.1 8 (ix (y11 - 4))) (y11 - 4) σ) else (f_X7_carried_b363 x1 x2 x3 y11 x2 (y11 - 4) σ)) else (if x3 = 0 then (if y11 < 0 ∨ 4 ≤ ix y11 then none else f_X7_carried_b329 x1 x2 x3 y11 (σ.1 7 (ix y11)) y11 σ) else (f_X7_carried_b329 x1 x2 x3 y11 x2 y11 σ)))) else (sq (irm (x1 - 30) 12) fun y14 => sq ((x1 - 30) / 12) fun y15 => if x3 = 0 then (f_X7_carried_b187 x1 x2 x3 y14 y15 y14 σ) else (if y15 = 0 then (f_X7_carried_b194 x1 x2 x3 y14 y15 x2 y14 σ) else (f_X7_carried_b187 x1 x2 x3 y14 y15 y14 σ)))) else (sq (irm x1 10) fun y19 => if x3 = 0 then (f_X7_carried_b32 x1 x2 x3 y19 y19 σ) else (if 10 ≤ x1 then (f_X7_carried_b32 x1 x2 x3 y19 y19 σ) else (f_X7_carried_b39 x1 x2 x3 y19 x2 y19 σ)))
def f_X7_image_h2 : Nat → Int32 → St → Option (Int32 × St)
  | 0, _, _ => none
  | n2 + 1, v1, σ2 =>
    if 1634 ≤ v1 then (sq (wr σ2 0 26 1) fun s1 => some (1, s1)) else (bdp (f_X7_carried σ2 v1 0 0) fun r3 s4 => if v1 < 0 ∨ 1650 ≤ ix v1 then none else sq (wr s4 16 (ix v1) r3) fun s5 => sq (v1 + 1) fun y6 => f_X7_image_h2 n2 y6 s5)
def f_X7_image (σ : St) : Option (Int32 × St) :=
  f_X7_image_h2 FU 0 σ
def f_X7_restore_h12 : Nat → Int32 → St → Option (Int32 × St)
  | 0, _, _ => none
  | n12 + 1, v1, σ12 =>
    if 1634 ≤ v1 then (some (1, σ12)) else (if v1 < 0 ∨ 1650 ≤ ix v1 then none else bdp (f_X7_carried σ12 v1 (σ12.1 16 (ix v1)) 1) fun r2 s3 => sq (v1 + 1) fun y4 => f_X7_restore_h12 n12 y4 s3)
def f_X7_restore (σ : St) : Option (Int32 × St) :=
  if (σ.1 0 26) = 0 then (some ((-4), σ)) else (f_X7_restore_h12 FU 0 σ)
def f_X7_isSheet (x0 : Int32) (x1 : Int32) : Int32 :=
  if (f_X7_in (x0.toInt64) 0 3) = 0 then (0) else (if (f_X7_in (x1.toInt64) 0 3) = 0 then (0) else (1))
theorem zb_X7_isSheet (x0 : Int32) (x1 : Int32) : f_X7_isSheet x0 x1 &&& 1 = f_X7_isSheet x0 x1 := by
  unfold f_X7_isSheet; (repeat' split) <;> rfl
def f_X7_asLane (x0 : Int32) (x1 : Int64) : Int64 :=
  if x0 = 0 then (lsr (lsl x1 56) 56) else (if x0 = 1 then (lsr (lsl x1 48) 48) else (if x0 = 2 then (lsr (lsl x1 32) 32) else (x1)))
def f_X7_sheet_h40 (x1 : Int32) (x2 : Int32) (x3 : Int32) : Nat → Int32 → St → Option (Int32 × St)
  | 0, _, _ => none
  | n40 + 1, v4, σ40 =>
    if 36 ≤ v4 then (some (x3, σ40)) else (if ((36 * x1) + v4) < 0 ∨ 144 ≤ ix ((36 * x1) + v4) then none else sq (wl σ40 19 (ix ((36 * x1) + v4)) 0) fun s3 => sq (v4 + 1) fun y4 => f_X7_sheet_h40 x1 x2 x3 n40 y4 s3)
def f_X7_sheet (σ : St) (x1 : Int32) (x2 : Int32) (x3 : Int32) : Option (Int32 × St) :=
  if (f_X7_isSheet x1 x2) = 0 then (some ((-1), σ)) else (if x3 ≤ 36 then (if 0 ≤ x3 then (if x1 < 0 ∨ 4 ≤ ix x1 then none else sq (wr σ 17 (ix x1) x2) fun s1 => if x1 < 0 ∨ 4 ≤ ix x1 then none else sq (wr s1 18 (ix x1) x3) fun s2 => f_X7_sheet_h40 x1 x2 x3 FU 0 s2) else (some ((-14), σ))) else (some ((-1), σ)))
def f_X7_drop (σ : St) (x1 : Int32) : Option (Int32 × St) :=
  if (f_X7_in (x1.toInt64) 0 3) = 0 then (some ((-1), σ)) else (if x1 < 0 ∨ 4 ≤ ix x1 then none else if 0 ≤ (σ.1 17 (ix x1)) then (if x1 < 0 ∨ 4 ≤ ix x1 then none else sq (wr σ 17 (ix x1) ((-1))) fun s1 => if x1 < 0 ∨ 4 ≤ ix x1 then none else some (s1.1 18 (ix x1), s1)) else (some ((-11), σ)))
def f_X7_lacksRow (σ : St) (x1 : Int32) (x2 : Int32) (x3 : Int32) (x4 : Int32) : Option Int32 :=
  if x1 < 0 ∨ 4 ≤ ix x1 then none else if (σ.1 17 (ix x1)) = x2 then (if x1 < 0 ∨ 4 ≤ ix x1 then none else if (f_X7_in (x3.toInt64) 0 (((σ.1 18 (ix x1)) - x4).toInt64)) = 0 then (some ((-13))) else (some 0)) else (if x1 < 0 ∨ 4 ≤ ix x1 then none else if 0 ≤ (σ.1 17 (ix x1)) then (some ((-12))) else (some ((-11))))
def f_X7_item (σ : St) (x1 : Int32) (x2 : Int32) (x3 : Int32) (x4 : Int64) : Option (Int32 × St) :=
  if (f_X7_isSheet x1 x2) = 0 then (some ((-1), σ)) else (bdr (f_X7_lacksRow σ x1 x2 x3 1) fun r2 => if 0 ≤ r2 then (if ((36 * x1) + x3) < 0 ∨ 144 ≤ ix ((36 * x1) + x3) then none else sq (wl σ 19 (ix ((36 * x1) + x3)) (f_X7_asLane x2 x4)) fun s3 => some (1, s3)) else (some (r2, σ)))
def f_X7_lacksReadings_h24 (σ : St) (x1 : Int32) (x2 : Int32) (x3 : Int32) (x4 : Int32) : Nat → Int32 → Int32 → Int32 → Option Int32
  | 0, _, _, _ => none
  | n24 + 1, v5, v6, v7 =>
    if x4 ≤ v7 then (some v5) else (if v5 = 0 then (if (v6 + (3 * v7)) < 0 ∨ 144 ≤ ix (v6 + (3 * v7)) then none else if ((v6 + (3 * v7)) + 1) < 0 ∨ 144 ≤ ix ((v6 + (3 * v7)) + 1) then none else if ((v6 + (3 * v7)) + 2) < 0 ∨ 144 ≤ ix ((v6 + (3 * v7)) + 2) then none else if (f_X7_isReading σ (σ.2 19 (ix (v6 + (3 * v7)))) (σ.2 19 (ix ((v6 + (3 * v7)) + 1))) (σ.2 19 (ix ((v6 + (3 * v7)) + 2)))) = 0 then (sq (v7 + 1) fun y4 => f_X7_lacksReadings_h24 σ x1 x2 x3 x4 n24 ((-2)) v6 y4) else (sq (v7 + 1) fun y5 => f_X7_lacksReadings_h24 σ x1 x2 x3 x4 n24 0 v6 y5)) else (some v5))
def f_X7_lacksReadings (σ : St) (x1 : Int32) (x2 : Int32) (x3 : Int32) (x4 : Int32) : Option Int32 :=
  bdr (f_X7_lacksRow σ x1 x2 x3 (3 * x4)) fun r2 => sq ((36 * x1) + x3) fun y3 => f_X7_lacksReadings_h24 σ x1 x2 x3 x4 FU r2 y3 0
def f_X7_which_b194 (rec76 : Int32 → Int32 → Int32 → Option Int32) (rec91 : Int32 → Int32 → Int32 → Int32 → Int32 → Option Int32) (σ : St) (x1 : Int32) (x2 : Int32) (x3 : Int32) (x4 : Int32) (x5 : Int32) (v7 : Int32) (v9 : Int32) (t0 : Int32) (t1 : Int32) : Option Int32 :=
  sq (t1 ||| t0) fun y4 => sq (v9 + 1) fun y5 => rec76 v7 y4 y5
def f_X7_which_b169 (rec76 : Int32 → Int32 → Int32 → Option Int32) (rec91 : Int32 → Int32 → Int32 → Int32 → Int32 → Option Int32) (σ : St) (x1 : Int32) (x2 : Int32) (x3 : Int32) (x4 : Int32) (x5 : Int32) (v7 : Int32) (v8 : Int32) (v9 : Int32) (v11 : Int32) (t0 : Int32) (t1 : Int32) : Option Int32 :=
  sq (t1 ||| t0) fun y9 => sq (v11 + 1) fun y10 => rec91 v7 v8 v9 y9 y10
def f_X7_which_h91 (rec76 : Int32 → Int32 → Int32 → Option Int32) (σ : St) (x1 : Int32) (x2 : Int32) (x3 : Int32) (x4 : Int32) (x5 : Int32) : Nat → Int32 → Int32 → Int32 → Int32 → Int32 → Option Int32
  | 0, _, _, _, _, _ => none
  | n91 + 1, v7, v8, v9, v10, v11 =>
    if x5 ≤ v11 then (if v10 = x1 then (f_X7_which_b194 rec76 (f_X7_which_h91 rec76 σ x1 x2 x3 x4 x5 n91) σ x1 x2 x3 x4 x5 v7 v9 (isl 1 v9) v8) else (f_X7_which_b194 rec76 (f_X7_which_h91 rec76 σ x1 x2 x3 x4 x5 n91) σ x1 x2 x3 x4 x5 v7 v9 0 v8)) else (if (v7 + (3 * v11)) < 0 ∨ 144 ≤ ix (v7 + (3 * v11)) then none else if ((v7 + (3 * v11)) + 1) < 0 ∨ 144 ≤ ix ((v7 + (3 * v11)) + 1) then none else bdr (f_X7_hearers σ ((σ.2 19 (ix (v7 + (3 * v11)))).toInt32) ((σ.2 19 (ix ((v7 + (3 * v11)) + 1))).toInt32) (σ.1 0 11)) fun r7 => sq (f_X7_has r7 v9) fun y8 => if y8 = 0 then (f_X7_which_b169 rec76 (f_X7_which_h91 rec76 σ x1 x2 x3 x4 x5 n91) σ x1 x2 x3 x4 x5 v7 v8 v9 v11 0 v10) else (if ((v7 + (3 * v11)) + 2) < 0 ∨ 144 ≤ ix ((v7 + (3 * v11)) + 2) then none else f_X7_which_b169 rec76 (f_X7_which_h91 rec76 σ x1 x2 x3 x4 x5 n91) σ x1 x2 x3 x4 x5 v7 v8 v9 v11 (isl 1 ((σ.2 19 (ix ((v7 + (3 * v11)) + 2))).toInt32)) v10))
def f_X7_which_h76 (σ : St) (x1 : Int32) (x2 : Int32) (x3 : Int32) (x4 : Int32) (x5 : Int32) : Nat → Int32 → Int32 → Int32 → Option Int32
  | 0, _, _, _ => none
  | n76 + 1, v7, v8, v9 =>
    if (σ.1 0 3) ≤ v9 then (some v8) else (f_X7_which_h91 (f_X7_which_h76 σ x1 x2 x3 x4 x5 n76) σ x1 x2 x3 x4 x5 FU v7 v8 v9 0 0)
def f_X7_which (σ : St) (x1 : Int32) (x2 : Int32) (x3 : Int32) (x4 : Int32) (x5 : Int32) : Option Int32 :=
  if (f_X7_in (x1.toInt64) 0 (((isl 1 (σ.1 0 8)) - 1).toInt64)) = 0 then (some ((-1))) else (if (f_X7_isSheet x2 x3) = 0 then (some ((-1))) else (if (f_X7_in (x5.toInt64) 1 12) = 0 then (some ((-1))) else (bdr (f_X7_lacksReadings σ x2 x3 x4 x5) fun r2 => if 0 ≤ r2 then (sq ((36 * x2) + x4) fun y3 => f_X7_which_h76 σ x1 x2 x3 x4 x5 FU y3 0 0) else (some r2))))
def f_X7_judged_b169 (rec88 : Int32 → Int32 → Int32 → St → Option (Int32 × St)) (x1 : Int32) (x2 : Int32) (x3 : Int32) (x4 : Int32) (v6 : Int32) (v8 : Int32) (v9 : Int32) (v10 : Int32) (v11 : Int32) (t0 : Int32) (σ169 : St) : Option (Int32 × St) :=
  bdr (f_X7_tell σ169 v9 v10 v11) fun s10 => sq (v8 + 1) fun y11 => rec88 v6 t0 y11 s10
def f_X7_judged_h190 (x1 : Int32) (x2 : Int32) (x3 : Int32) (x4 : Int32) : Nat → Int32 → Int32 → St → Option (Int32 × St)
  | 0, _, _, _ => none
  | n190 + 1, v7, v8, σ190 =>
    if 141 ≤ v8 then (some (v7, σ190)) else (if v8 < 0 ∨ 141 ≤ ix v8 then none else if v8 < 0 ∨ 141 ≤ ix v8 then none else sq (wr σ190 9 (ix v8) (σ190.1 20 (ix v8))) fun s12 => sq (v8 + 1) fun y13 => f_X7_judged_h190 x1 x2 x3 x4 n190 v7 y13 s12)
def f_X7_judged_h88 (x1 : Int32) (x2 : Int32) (x3 : Int32) (x4 : Int32) : Nat → Int32 → Int32 → Int32 → St → Option (Int32 × St)
  | 0, _, _, _, _ => none
  | n88 + 1, v6, v7, v8, σ88 =>
    if x4 ≤ v8 then (f_X7_judged_h190 x1 x2 x3 x4 FU v7 0 σ88) else (if 0 ≤ v7 then (f_X7_judged_h190 x1 x2 x3 x4 FU v7 0 σ88) else (if (v6 + (3 * v8)) < 0 ∨ 144 ≤ ix (v6 + (3 * v8)) then none else sq ((σ88.2 19 (ix (v6 + (3 * v8)))).toInt32) fun y4 => if ((v6 + (3 * v8)) + 1) < 0 ∨ 144 ≤ ix ((v6 + (3 * v8)) + 1) then none else sq ((σ88.2 19 (ix ((v6 + (3 * v8)) + 1))).toInt32) fun y5 => if ((v6 + (3 * v8)) + 2) < 0 ∨ 144 ≤ ix ((v6 + (3 * v8)) + 2) then none else sq ((σ88.2 19 (ix ((v6 + (3 * v8)) + 2))).toInt32) fun y6 => bdr (f_X7_wrongedBy σ88 y4 y5 y6) fun r8 => if r8 = 0 then (f_X7_judged_b169 (f_X7_judged_h88 x1 x2 x3 x4 n88) x1 x2 x3 x4 v6 v8 y4 y5 y6 ((-4)) σ88) else (f_X7_judged_b169 (f_X7_judged_h88 x1 x2 x3 x4 n88) x1 x2 x3 x4 v6 v8 y4 y5 y6 v8 σ88)))
def f_X7_judged_h45 (x1 : Int32) (x2 : Int32) (x3 : Int32) (x4 : Int32) : Nat → Int32 → St → Option (Int32 × St)
  | 0, _, _ => none
  | n45 + 1, v6, σ45 =>
    if 141 ≤ v6 then (sq ((36 * x1) + x3) fun y3 => f_X7_judged_h88 x1 x2 x3 x4 FU y3 ((-4)) 0 σ45) else (if v6 < 0 ∨ 141 ≤ ix v6 then none else if v6 < 0 ∨ 141 ≤ ix v6 then none else sq (wr σ45 20 (ix v6) (σ45.1 9 (ix v6))) fun s14 => sq (v6 + 1) fun y15 => f_X7_judged_h45 x1 x2 x3 x4 n45 y15 s14)
def f_X7_judged (σ : St) (x1 : Int32) (x2 : Int32) (x3 : Int32) (x4 : Int32) : Option (Int32 × St) :=
  if (f_X7_isSheet x1 x2) = 0 then (some ((-1), σ)) else (if (f_X7_in (x4.toInt64) 1 12) = 0 then (some ((-1), σ)) else (bdr (f_X7_lacksReadings σ x1 x2 x3 x4) fun r2 => if 0 ≤ r2 then (f_X7_judged_h45 x1 x2 x3 x4 FU 0 σ) else (some (r2, σ))))
def f_X7_film_h34 (x1 : Int32) (x2 : Int32) (x3 : Int32) : Nat → Int32 → St → Option (Int32 × St)
  | 0, _, _ => none
  | n34 + 1, v5, σ34 =>
    if (σ34.1 0 3) ≤ v5 then (some (σ34.1 0 3, σ34)) else (bdr (f_X7_arrears σ34 v5) fun r4 => if (((36 * x1) + x3) + v5) < 0 ∨ 144 ≤ ix (((36 * x1) + x3) + v5) then none else sq (wl σ34 19 (ix (((36 * x1) + x3) + v5)) (f_X7_asLane x2 (r4.toInt64))) fun s5 => sq (v5 + 1) fun y6 => f_X7_film_h34 x1 x2 x3 n34 y6 s5)
def f_X7_film (σ : St) (x1 : Int32) (x2 : Int32) (x3 : Int32) : Option (Int32 × St) :=
  if (f_X7_isSheet x1 x2) = 0 then (some ((-1), σ)) else (bdr (f_X7_lacksRow σ x1 x2 x3 (σ.1 0 3)) fun r2 => if 0 ≤ r2 then (f_X7_film_h34 x1 x2 x3 FU 0 σ) else (some (r2, σ)))
def f_X7_copy_h154 (x1 : Int32) (x2 : Int32) (x3 : Int32) (x4 : Int32) (x5 : Int32) : Nat → Int32 → St → Option (Int32 × St)
  | 0, _, _ => none
  | n154 + 1, v6, σ154 =>
    if x5 ≤ v6 then (some (x5, σ154)) else (if v6 < 0 ∨ 36 ≤ ix v6 then none else if (((36 * x3) + x4) + v6) < 0 ∨ 144 ≤ ix (((36 * x3) + x4) + v6) then none else sq (wl σ154 19 (ix (((36 * x3) + x4) + v6)) (σ154.2 21 (ix v6))) fun s1 => sq (v6 + 1) fun y2 => f_X7_copy_h154 x1 x2 x3 x4 x5 n154 y2 s1)
def f_X7_copy_h117 (x1 : Int32) (x2 : Int32) (x3 : Int32) (x4 : Int32) (x5 : Int32) : Nat → Int32 → St → Option (Int32 × St)
  | 0, _, _ => none
  | n117 + 1, v6, σ117 =>
    if x5 ≤ v6 then (f_X7_copy_h154 x1 x2 x3 x4 x5 FU 0 σ117) else (if (((36 * x1) + x2) + v6) < 0 ∨ 144 ≤ ix (((36 * x1) + x2) + v6) then none else if v6 < 0 ∨ 36 ≤ ix v6 then none else sq (wl σ117 21 (ix v6) (σ117.2 19 (ix (((36 * x1) + x2) + v6)))) fun s3 => sq (v6 + 1) fun y4 => f_X7_copy_h117 x1 x2 x3 x4 x5 n117 y4 s3)
def f_X7_copy (σ : St) (x1 : Int32) (x2 : Int32) (x3 : Int32) (x4 : Int32) (x5 : Int32) : Option (Int32 × St) :=
  if (f_X7_in (x1.toInt64) 0 3) = 0 then (some ((-1), σ)) else (if (f_X7_in (x3.toInt64) 0 3) = 0 then (some ((-1), σ)) else (if x1 < 0 ∨ 4 ≤ ix x1 then none else if (σ.1 17 (ix x1)) < 0 then (some ((-11), σ)) else (if x3 < 0 ∨ 4 ≤ ix x3 then none else if 0 ≤ (σ.1 17 (ix x3)) then (if x1 < 0 ∨ 4 ≤ ix x1 then none else if x3 < 0 ∨ 4 ≤ ix x3 then none else if (σ.1 17 (ix x1)) = (σ.1 17 (ix x3)) then (if x5 < 0 then (some ((-13), σ)) else (if x1 < 0 ∨ 4 ≤ ix x1 then none else if (f_X7_in (x2.toInt64) 0 (((σ.1 18 (ix x1)).toInt64) - (x5.toInt64))) = 0 then (some ((-13), σ)) else (if x3 < 0 ∨ 4 ≤ ix x3 then none else if (f_X7_in (x4.toInt64) 0 (((σ.1 18 (ix x3)).toInt64) - (x5.toInt64))) = 0 then (some ((-13), σ)) else (f_X7_copy_h117 x1 x2 x3 x4 x5 FU 0 σ)))) else (some ((-12), σ))) else (some ((-11), σ)))))
