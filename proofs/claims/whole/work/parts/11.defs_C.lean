def f_X6_isPlace (x0 : Int64) : Int32 :=
  if (lg_cmp x0 0) < 0 then (0) else (if 0 ≤ (lg_cmp x0 36) then (0) else (1))
theorem zb_X6_isPlace (x0 : Int64) : f_X6_isPlace x0 &&& 1 = f_X6_isPlace x0 := by
  unfold f_X6_isPlace; (repeat' split) <;> rfl
def f_X1_add (σ : St) (x1 : Int32) (x2 : Int32) (x3 : Int32) : Option St :=
  if (σ.1 2 0) < 10 then (if (σ.1 2 0) < 0 ∨ 10 ≤ ix (σ.1 2 0) then none else sq (wr σ 3 (ix (σ.1 2 0)) x1) fun s1 => if (s1.1 2 0) < 0 ∨ 10 ≤ ix (s1.1 2 0) then none else sq (wr s1 4 (ix (s1.1 2 0)) x2) fun s2 => if (s2.1 2 0) < 0 ∨ 10 ≤ ix (s2.1 2 0) then none else sq (wr s2 5 (ix (s2.1 2 0)) x3) fun s3 => if (s3.1 2 0) < 0 ∨ 10 ≤ ix (s3.1 2 0) then none else sq (wr s3 6 (ix (s3.1 2 0)) 0) fun s4 => if (s4.1 2 0) < 0 ∨ 10 ≤ ix (s4.1 2 0) then none else sq (wr s4 7 (ix (s4.1 2 0)) 0) fun s5 => sq (wr s5 2 0 ((s5.1 2 0) + 1)) fun s6 => some s6) else (some σ)
def f_X6_grave (σ : St) (x1 : Int32) (x2 : Int32) (x3 : Int32) : Option (Int32 × St) :=
  if x1 < 0 then (some ((-1), σ)) else (if 5 < x1 then (some ((-1), σ)) else (if (f_X6_isPlace (x2.toInt64)) = 0 then (some ((-1), σ)) else (if x3 < 0 then (some ((-1), σ)) else (if x3 ≤ 89 then (if (σ.1 2 0) < 10 then (bdr (f_X1_add σ x1 x2 x3) fun s2 => some ((s2.1 2 0) - 1, s2)) else (some ((-3), σ))) else (some ((-1), σ))))))
def f_X6_out (σ : St) : Option (Int32 × St) :=
  if (σ.1 2 0) = 0 then (some ((-4), σ)) else (sq (wr σ 2 0 ((σ.1 2 0) - 1)) fun s1 => sq (wr s1 1 9 0) fun s2 => some (s2.1 2 0, s2))
def f_X6_reader (σ : St) (x1 : Int32) : Option (Int32 × St) :=
  if x1 < 0 then (some ((-1), σ)) else (if x1 ≤ 9 then (if (σ.1 1 2) < 4 then (if (σ.1 1 2) < 0 ∨ 4 ≤ ix (σ.1 1 2) then none else sq (wr σ 14 (ix (σ.1 1 2)) x1) fun s1 => sq (wr s1 1 2 ((s1.1 1 2) + 1)) fun s2 => some ((s2.1 1 2) - 1, s2)) else (some ((-3), σ))) else (some ((-1), σ)))
def f_X6_isNewsSet (σ : St) (x1 : Int32) : Int32 :=
  if x1 < 0 then (0) else (if (isl 1 (σ.1 9 0)) ≤ x1 then (0) else (1))
theorem zb_X6_isNewsSet (σ : St) (x1 : Int32) : f_X6_isNewsSet σ x1 &&& 1 = f_X6_isNewsSet σ x1 := by
  unfold f_X6_isNewsSet; (repeat' split) <;> rfl
def f_X6_has (x0 : Int32) (x1 : Int32) : Int32 :=
  if ((isr x0 x1) &&& 1) = 0 then (0) else (1)
theorem zb_X6_has (x0 : Int32) (x1 : Int32) : f_X6_has x0 x1 &&& 1 = f_X6_has x0 x1 := by
  unfold f_X6_has; (repeat' split) <;> rfl
def f_X2_areNoLater_h2 (σ : St) (x1 : Int32) (x2 : Int32) : Nat → Int32 → Option Int32
  | 0, _ => none
  | n2 + 1, v3 =>
    if (σ.1 9 0) ≤ v3 then (some 1) else (if (f_X6_has x1 v3) = 0 then (sq (v3 + 1) fun y1 => f_X2_areNoLater_h2 σ x1 x2 n2 y1) else (if v3 < 0 ∨ 12 ≤ ix v3 then none else if (σ.1 10 (ix v3)) ≤ x2 then (sq (v3 + 1) fun y2 => f_X2_areNoLater_h2 σ x1 x2 n2 y2) else (some 0)))
def f_X2_areNoLater (σ : St) (x1 : Int32) (x2 : Int32) : Option Int32 :=
  f_X2_areNoLater_h2 σ x1 x2 FU 0
def f_X2_add (σ : St) (x1 : Int32) (x2 : Int32) (x3 : Int32) (x4 : Int32) : Option St :=
  if (σ.1 9 0) < 12 then (if (σ.1 9 0) < 0 ∨ 12 ≤ ix (σ.1 9 0) then none else sq (wr σ 10 (ix (σ.1 9 0)) x1) fun s1 => if (s1.1 9 0) < 0 ∨ 12 ≤ ix (s1.1 9 0) then none else sq (wr s1 11 (ix (s1.1 9 0)) x2) fun s2 => if (s2.1 9 0) < 0 ∨ 12 ≤ ix (s2.1 9 0) then none else sq (wr s2 12 (ix (s2.1 9 0)) x3) fun s3 => if (s3.1 9 0) < 0 ∨ 12 ≤ ix (s3.1 9 0) then none else sq (wr s3 13 (ix (s3.1 9 0)) x4) fun s4 => sq (wr s4 9 0 ((s4.1 9 0) + 1)) fun s5 => sq (wr s5 9 1 0) fun s6 => some s6) else (some σ)
def f_X6_news (σ : St) (x1 : Int32) (x2 : Int32) (x3 : Int32) : Option (Int32 × St) :=
  if x1 < 0 then (some ((-1), σ)) else (if 99 < x1 then (some ((-1), σ)) else (if x3 < 0 then (some ((-1), σ)) else (if x3 ≤ 1 then (if (f_X6_isNewsSet σ x2) = 0 then (some ((-1), σ)) else (bdr (f_X2_areNoLater σ x2 x1) fun r2 => if r2 = 0 then (some ((-1), σ)) else (if (σ.1 9 0) < 12 then (bdr (f_X2_add σ x1 x2 0 x3) fun s4 => some ((s4.1 9 0) - 1, s4)) else (some ((-3), σ))))) else (some ((-1), σ)))))
def f_X6_isNews (σ : St) (x1 : Int64) : Int32 :=
  if (lg_cmp x1 0) < 0 then (0) else (if 0 ≤ (lg_cmp x1 ((σ.1 9 0).toInt64)) then (0) else (1))
theorem zb_X6_isNews (σ : St) (x1 : Int64) : f_X6_isNews σ x1 &&& 1 = f_X6_isNews σ x1 := by
  unfold f_X6_isNews; (repeat' split) <;> rfl
def f_X6_bar (σ : St) (x1 : Int32) (x2 : Int32) : Option (Int32 × St) :=
  if (f_X6_isNews σ (x1.toInt64)) = 0 then (some ((-1), σ)) else (if x2 < 0 then (some ((-1), σ)) else (if x2 < 1024 then (if x1 < 0 ∨ 12 ≤ ix x1 then none else sq (σ.1 12 (ix x1)) fun y1 => if x1 < 0 ∨ 12 ≤ ix x1 then none else sq (wr σ 12 (ix x1) x2) fun s2 => some (y1, s2)) else (some ((-1), σ))))
def f_X6_isWind (x0 : Int32) : Int32 :=
  if x0 < 0 then (0) else (if 5 ≤ x0 then (0) else (1))
theorem zb_X6_isWind (x0 : Int32) : f_X6_isWind x0 &&& 1 = f_X6_isWind x0 := by
  unfold f_X6_isWind; (repeat' split) <;> rfl
def f_X6_wind (σ : St) (x1 : Int32) : Option (Int32 × St) :=
  if (f_X6_isWind x1) = 0 then (some ((-1), σ)) else (sq (σ.1 1 4) fun y1 => sq (wr σ 1 4 x1) fun s2 => some (y1, s2))
def f_X6_weight (σ : St) (x1 : Int32) (x2 : Int32) : Option (Int32 × St) :=
  if (f_X6_isWind x1) = 0 then (some ((-1), σ)) else (if x2 < 0 then (some ((-1), σ)) else (if x2 ≤ 9 then (if x1 < 0 ∨ 5 ≤ ix x1 then none else sq (σ.1 15 (ix x1)) fun y1 => if x1 < 0 ∨ 5 ≤ ix x1 then none else sq (wr σ 15 (ix x1) x2) fun s2 => some (y1, s2)) else (some ((-1), σ))))
def f_X6_now (σ : St) (x1 : Int32) : Option (Int32 × St) :=
  if x1 < 0 then (some ((-1), σ)) else (if x1 ≤ 99 then (sq (σ.1 1 6) fun y1 => sq (wr σ 1 6 x1) fun s2 => some (y1, s2)) else (some ((-1), σ)))
def f_X6_isGrave (σ : St) (x1 : Int32) : Int32 :=
  if x1 < 0 then (0) else (if (σ.1 2 0) ≤ x1 then (0) else (1))
theorem zb_X6_isGrave (σ : St) (x1 : Int32) : f_X6_isGrave σ x1 &&& 1 = f_X6_isGrave σ x1 := by
  unfold f_X6_isGrave; (repeat' split) <;> rfl
def f_X3_isOwed (σ : St) (x1 : Int32) (x2 : Int32) : Option Int32 :=
  if x2 < 0 ∨ 12 ≤ ix x2 then none else if (f_X6_has (σ.1 12 (ix x2)) x1) = 0 then (if x2 < 0 ∨ 12 ≤ ix x2 then none else if x1 < 0 ∨ 10 ≤ ix x1 then none else sq ((σ.1 10 (ix x2)) - (σ.1 5 (ix x1))) fun y1 => if y1 < 0 then (some 0) else (if y1 ≤ 8 then (if x1 < 0 ∨ 10 ≤ ix x1 then none else if (σ.1 3 (ix x1)) = 2 then (if x2 < 0 ∨ 12 ≤ ix x2 then none else if (σ.1 13 (ix x2)) = 1 then (some 1) else (some 0)) else if (σ.1 3 (ix x1)) = 3 then (some 0) else if (σ.1 3 (ix x1)) = 4 then (if y1 = 0 then (some 0) else (some 1)) else if (σ.1 3 (ix x1)) = 5 then (if x2 < 0 ∨ 12 ≤ ix x2 then none else if (σ.1 13 (ix x2)) = 1 then (some 1) else (if y1 = 0 then (some 1) else (some 0))) else (some 1)) else (some 0))) else (some 0)
def f_X3_owedAmong_h5 (σ : St) (x1 : Int32) (x2 : Int32) : Nat → Int32 → Int32 → Option Int32
  | 0, _, _ => none
  | n5 + 1, v3, v4 =>
    if (σ.1 9 0) ≤ v4 then (some v3) else (if (f_X6_has x2 v4) = 0 then (sq (v4 + 1) fun y1 => f_X3_owedAmong_h5 σ x1 x2 n5 v3 y1) else (bdr (f_X3_isOwed σ x1 v4) fun r3 => if r3 = 0 then (sq (v4 + 1) fun y4 => f_X3_owedAmong_h5 σ x1 x2 n5 v3 y4) else (sq (v3 ||| (isl 1 v4)) fun y5 => sq (v4 + 1) fun y6 => f_X3_owedAmong_h5 σ x1 x2 n5 y5 y6)))
def f_X3_owedAmong (σ : St) (x1 : Int32) (x2 : Int32) : Option Int32 :=
  f_X3_owedAmong_h5 σ x1 x2 FU 0 0
def f_X3_owedTo (σ : St) (x1 : Int32) : Option Int32 :=
  bdr (f_X3_owedAmong σ x1 ((isl 1 (σ.1 9 0)) - 1)) fun r2 => some r2
def f_X3_arrearsOf (σ : St) (x1 : Int32) : Option Int32 :=
  if x1 < 0 ∨ 10 ≤ ix x1 then none else bdr (f_X3_owedAmong σ x1 (((isl 1 (σ.1 9 0)) - 1) &&& ((σ.1 6 (ix x1)) ^^^ ((-1))))) fun r2 => some r2
def f_X3_isLate_h8 (σ : St) (x1 : Int32) : Nat → Int32 → Int32 → Option Int32
  | 0, _, _ => none
  | n8 + 1, v2, v3 =>
    if (σ.1 9 0) ≤ v3 then (some 0) else (if (f_X6_has v2 v3) = 0 then (sq (v3 + 1) fun y3 => f_X3_isLate_h8 σ x1 n8 v2 y3) else (if v3 < 0 ∨ 12 ≤ ix v3 then none else if ((σ.1 1 6) - (σ.1 10 (ix v3))) < 9 then (sq (v3 + 1) fun y4 => f_X3_isLate_h8 σ x1 n8 v2 y4) else (some 1)))
def f_X3_isLate (σ : St) (x1 : Int32) : Option Int32 :=
  bdr (f_X3_arrearsOf σ x1) fun r2 => f_X3_isLate_h8 σ x1 FU r2 0
def f_X6_told (σ : St) (x1 : Int32) (x2 : Int32) : Option Int32 :=
  if (f_X6_isGrave σ x1) = 0 then (some ((-1))) else (if x2 = 0 then (if x1 < 0 ∨ 10 ≤ ix x1 then none else some (σ.1 3 (ix x1))) else if x2 = 1 then (if x1 < 0 ∨ 10 ≤ ix x1 then none else some (σ.1 4 (ix x1))) else if x2 = 2 then (if x1 < 0 ∨ 10 ≤ ix x1 then none else some (σ.1 5 (ix x1))) else if x2 = 3 then (if x1 < 0 ∨ 10 ≤ ix x1 then none else some (σ.1 6 (ix x1))) else if x2 = 4 then (bdr (f_X3_owedTo σ x1) fun r2 => some r2) else if x2 = 5 then (bdr (f_X3_arrearsOf σ x1) fun r4 => some r4) else if x2 = 6 then (if x1 < 0 ∨ 10 ≤ ix x1 then none else some (σ.1 7 (ix x1))) else if x2 = 7 then (bdr (f_X3_isLate σ x1) fun r6 => if r6 = 0 then (some 0) else (some 1)) else (some ((-1))))
def f_X3_owedBy_h4 (σ : St) (x1 : Int32) : Nat → Int32 → Int32 → Option Int32
  | 0, _, _ => none
  | n4 + 1, v2, v3 =>
    if (σ.1 2 0) ≤ v3 then (some v2) else (bdr (f_X3_isOwed σ v3 x1) fun r2 => if r2 = 0 then (sq (v3 + 1) fun y3 => f_X3_owedBy_h4 σ x1 n4 v2 y3) else (sq (v2 ||| (isl 1 v3)) fun y4 => sq (v3 + 1) fun y5 => f_X3_owedBy_h4 σ x1 n4 y4 y5))
def f_X3_owedBy (σ : St) (x1 : Int32) : Option Int32 :=
  f_X3_owedBy_h4 σ x1 FU 0 0
def f_X3_heardOf_h4 (σ : St) (x1 : Int32) : Nat → Int32 → Int32 → Option Int32
  | 0, _, _ => none
  | n4 + 1, v2, v3 =>
    if (σ.1 2 0) ≤ v3 then (some v2) else (if v3 < 0 ∨ 10 ≤ ix v3 then none else if (f_X6_has (σ.1 6 (ix v3)) x1) = 0 then (sq (v3 + 1) fun y1 => f_X3_heardOf_h4 σ x1 n4 v2 y1) else (sq (v2 ||| (isl 1 v3)) fun y2 => sq (v3 + 1) fun y3 => f_X3_heardOf_h4 σ x1 n4 y2 y3))
def f_X3_heardOf (σ : St) (x1 : Int32) : Option Int32 :=
  f_X3_heardOf_h4 σ x1 FU 0 0
def f_X6_of (σ : St) (x1 : Int32) (x2 : Int32) : Option Int32 :=
  if (f_X6_isNews σ (x1.toInt64)) = 0 then (some ((-1))) else (if x2 = 0 then (if x1 < 0 ∨ 12 ≤ ix x1 then none else some (σ.1 10 (ix x1))) else if x2 = 1 then (if x1 < 0 ∨ 12 ≤ ix x1 then none else some (σ.1 11 (ix x1))) else if x2 = 2 then (if x1 < 0 ∨ 12 ≤ ix x1 then none else some (σ.1 12 (ix x1))) else if x2 = 3 then (if x1 < 0 ∨ 12 ≤ ix x1 then none else some (σ.1 13 (ix x1))) else if x2 = 4 then (bdr (f_X3_owedBy σ x1) fun r2 => some r2) else if x2 = 5 then (bdr (f_X3_heardOf σ x1) fun r4 => some r4) else (some ((-1))))
def f_X5_add (σ : St) (x1 : Int32) : Option St :=
  if (σ.1 37 0) < 160 then (if (σ.1 37 0) < 0 ∨ 160 ≤ ix (σ.1 37 0) then none else sq (wr σ 38 (ix (σ.1 37 0)) (vp_nar .byte (x1.toInt8.toInt32))) fun s1 => sq (wr s1 37 0 ((s1.1 37 0) + 1)) fun s2 => some s2) else (some σ)
def f_X6_type (σ : St) (x1 : Int32) : Option (Int32 × St) :=
  if x1 < 32 then (some ((-1), σ)) else (if x1 ≤ 126 then (if (σ.1 37 0) < 160 then (bdr (f_X5_add σ x1) fun s2 => some (s2.1 37 0, s2)) else (some ((-3), σ))) else (some ((-1), σ)))
def f_X5_nextLetter_h0 : Nat → St → Option (Int32 × St)
  | 0, _ => none
  | n0 + 1, σ0 =>
    if (σ0.1 37 0) ≤ (σ0.1 37 1) then (some ((-1), σ0)) else (if (σ0.1 37 1) < 0 ∨ 160 ≤ ix (σ0.1 37 1) then none else if (σ0.1 38 (ix (σ0.1 37 1))) = 32 then (sq (wr σ0 37 1 ((σ0.1 37 1) + 1)) fun s1 => f_X5_nextLetter_h0 n0 s1) else (if (σ0.1 37 1) < 0 ∨ 160 ≤ ix (σ0.1 37 1) then none else some (σ0.1 38 (ix (σ0.1 37 1)), σ0)))
def f_X5_nextLetter (σ : St) : Option (Int32 × St) :=
  f_X5_nextLetter_h0 FU σ
def f_X5_kindOf (x0 : Int32) : Int32 :=
  if x0 = 100 then (1) else if x0 = 101 then (3) else if x0 = 102 then (4) else if x0 = 103 then ((-1)) else if x0 = 104 then ((-1)) else if x0 = 105 then (2) else if x0 = 106 then ((-1)) else if x0 = 107 then ((-1)) else if x0 = 108 then ((-1)) else if x0 = 109 then ((-1)) else if x0 = 110 then (5) else if x0 = 111 then ((-1)) else if x0 = 112 then (0) else ((-1))
def f_X5_takeFigure (σ : St) (x1 : Int32) : Option (Int32 × St) :=
  bdp (f_X5_nextLetter σ) fun r2 s3 => sq (r2 - 48) fun y4 => if y4 < 0 then (some ((-1), s3)) else (if y4 < x1 then (sq (wr s3 37 1 ((s3.1 37 1) + 1)) fun s5 => some (y4, s5)) else (some ((-1), s3)))
def f_X5_takes (σ : St) (x1 : Int32) : Option (Int32 × St) :=
  bdp (f_X5_nextLetter σ) fun r2 s3 => if r2 = x1 then (sq (wr s3 37 1 ((s3.1 37 1) + 1)) fun s4 => some (1, s4)) else (some (0, s3))
def f_X5_takeNumber_b103 (x1 : Int32) (v2 : Int32) (σ103 : St) : Option (Int32 × St) :=
  sq (wr σ103 37 1 v2) fun s7 => some ((-1), s7)
def f_X5_takeNumber_b88 (x1 : Int32) (v2 : Int32) (v3 : Int32) (σ88 : St) : Option (Int32 × St) :=
  if (σ88.1 37 1) ≤ v2 then (f_X5_takeNumber_b103 x1 v2 σ88) else (if x1 < v3 then (f_X5_takeNumber_b103 x1 v2 σ88) else (some (v3, σ88)))
def f_X5_takeNumber_h12 (x1 : Int32) : Nat → Int32 → Int32 → St → Option (Int32 × St)
  | 0, _, _, _ => none
  | n12 + 1, v2, v3, σ12 =>
    if (σ12.1 37 0) ≤ (σ12.1 37 1) then (f_X5_takeNumber_b88 x1 v2 v3 σ12) else (if (σ12.1 37 1) < 0 ∨ 160 ≤ ix (σ12.1 37 1) then none else if (σ12.1 38 (ix (σ12.1 37 1))) < 48 then (f_X5_takeNumber_b88 x1 v2 v3 σ12) else (if (σ12.1 37 1) < 0 ∨ 160 ≤ ix (σ12.1 37 1) then none else if 57 < (σ12.1 38 (ix (σ12.1 37 1))) then (f_X5_takeNumber_b88 x1 v2 v3 σ12) else (if (σ12.1 37 1) < 0 ∨ 160 ≤ ix (σ12.1 37 1) then none else sq (imin (((v3 * 10) + (σ12.1 38 (ix (σ12.1 37 1)))) - 48) 1000) fun y5 => sq (wr σ12 37 1 ((σ12.1 37 1) + 1)) fun s6 => f_X5_takeNumber_h12 x1 n12 v2 y5 s6)))
def f_X5_takeNumber (σ : St) (x1 : Int32) : Option (Int32 × St) :=
  bdp (f_X5_nextLetter σ) fun r2 s3 => sq (s3.1 37 1) fun y4 => f_X5_takeNumber_h12 x1 FU y4 0 s3
def f_X1_add_39 (σ : St) (x1 : Int32) (x2 : Int32) (x3 : Int32) : Option St :=
  if (σ.1 39 0) < 10 then (if (σ.1 39 0) < 0 ∨ 10 ≤ ix (σ.1 39 0) then none else sq (wr σ 40 (ix (σ.1 39 0)) x1) fun s1 => if (s1.1 39 0) < 0 ∨ 10 ≤ ix (s1.1 39 0) then none else sq (wr s1 41 (ix (s1.1 39 0)) x2) fun s2 => if (s2.1 39 0) < 0 ∨ 10 ≤ ix (s2.1 39 0) then none else sq (wr s2 42 (ix (s2.1 39 0)) x3) fun s3 => if (s3.1 39 0) < 0 ∨ 10 ≤ ix (s3.1 39 0) then none else sq (wr s3 43 (ix (s3.1 39 0)) 0) fun s4 => if (s4.1 39 0) < 0 ∨ 10 ≤ ix (s4.1 39 0) then none else sq (wr s4 44 (ix (s4.1 39 0)) 0) fun s5 => sq (wr s5 39 0 ((s5.1 39 0) + 1)) fun s6 => some s6) else (some σ)
def f_X5_takeGrave_39 (σ : St) : Option (Int32 × St) :=
  bdp (f_X5_nextLetter σ) fun r2 s3 => sq (f_X5_kindOf r2) fun y4 => if 0 ≤ y4 then (sq (wr s3 37 1 ((s3.1 37 1) + 1)) fun s5 => bdp (f_X5_takeFigure s5 6) fun r7 s8 => if 0 ≤ r7 then (bdp (f_X5_takeFigure s8 6) fun r10 s11 => if r10 < 0 then (some (0, s11)) else (bdp (f_X5_takes s11 64) fun r13 s14 => if r13 = 0 then (some (0, s14)) else (bdp (f_X5_takeNumber s14 89) fun r16 s17 => if 0 ≤ r16 then (bdr (f_X1_add_39 s17 y4 ((6 * r7) + r10) r16) fun s19 => some (1, s19)) else (some (0, s17))))) else (some (0, s8))) else (some (0, s3))
def f_X5_takeYard_39_h12 : Nat → Int32 → St → Option (Int32 × St)
  | 0, _, _ => none
  | n12 + 1, v2, σ12 =>
    if 10 ≤ v2 then (some (0, σ12)) else (bdp (f_X5_takeGrave_39 σ12) fun r4 s5 => if r4 = 0 then (some (0, s5)) else (bdp (f_X5_nextLetter s5) fun r7 s8 => if r7 = ((-1)) then (some (1, s8)) else (if v2 = 9 then (some (0, s8)) else (bdp (f_X5_takes s8 44) fun r10 s11 => if r10 = 0 then (some (0, s11)) else (sq (v2 + 1) fun y12 => f_X5_takeYard_39_h12 n12 y12 s11)))))
def f_X5_takeYard_39 (σ : St) : Option (Int32 × St) :=
  sq (wr σ 37 1 0) fun s1 => sq (wr s1 39 0 0) fun s2 => f_X5_takeYard_39_h12 FU 0 s2
def f_X1_become_39 (σ : St) : Option St :=
  sq (wr σ 2 0 (σ.1 39 0)) fun s1 => if (0 : Int32) < 0 ∨ (0 : Int32) < 0 ∨ (10 : Int32) < 0 ∨ 10 < ix (0 : Int32) + ix (10 : Int32) ∨ 10 < ix (0 : Int32) + ix (10 : Int32) then none else sq (wrow s1 3 (va_cpy (s1.1 40) (s1.1 3) (ix 0) (ix 0) (ix 10))) fun s2 => if (0 : Int32) < 0 ∨ (0 : Int32) < 0 ∨ (10 : Int32) < 0 ∨ 10 < ix (0 : Int32) + ix (10 : Int32) ∨ 10 < ix (0 : Int32) + ix (10 : Int32) then none else sq (wrow s2 4 (va_cpy (s2.1 41) (s2.1 4) (ix 0) (ix 0) (ix 10))) fun s3 => if (0 : Int32) < 0 ∨ (0 : Int32) < 0 ∨ (10 : Int32) < 0 ∨ 10 < ix (0 : Int32) + ix (10 : Int32) ∨ 10 < ix (0 : Int32) + ix (10 : Int32) then none else sq (wrow s3 5 (va_cpy (s3.1 42) (s3.1 5) (ix 0) (ix 0) (ix 10))) fun s4 => if (0 : Int32) < 0 ∨ (0 : Int32) < 0 ∨ (10 : Int32) < 0 ∨ 10 < ix (0 : Int32) + ix (10 : Int32) ∨ 10 < ix (0 : Int32) + ix (10 : Int32) then none else sq (wrow s4 6 (va_cpy (s4.1 43) (s4.1 6) (ix 0) (ix 0) (ix 10))) fun s5 => if (0 : Int32) < 0 ∨ (0 : Int32) < 0 ∨ (10 : Int32) < 0 ∨ 10 < ix (0 : Int32) + ix (10 : Int32) ∨ 10 < ix (0 : Int32) + ix (10 : Int32) then none else sq (wrow s5 7 (va_cpy (s5.1 44) (s5.1 7) (ix 0) (ix 0) (ix 10))) fun s6 => if (0 : Int32) < 0 ∨ (0 : Int32) < 0 ∨ (120 : Int32) < 0 ∨ 120 < ix (0 : Int32) + ix (120 : Int32) ∨ 120 < ix (0 : Int32) + ix (120 : Int32) then none else sq (wrow s6 8 (va_cpy (s6.1 45) (s6.1 8) (ix 0) (ix 0) (ix 120))) fun s7 => some s7
def f_X5_faultHere (σ : St) : Int32 :=
  ((-20)) - (σ.1 37 1)
def f_X6_yard (σ : St) : Option (Int32 × St) :=
  bdp (f_X5_takeYard_39 σ) fun r2 s3 => sq (wr s3 37 0 0) fun s4 => if r2 = 0 then (some (f_X5_faultHere s4, s4)) else (bdr (f_X1_become_39 s4) fun s6 => sq (wr s6 1 9 0) fun s7 => some (s7.1 2 0, s7))
def f_X2_clear_46 (σ : St) : Option St :=
  sq (wr σ 46 0 0) fun s1 => sq (wr s1 46 1 0) fun s2 => some s2
def f_X5_takeAhead_46_b81 (x2 : Int32) (v3 : Int32) (σ81 : St) : Option (Int32 × St) :=
  if v3 = 0 then (some ((-1), σ81)) else (some (v3, σ81))
def f_X5_takeAhead_46_h5 (x2 : Int32) : Nat → Int32 → Int32 → St → Option (Int32 × St)
  | 0, _, _, _ => none
  | n5 + 1, v3, v4, σ5 =>
    if 12 ≤ v4 then (f_X5_takeAhead_46_b81 x2 v3 σ5) else (bdp (f_X5_nextLetter σ5) fun r2 s3 => sq (r2 - 97) fun y4 => if y4 < 0 then (f_X5_takeAhead_46_b81 x2 v3 s3) else (if (s3.1 46 0) ≤ y4 then (f_X5_takeAhead_46_b81 x2 v3 s3) else (if (f_X6_has v3 y4) = 0 then (if y4 < 0 ∨ 12 ≤ ix y4 then none else if (s3.1 47 (ix y4)) ≤ x2 then (sq (v3 ||| (isl 1 y4)) fun y5 => sq (wr s3 37 1 ((s3.1 37 1) + 1)) fun s6 => sq (v4 + 1) fun y7 => f_X5_takeAhead_46_h5 x2 n5 y5 y7 s6) else (f_X5_takeAhead_46_b81 x2 v3 s3)) else (f_X5_takeAhead_46_b81 x2 v3 s3))))
def f_X5_takeAhead_46 (σ : St) (x2 : Int32) : Option (Int32 × St) :=
  f_X5_takeAhead_46_h5 x2 FU 0 0 σ
def f_X5_takeBarred_b61 (v1 : Int32) (σ61 : St) : Option (Int32 × St) :=
  if v1 = 0 then (some ((-1), σ61)) else (some (v1, σ61))
def f_X5_takeBarred_h4 : Nat → Int32 → Int32 → St → Option (Int32 × St)
  | 0, _, _, _ => none
  | n4 + 1, v1, v2, σ4 =>
    if 10 ≤ v2 then (f_X5_takeBarred_b61 v1 σ4) else (bdp (f_X5_nextLetter σ4) fun r2 s3 => sq (r2 - 48) fun y4 => if y4 < 0 then (f_X5_takeBarred_b61 v1 s3) else (if 10 ≤ y4 then (f_X5_takeBarred_b61 v1 s3) else (if (f_X6_has v1 y4) = 0 then (sq (v1 ||| (isl 1 y4)) fun y5 => sq (wr s3 37 1 ((s3.1 37 1) + 1)) fun s6 => sq (v2 + 1) fun y7 => f_X5_takeBarred_h4 n4 y5 y7 s6) else (f_X5_takeBarred_b61 v1 s3))))
def f_X5_takeBarred (σ : St) : Option (Int32 × St) :=
  f_X5_takeBarred_h4 FU 0 0 σ
def f_X2_add_46 (σ : St) (x1 : Int32) (x2 : Int32) (x3 : Int32) (x4 : Int32) : Option St :=
  if (σ.1 46 0) < 12 then (if (σ.1 46 0) < 0 ∨ 12 ≤ ix (σ.1 46 0) then none else sq (wr σ 47 (ix (σ.1 46 0)) x1) fun s1 => if (s1.1 46 0) < 0 ∨ 12 ≤ ix (s1.1 46 0) then none else sq (wr s1 48 (ix (s1.1 46 0)) x2) fun s2 => if (s2.1 46 0) < 0 ∨ 12 ≤ ix (s2.1 46 0) then none else sq (wr s2 49 (ix (s2.1 46 0)) x3) fun s3 => if (s3.1 46 0) < 0 ∨ 12 ≤ ix (s3.1 46 0) then none else sq (wr s3 50 (ix (s3.1 46 0)) x4) fun s4 => sq (wr s4 46 0 ((s4.1 46 0) + 1)) fun s5 => sq (wr s5 46 1 0) fun s6 => some s6) else (some σ)
def f_X5_takeNews_46_b73 (v2 : Int32) (v3 : Int32) (v4 : Int32) (t0 : Int32) (σ73 : St) : Option (Int32 × St) :=
  if 0 ≤ t0 then (bdr (f_X2_add_46 σ73 v2 v4 t0 v3) fun s20 => some (1, s20)) else (some (0, σ73))
def f_X5_takeNews_46_b47 (v2 : Int32) (v3 : Int32) (t0 : Int32) (σ47 : St) : Option (Int32 × St) :=
  if 0 ≤ t0 then (bdp (f_X5_takes σ47 33) fun r14 s15 => if r14 = 0 then (f_X5_takeNews_46_b73 v2 v3 t0 0 s15) else (bdp (f_X5_takeBarred s15) fun r17 s18 => f_X5_takeNews_46_b73 v2 v3 t0 r17 s18)) else (some (0, σ47))
def f_X5_takeNews_46_b27 (v2 : Int32) (t0 : Int32) (σ27 : St) : Option (Int32 × St) :=
  bdp (f_X5_takes σ27 60) fun r8 s9 => if r8 = 0 then (f_X5_takeNews_46_b47 v2 t0 0 s9) else (bdp (f_X5_takeAhead_46 s9 v2) fun r11 s12 => f_X5_takeNews_46_b47 v2 t0 r11 s12)
def f_X5_takeNews_46 (σ : St) : Option (Int32 × St) :=
  bdp (f_X5_takeNumber σ 99) fun r2 s3 => if 0 ≤ r2 then (bdp (f_X5_takes s3 115) fun r5 s6 => if r5 = 0 then (f_X5_takeNews_46_b27 r2 0 s6) else (f_X5_takeNews_46_b27 r2 1 s6)) else (some (0, s3))
def f_X5_takePaper_46_h11 : Nat → Int32 → St → Option (Int32 × St)
  | 0, _, _ => none
  | n11 + 1, v2, σ11 =>
    if 12 ≤ v2 then (some (0, σ11)) else (bdp (f_X5_takeNews_46 σ11) fun r5 s6 => if r5 = 0 then (some (0, s6)) else (bdp (f_X5_nextLetter s6) fun r8 s9 => if r8 = ((-1)) then (some (1, s9)) else (if v2 = 11 then (some (0, s9)) else (bdp (f_X5_takes s9 44) fun r11 s12 => if r11 = 0 then (some (0, s12)) else (sq (v2 + 1) fun y13 => f_X5_takePaper_46_h11 n11 y13 s12)))))
def f_X5_takePaper_46 (σ : St) : Option (Int32 × St) :=
  sq (wr σ 37 1 0) fun s1 => bdr (f_X2_clear_46 s1) fun s3 => f_X5_takePaper_46_h11 FU 0 s3
def f_X2_become_46 (σ : St) : Option St :=
  sq (wr σ 9 0 (σ.1 46 0)) fun s1 => sq (wr s1 9 1 (s1.1 46 1)) fun s2 => if (0 : Int32) < 0 ∨ (0 : Int32) < 0 ∨ (12 : Int32) < 0 ∨ 12 < ix (0 : Int32) + ix (12 : Int32) ∨ 12 < ix (0 : Int32) + ix (12 : Int32) then none else sq (wrow s2 10 (va_cpy (s2.1 47) (s2.1 10) (ix 0) (ix 0) (ix 12))) fun s3 => if (0 : Int32) < 0 ∨ (0 : Int32) < 0 ∨ (12 : Int32) < 0 ∨ 12 < ix (0 : Int32) + ix (12 : Int32) ∨ 12 < ix (0 : Int32) + ix (12 : Int32) then none else sq (wrow s3 11 (va_cpy (s3.1 48) (s3.1 11) (ix 0) (ix 0) (ix 12))) fun s4 => if (0 : Int32) < 0 ∨ (0 : Int32) < 0 ∨ (12 : Int32) < 0 ∨ 12 < ix (0 : Int32) + ix (12 : Int32) ∨ 12 < ix (0 : Int32) + ix (12 : Int32) then none else sq (wrow s4 12 (va_cpy (s4.1 49) (s4.1 12) (ix 0) (ix 0) (ix 12))) fun s5 => if (0 : Int32) < 0 ∨ (0 : Int32) < 0 ∨ (12 : Int32) < 0 ∨ 12 < ix (0 : Int32) + ix (12 : Int32) ∨ 12 < ix (0 : Int32) + ix (12 : Int32) then none else sq (wrow s5 13 (va_cpy (s5.1 50) (s5.1 13) (ix 0) (ix 0) (ix 12))) fun s6 => some s6
def f_J7_fill_53178_6_h5 (x1 : Int32) : Nat → Int32 → Int32 → St → Option St
  | 0, _, _, _ => none
  | n5 + 1, v2, v3, σ5 =>
    if v3 ≤ v2 then (some σ5) else (if v2 < 0 ∨ 10 ≤ ix v2 then none else sq (wr σ5 6 (ix v2) x1) fun s1 => sq (v2 + 1) fun y2 => f_J7_fill_53178_6_h5 x1 n5 y2 v3 s1)
def f_J7_fill_53178_6 (σ : St) (x1 : Int32) : Option St :=
  f_J7_fill_53178_6_h5 x1 FU 0 10 σ
def f_J7_fill_53178_7_h5 (x1 : Int32) : Nat → Int32 → Int32 → St → Option St
  | 0, _, _, _ => none
  | n5 + 1, v2, v3, σ5 =>
    if v3 ≤ v2 then (some σ5) else (if v2 < 0 ∨ 10 ≤ ix v2 then none else sq (wr σ5 7 (ix v2) x1) fun s1 => sq (v2 + 1) fun y2 => f_J7_fill_53178_7_h5 x1 n5 y2 v3 s1)
def f_J7_fill_53178_7 (σ : St) (x1 : Int32) : Option St :=
  f_J7_fill_53178_7_h5 x1 FU 0 10 σ
def f_X1_forget (σ : St) : Option St :=
  bdr (f_J7_fill_53178_6 σ 0) fun s2 => bdr (f_J7_fill_53178_7 s2 0) fun s4 => some s4
def f_X6_paper (σ : St) : Option (Int32 × St) :=
  bdp (f_X5_takePaper_46 σ) fun r2 s3 => sq (wr s3 37 0 0) fun s4 => if r2 = 0 then (some (f_X5_faultHere s4, s4)) else (bdr (f_X2_become_46 s4) fun s6 => bdr (f_X1_forget s6) fun s8 => sq (wr s8 1 9 0) fun s9 => some (s9.1 9 0, s9))
def f_X5_takeReading (σ : St) (x1 : Int32) (x2 : Int32) : Option (Int32 × St) :=
  bdp (f_X5_takeFigure σ x1) fun r2 s3 => if 0 ≤ r2 then (bdp (f_X5_takeFigure s3 6) fun r5 s6 => if 0 ≤ r5 then (bdp (f_X5_takeFigure s6 6) fun r8 s9 => if 0 ≤ r8 then (bdp (f_X5_nextLetter s9) fun r11 s12 => sq (r11 - 97) fun y13 => if y13 < 0 then (some ((-1), s12)) else (if y13 < x2 then (sq (wr s12 37 1 ((s12.1 37 1) + 1)) fun s14 => some (((((r2 * 36) + (6 * r5)) + r8) * 12) + y13, s14)) else (some ((-1), s12)))) else (some ((-1), s9))) else (some ((-1), s6))) else (some ((-1), s3))
def f_X5_takeDay_51_h8 (x2 : Int32) (x3 : Int32) : Nat → Int32 → St → Option (Int32 × St)
  | 0, _, _ => none
  | n8 + 1, v4, σ8 =>
    if 32 ≤ v4 then (some ((-1), σ8)) else (bdp (f_X5_takeReading σ8 x2 x3) fun r3 s4 => if v4 < 0 ∨ 32 ≤ ix v4 then none else sq (wr s4 51 (ix v4) r3) fun s5 => if v4 < 0 ∨ 32 ≤ ix v4 then none else if 0 ≤ (s5.1 51 (ix v4)) then (bdp (f_X5_nextLetter s5) fun r7 s8 => if r7 = ((-1)) then (some (v4 + 1, s8)) else (bdp (f_X5_takes s8 59) fun r10 s11 => if r10 = 0 then (some ((-1), s11)) else (sq (v4 + 1) fun y12 => f_X5_takeDay_51_h8 x2 x3 n8 y12 s11))) else (some ((-1), s5)))
def f_X5_takeDay_51 (σ : St) (x2 : Int32) (x3 : Int32) : Option (Int32 × St) :=
  sq (wr σ 37 1 0) fun s1 => f_X5_takeDay_51_h8 x2 x3 FU 0 s1
def f_X5_readerIn (x0 : Int32) : Int32 :=
  (x0 / 12) / 36
def f_X5_placeIn (x0 : Int32) : Int32 :=
  irm (x0 / 12) 36
def f_X5_newsIn (x0 : Int32) : Int32 :=
  irm x0 12
def f_X3_alongWind (x0 : Int32) (x1 : Int32) (x2 : Int32) : Int32 :=
  if x0 = 1 then (-x1) else if x0 = 2 then (x2) else if x0 = 3 then (x1) else if x0 = 4 then (-x2) else (0)
def f_J6_compare_7cf53 (x0 : Int32) (x1 : Int32) : Int32 :=
  if x1 ≤ x0 then (if x0 = x1 then (0) else (1)) else ((-1))
def f_X3_farFrom (x0 : Int32) (x1 : Int32) (x2 : Int32) : Int32 :=
  sq ((x1 / 6) - (x0 / 6)) fun y1 => sq ((irm x1 6) - (irm x0 6)) fun y2 => ((iabs y1) + (iabs y2)) - (f_J6_compare_7cf53 (f_X3_alongWind x2 y1 y2) 0)
def f_X3_kindHears_b65 (x0 : Int32) (x1 : Int32) (x2 : Int32) (x3 : Int32) : Int32 :=
  if x2 < x1 then (0) else (1)
def f_X3_kindHears (x0 : Int32) (x1 : Int32) (x2 : Int32) (x3 : Int32) : Int32 :=
  if x0 = 1 then (if (x2 - 1) < x1 then (0) else (1)) else if x0 = 2 then (f_X3_kindHears_b65 x0 x1 x2 x3) else if x0 = 3 then (0) else if x0 = 4 then (if x3 = 3 then (0) else (if (x2 - 1) < x1 then (0) else (1))) else (f_X3_kindHears_b65 x0 x1 x2 x3)
theorem zb_X3_kindHears (x0 : Int32) (x1 : Int32) (x2 : Int32) (x3 : Int32) : f_X3_kindHears x0 x1 x2 x3 &&& 1 = f_X3_kindHears x0 x1 x2 x3 := by
  unfold f_X3_kindHears f_X3_kindHears_b65; (repeat' split) <;> rfl
def f_X3_hearers_h6 (σ : St) (x1 : Int32) (x2 : Int32) (x3 : Int32) : Nat → Int32 → Int32 → Option Int32
  | 0, _, _ => none
  | n6 + 1, v4, v5 =>
    if (σ.1 2 0) ≤ v5 then (some v4) else (if v5 < 0 ∨ 10 ≤ ix v5 then none else sq (f_X3_farFrom x2 (σ.1 4 (ix v5)) x3) fun y1 => if v5 < 0 ∨ 10 ≤ ix v5 then none else if x1 < 0 ∨ 4 ≤ ix x1 then none else if (f_X3_kindHears (σ.1 3 (ix v5)) y1 (σ.1 14 (ix x1)) x3) = 0 then (sq (v5 + 1) fun y2 => f_X3_hearers_h6 σ x1 x2 x3 n6 v4 y2) else (sq (v4 ||| (isl 1 v5)) fun y3 => sq (v5 + 1) fun y4 => f_X3_hearers_h6 σ x1 x2 x3 n6 y3 y4))
def f_X3_hearers (σ : St) (x1 : Int32) (x2 : Int32) (x3 : Int32) : Option Int32 :=
  f_X3_hearers_h6 σ x1 x2 x3 FU 0 0
def f_X3_isWrong (σ : St) (x1 : Int32) (x2 : Int32) (x3 : Int32) : Option Int32 :=
  if x2 < 0 ∨ 12 ≤ ix x2 then none else if (f_X6_has (σ.1 12 (ix x2)) x1) = 0 then (if (f_X6_has x3 x2) = 0 then (if x2 < 0 ∨ 12 ≤ ix x2 then none else bdr (f_X3_owedAmong σ x1 ((σ.1 11 (ix x2)) &&& (x3 ^^^ ((-1))))) fun r2 => if r2 = 0 then (some 0) else (some 1)) else (some 1)) else (some 1)
def f_X3_wrongedOf_6_h6 (σ : St) (x1 : Int32) (x2 : Int32) : Nat → Int32 → Int32 → Option Int32
  | 0, _, _ => none
  | n6 + 1, v4, v5 =>
    if (σ.1 2 0) ≤ v5 then (some v4) else (if (f_X6_has x1 v5) = 0 then (sq (v5 + 1) fun y1 => f_X3_wrongedOf_6_h6 σ x1 x2 n6 v4 y1) else (if v5 < 0 ∨ 10 ≤ ix v5 then none else bdr (f_X3_isWrong σ v5 x2 (σ.1 6 (ix v5))) fun r3 => if r3 = 0 then (sq (v5 + 1) fun y4 => f_X3_wrongedOf_6_h6 σ x1 x2 n6 v4 y4) else (sq (v4 ||| (isl 1 v5)) fun y5 => sq (v5 + 1) fun y6 => f_X3_wrongedOf_6_h6 σ x1 x2 n6 y5 y6)))
def f_X3_wrongedOf_6 (σ : St) (x1 : Int32) (x2 : Int32) : Option Int32 :=
  f_X3_wrongedOf_6_h6 σ x1 x2 FU 0 0
def f_X3_keepUndo_b70 (x1 : Int32) (x2 : Int32) (x3 : Int32) (σ70 : St) : Option St :=
  if (σ70.1 1 9) < 0 ∨ 10 ≤ ix (σ70.1 1 9) then none else sq (wr σ70 16 (ix (σ70.1 1 9)) x1) fun s5 => if (s5.1 1 9) < 0 ∨ 10 ≤ ix (s5.1 1 9) then none else sq (wr s5 17 (ix (s5.1 1 9)) x2) fun s6 => if (s6.1 1 9) < 0 ∨ 10 ≤ ix (s6.1 1 9) then none else sq (wr s6 18 (ix (s6.1 1 9)) x3) fun s7 => sq (wr s7 1 9 ((s7.1 1 9) + 1)) fun s8 => some s8
def f_X3_keepUndo (σ : St) (x1 : Int32) (x2 : Int32) (x3 : Int32) : Option St :=
  if (σ.1 1 9) = 10 then (sq (wr σ 1 9 ((σ.1 1 9) - 1)) fun s1 => if (1 : Int32) < 0 ∨ (0 : Int32) < 0 ∨ (s1.1 1 9) < 0 ∨ 10 < ix (1 : Int32) + ix (s1.1 1 9) ∨ 10 < ix (0 : Int32) + ix (s1.1 1 9) then none else sq (wrow s1 16 (va_cpy (s1.1 16) (s1.1 16) (ix 1) (ix 0) (ix (s1.1 1 9)))) fun s2 => if (1 : Int32) < 0 ∨ (0 : Int32) < 0 ∨ (s2.1 1 9) < 0 ∨ 10 < ix (1 : Int32) + ix (s2.1 1 9) ∨ 10 < ix (0 : Int32) + ix (s2.1 1 9) then none else sq (wrow s2 17 (va_cpy (s2.1 17) (s2.1 17) (ix 1) (ix 0) (ix (s2.1 1 9)))) fun s3 => if (1 : Int32) < 0 ∨ (0 : Int32) < 0 ∨ (s3.1 1 9) < 0 ∨ 10 < ix (1 : Int32) + ix (s3.1 1 9) ∨ 10 < ix (0 : Int32) + ix (s3.1 1 9) then none else sq (wrow s3 18 (va_cpy (s3.1 18) (s3.1 18) (ix 1) (ix 0) (ix (s3.1 1 9)))) fun s4 => f_X3_keepUndo_b70 x1 x2 x3 s4) else (f_X3_keepUndo_b70 x1 x2 x3 σ)
def f_X3_hold_b120 (rec37 : Int32 → Int32 → Int32 → Int32 → Int32 → St → Option (Int32 × St)) (x1 : Int32) (x2 : Int32) (x3 : Int32) (v4 : Int32) (v5 : Int32) (v6 : Int32) (v7 : Int32) (v8 : Int32) (σ120 : St) : Option (Int32 × St) :=
  if (f_X6_has v5 v8) = 0 then (sq (v8 + 1) fun y11 => rec37 v4 v5 v6 v7 y11 σ120) else (if v8 < 0 ∨ 10 ≤ ix v8 then none else if 99 ≤ (σ120.1 7 (ix v8)) then (sq (v8 + 1) fun y12 => rec37 v4 v5 v6 v7 y12 σ120) else (if v8 < 0 ∨ 10 ≤ ix v8 then none else if v8 < 0 ∨ 10 ≤ ix v8 then none else sq (wr σ120 7 (ix v8) ((σ120.1 7 (ix v8)) + 1)) fun s13 => sq (v7 ||| (isl 1 v8)) fun y14 => sq (v8 + 1) fun y15 => rec37 v4 v5 v6 y14 y15 s13))
def f_X3_hold_h37 (x1 : Int32) (x2 : Int32) (x3 : Int32) : Nat → Int32 → Int32 → Int32 → Int32 → Int32 → St → Option (Int32 × St)
  | 0, _, _, _, _, _, _ => none
  | n37 + 1, v4, v5, v6, v7, v8, σ37 =>
    if (σ37.1 2 0) ≤ v8 then (sq (wr σ37 1 8 ((σ37.1 1 8) + 1)) fun s5 => bdr (f_X3_keepUndo s5 x3 v6 v7) fun s7 => if v5 = 0 then (some (1, s7)) else (some (0, s7))) else (if (f_X6_has v4 v8) = 0 then (f_X3_hold_b120 (f_X3_hold_h37 x1 x2 x3 n37) x1 x2 x3 v4 v5 v6 v7 v8 σ37) else (if v8 < 0 ∨ 10 ≤ ix v8 then none else if (f_X6_has (σ37.1 6 (ix v8)) x3) = 0 then (if v8 < 0 ∨ 10 ≤ ix v8 then none else if v8 < 0 ∨ 10 ≤ ix v8 then none else sq (wr σ37 6 (ix v8) ((σ37.1 6 (ix v8)) ||| (isl 1 x3))) fun s8 => if ((v8 * 12) + x3) < 0 ∨ 120 ≤ ix ((v8 * 12) + x3) then none else sq (wr s8 8 (ix ((v8 * 12) + x3)) (s8.1 1 8)) fun s9 => sq (v6 ||| (isl 1 v8)) fun y10 => f_X3_hold_b120 (f_X3_hold_h37 x1 x2 x3 n37) x1 x2 x3 v4 v5 y10 v7 v8 s9) else (f_X3_hold_b120 (f_X3_hold_h37 x1 x2 x3 n37) x1 x2 x3 v4 v5 v6 v7 v8 σ37)))
def f_X3_hold (σ : St) (x1 : Int32) (x2 : Int32) (x3 : Int32) : Option (Int32 × St) :=
  bdr (f_X3_hearers σ x1 x2 (σ.1 1 4)) fun r2 => bdr (f_X3_wrongedOf_6 σ r2 x3) fun r4 => f_X3_hold_h37 x1 x2 x3 FU r2 r4 0 0 0 σ
def f_X6_day_h53 : Nat → Int32 → Int32 → Int32 → St → Option (Int32 × St)
  | 0, _, _, _, _ => none
  | n53 + 1, v1, v2, v3, σ53 =>
    if v1 ≤ v3 then (some (v2, σ53)) else (if 32 ≤ v3 then (some (v2, σ53)) else (if 9999 ≤ (σ53.1 1 8) then (some (v2, σ53)) else (if v3 < 0 ∨ 32 ≤ ix v3 then none else sq (σ53.1 51 (ix v3)) fun y5 => bdp (f_X3_hold σ53 (f_X5_readerIn y5) (f_X5_placeIn y5) (f_X5_newsIn y5)) fun r7 s8 => if r7 = 0 then (sq (v3 + 1) fun y9 => f_X6_day_h53 n53 v1 v2 y9 s8) else (sq (v2 + 1) fun y10 => sq (v3 + 1) fun y11 => f_X6_day_h53 n53 v1 y10 y11 s8))))
def f_X6_day (σ : St) : Option (Int32 × St) :=
  bdp (f_X5_takeDay_51 σ (σ.1 1 2) (σ.1 9 0)) fun r2 s3 => sq (wr s3 37 0 0) fun s4 => if 0 ≤ r2 then (f_X6_day_h53 FU r2 0 0 s4) else (some (f_X5_faultHere s4, s4))
def f_J6_bitCount_0f7a4 (x0 : Int32) : Int32 :=
  sq (x0 - ((iur x0 1) &&& 1431655765)) fun y1 => sq ((y1 &&& 858993459) + ((iur y1 2) &&& 858993459)) fun y2 => sq ((y2 + (iur y2 4)) &&& 252645135) fun y3 => sq (y3 + (iur y3 8)) fun y4 => sq (y4 + (iur y4 16)) fun y5 => y5 &&& 63
def f_X3_allArrears_h4 (σ : St) : Nat → Int32 → Int32 → Option Int32
  | 0, _, _ => none
  | n4 + 1, v1, v2 =>
    if (σ.1 2 0) ≤ v2 then (some v1) else (bdr (f_X3_arrearsOf σ v2) fun r2 => sq (v1 + (f_J6_bitCount_0f7a4 r2)) fun y3 => sq (v2 + 1) fun y4 => f_X3_allArrears_h4 σ n4 y3 y4)
def f_X3_allArrears (σ : St) : Option Int32 :=
  f_X3_allArrears_h4 σ FU 0 0
def f_X3_paidGraves_h4 (σ : St) : Nat → Int32 → Int32 → Option Int32
  | 0, _, _ => none
  | n4 + 1, v1, v2 =>
    if (σ.1 2 0) ≤ v2 then (some v1) else (bdr (f_X3_arrearsOf σ v2) fun r2 => if r2 = 0 then (sq (v1 + 1) fun y4 => sq (v2 + 1) fun y5 => f_X3_paidGraves_h4 σ n4 y4 y5) else (sq (v2 + 1) fun y3 => f_X3_paidGraves_h4 σ n4 v1 y3))
def f_X3_paidGraves (σ : St) : Option Int32 :=
  f_X3_paidGraves_h4 σ FU 0 0
def f_X3_lateGraves_h4 (σ : St) : Nat → Int32 → Int32 → Option Int32
  | 0, _, _ => none
  | n4 + 1, v1, v2 =>
    if (σ.1 2 0) ≤ v2 then (some v1) else (bdr (f_X3_isLate σ v2) fun r2 => if r2 = 0 then (sq (v2 + 1) fun y3 => f_X3_lateGraves_h4 σ n4 v1 y3) else (sq (v1 + 1) fun y4 => sq (v2 + 1) fun y5 => f_X3_lateGraves_h4 σ n4 y4 y5))
def f_X3_lateGraves (σ : St) : Option Int32 :=
  f_X3_lateGraves_h4 σ FU 0 0
def f_X1_allWrongs_h4 (σ : St) : Nat → Int32 → Int32 → Option Int32
  | 0, _, _ => none
  | n4 + 1, v1, v2 =>
    if (σ.1 2 0) ≤ v2 then (some v1) else (if v2 < 0 ∨ 10 ≤ ix v2 then none else sq (v1 + (σ.1 7 (ix v2))) fun y1 => sq (v2 + 1) fun y2 => f_X1_allWrongs_h4 σ n4 y1 y2)
def f_X1_allWrongs (σ : St) : Option Int32 :=
  f_X1_allWrongs_h4 σ FU 0 0
def f_X6_count (σ : St) (x1 : Int32) : Option Int32 :=
  if x1 = 0 then (some (σ.1 2 0)) else if x1 = 1 then (some (σ.1 9 0)) else if x1 = 2 then (some (σ.1 1 2)) else if x1 = 3 then (some (σ.1 1 8)) else if x1 = 4 then (bdr (f_X3_allArrears σ) fun r2 => some r2) else if x1 = 5 then (bdr (f_X3_paidGraves σ) fun r4 => some r4) else if x1 = 6 then (bdr (f_X3_lateGraves σ) fun r6 => some r6) else if x1 = 7 then (some (σ.1 1 9)) else if x1 = 8 then (some (σ.1 1 4)) else if x1 = 9 then (bdr (f_X1_allWrongs σ) fun r8 => some r8) else (some ((-1)))
def f_X6_isReader (σ : St) (x1 : Int64) : Int32 :=
  if (lg_cmp x1 0) < 0 then (0) else (if 0 ≤ (lg_cmp x1 ((σ.1 1 2).toInt64)) then (0) else (1))
theorem zb_X6_isReader (σ : St) (x1 : Int64) : f_X6_isReader σ x1 &&& 1 = f_X6_isReader σ x1 := by
  unfold f_X6_isReader; (repeat' split) <;> rfl
def f_X6_hears (σ : St) (x1 : Int32) (x2 : Int32) : Option Int32 :=
  if (f_X6_isReader σ (x1.toInt64)) = 0 then (some ((-1))) else (if (f_X6_isPlace (x2.toInt64)) = 0 then (some ((-1))) else (bdr (f_X3_hearers σ x1 x2 (σ.1 1 4)) fun r2 => some r2))
def f_X6_isReading (σ : St) (x1 : Int64) (x3 : Int64) (x5 : Int64) : Int32 :=
  if (f_X6_isReader σ x1) = 0 then (0) else (if (f_X6_isPlace x3) = 0 then (0) else (if (f_X6_isNews σ x5) = 0 then (0) else (1)))
theorem zb_X6_isReading (σ : St) (x1 : Int64) (x3 : Int64) (x5 : Int64) : f_X6_isReading σ x1 x3 x5 &&& 1 = f_X6_isReading σ x1 x3 x5 := by
  unfold f_X6_isReading; (repeat' split) <;> rfl
def f_X6_wronged (σ : St) (x1 : Int32) (x2 : Int32) (x3 : Int32) : Option Int32 :=
  if (f_X6_isReading σ (x1.toInt64) (x2.toInt64) (x3.toInt64)) = 0 then (some ((-1))) else (bdr (f_X3_hearers σ x1 x2 (σ.1 1 4)) fun r2 => bdr (f_X3_wrongedOf_6 σ r2 x3) fun r4 => some r4)
def f_X6_read (σ : St) (x1 : Int32) (x2 : Int32) (x3 : Int32) : Option (Int32 × St) :=
  if (f_X6_isReading σ (x1.toInt64) (x2.toInt64) (x3.toInt64)) = 0 then (some ((-1), σ)) else (if (σ.1 1 8) < 9999 then (bdp (f_X3_hold σ x1 x2 x3) fun r2 s3 => bdr (f_X3_hearers s3 x1 x2 (s3.1 1 4)) fun r5 => some (r5, s3)) else (some ((-3), σ)))
def f_X3_unhold_b82 (rec30 : Int32 → St → Option St) (v1 : Int32) (σ82 : St) : Option St :=
  if (σ82.1 1 9) < 0 ∨ 10 ≤ ix (σ82.1 1 9) then none else if (f_X6_has (σ82.1 18 (ix (σ82.1 1 9))) v1) = 0 then (sq (v1 + 1) fun y4 => rec30 y4 σ82) else (if v1 < 0 ∨ 10 ≤ ix v1 then none else if v1 < 0 ∨ 10 ≤ ix v1 then none else sq (wr σ82 7 (ix v1) ((σ82.1 7 (ix v1)) - 1)) fun s5 => sq (v1 + 1) fun y6 => rec30 y6 s5)
def f_X3_unhold_h30 : Nat → Int32 → St → Option St
  | 0, _, _ => none
  | n30 + 1, v1, σ30 =>
    if (σ30.1 2 0) ≤ v1 then (some σ30) else (if (σ30.1 1 9) < 0 ∨ 10 ≤ ix (σ30.1 1 9) then none else if (f_X6_has (σ30.1 17 (ix (σ30.1 1 9))) v1) = 0 then (f_X3_unhold_b82 (f_X3_unhold_h30 n30) v1 σ30) else (if v1 < 0 ∨ 10 ≤ ix v1 then none else if (σ30.1 1 9) < 0 ∨ 10 ≤ ix (σ30.1 1 9) then none else if v1 < 0 ∨ 10 ≤ ix v1 then none else sq (wr σ30 6 (ix v1) ((σ30.1 6 (ix v1)) &&& ((isl 1 (σ30.1 16 (ix (σ30.1 1 9)))) ^^^ ((-1))))) fun s3 => f_X3_unhold_b82 (f_X3_unhold_h30 n30) v1 s3))
def f_X3_unhold (σ : St) : Option St :=
  if 0 < (σ.1 1 9) then (sq (wr σ 1 9 ((σ.1 1 9) - 1)) fun s1 => sq (wr s1 1 8 ((s1.1 1 8) - 1)) fun s2 => f_X3_unhold_h30 FU 0 s2) else (some σ)
def f_X6_undo (σ : St) : Option (Int32 × St) :=
  if (σ.1 1 9) = 0 then (some ((-4), σ)) else (bdr (f_X3_unhold σ) fun s2 => some (s2.1 1 9, s2))
def f_X3_drawn (σ : St) (x1 : Int32) : Option (Int32 × St) :=
  sq (wr σ 1 7 ((((σ.1 1 7) * 1103515245) + 12345) &&& 2147483647)) fun s1 => if x1 ≤ 0 then (some (0, s1)) else (if x1 = 0 then none else some (irm (isr (s1.1 1 7) 16) x1, s1))
def f_X6_lots_h61 (x1 : Int32) : Nat → Int32 → Int32 → St → Option (Int32 × St)
  | 0, _, _, _ => none
  | n61 + 1, v2, v3, σ61 =>
    if x1 ≤ v3 then (some (v2, σ61)) else (bdp (f_X3_drawn σ61 5) fun r2 s3 => sq (wr s3 1 4 r2) fun s4 => bdp (f_X3_drawn s4 (s4.1 1 2)) fun r6 s7 => bdp (f_X3_drawn s7 36) fun r9 s10 => bdp (f_X3_drawn s10 (s10.1 9 0)) fun r12 s13 => bdp (f_X3_hold s13 r6 r9 r12) fun r15 s16 => if r15 = 0 then (sq (v3 + 1) fun y17 => f_X6_lots_h61 x1 n61 v2 y17 s16) else (sq (v2 + 1) fun y18 => sq (v3 + 1) fun y19 => f_X6_lots_h61 x1 n61 y18 y19 s16))
def f_X6_lots (σ : St) (x1 : Int32) : Option (Int32 × St) :=
  if x1 < 1 then (some ((-1), σ)) else (if x1 ≤ 30 then (if (σ.1 1 2) = 0 then (some ((-2), σ)) else (if (σ.1 9 0) = 0 then (some ((-2), σ)) else (if ((σ.1 1 8) + x1) ≤ 9999 then (f_X6_lots_h61 x1 FU 0 0 σ) else (some ((-3), σ))))) else (some ((-1), σ)))
def f_X6_seed (σ : St) (x1 : Int32) : Option (Int32 × St) :=
  if 0 ≤ x1 then (sq (σ.1 1 7) fun y1 => sq (wr σ 1 7 x1) fun s2 => some (y1, s2)) else (some ((-1), σ))
def f_X3_inArrearsOf (σ : St) (x1 : Int32) : Option Int32 :=
  bdr (f_X3_owedBy σ x1) fun r2 => bdr (f_X3_heardOf σ x1) fun r4 => some (r2 &&& (r4 ^^^ ((-1))))
def f_X6_stand_h39 (σ : St) (x1 : Int32) (x2 : Int32) : Nat → Int32 → Int32 → Int32 → Int32 → Option Int32
  | 0, _, _, _, _ => none
  | n39 + 1, v3, v4, v5, v6 =>
    if 36 ≤ v6 then (some v4) else (bdr (f_X3_hearers σ x1 v6 (σ.1 1 4)) fun r4 => sq (f_J6_bitCount_0f7a4 (r4 &&& v3)) fun y5 => if y5 ≤ v5 then (sq (v6 + 1) fun y6 => f_X6_stand_h39 σ x1 x2 n39 v3 v4 v5 y6) else (bdr (f_X3_wrongedOf_6 σ r4 x2) fun r8 => if r8 = 0 then (sq (v6 + 1) fun y10 => f_X6_stand_h39 σ x1 x2 n39 v3 v6 y5 y10) else (sq (v6 + 1) fun y9 => f_X6_stand_h39 σ x1 x2 n39 v3 v4 v5 y9)))
def f_X6_stand (σ : St) (x1 : Int32) (x2 : Int32) : Option Int32 :=
  if (f_X6_isReader σ (x1.toInt64)) = 0 then (some ((-1))) else (if (f_X6_isNews σ (x2.toInt64)) = 0 then (some ((-1))) else (bdr (f_X3_inArrearsOf σ x2) fun r2 => f_X6_stand_h39 σ x1 x2 FU r2 ((-4)) 0 0))
def f_X0_clear (σ : St) : Option St :=
  sq (wr σ 62 0 0) fun s1 => some s1
def f_X0_isFound_b38 (x1 : Int32) (x2 : Int32) (x3 : Int32) (x4 : Int32) (σ38 : St) : Option (Int32 × St) :=
  if x1 ≤ 2 then (some (1, σ38)) else (if x4 < 0 ∨ 36 ≤ ix x4 then none else if (2 : Int32) < 0 ∨ 3 ≤ ix 2 then none else sq (wr σ38 65 (ix 2) (σ38.1 63 (ix x4))) fun s4 => some (1, s4))
def f_X0_isFound_b21 (x1 : Int32) (x2 : Int32) (x3 : Int32) (x4 : Int32) (σ21 : St) : Option (Int32 × St) :=
  if x1 ≤ 1 then (f_X0_isFound_b38 x1 x2 x3 x4 σ21) else (if x3 < 0 ∨ 36 ≤ ix x3 then none else if (1 : Int32) < 0 ∨ 3 ≤ ix 1 then none else sq (wr σ21 65 (ix 1) (σ21.1 63 (ix x3))) fun s3 => f_X0_isFound_b38 x1 x2 x3 x4 s3)
def f_X0_isFound (σ : St) (x1 : Int32) (x2 : Int32) (x3 : Int32) (x4 : Int32) : Option (Int32 × St) :=
  sq (wr σ 62 3 x1) fun s1 => if x1 ≤ 0 then (f_X0_isFound_b21 x1 x2 x3 x4 s1) else (if x2 < 0 ∨ 36 ≤ ix x2 then none else if (0 : Int32) < 0 ∨ 3 ≤ ix 0 then none else sq (wr s1 65 (ix 0) (s1.1 63 (ix x2))) fun s2 => f_X0_isFound_b21 x1 x2 x3 x4 s2)
def f_X0_searchOne_h2 (x1 : Int32) : Nat → Int32 → St → Option (Int32 × St)
  | 0, _, _ => none
  | n2 + 1, v2, σ2 =>
    if (σ2.1 62 0) ≤ v2 then (some (0, σ2)) else (if v2 < 0 ∨ 36 ≤ ix v2 then none else if (x1 &&& ((σ2.1 64 (ix v2)) ^^^ ((-1)))) = 0 then (bdp (f_X0_isFound σ2 1 v2 0 0) fun r3 s4 => if ¬ r3 &&& 1 = r3 then none else some (r3, s4)) else (sq (v2 + 1) fun y1 => f_X0_searchOne_h2 x1 n2 y1 σ2))
def f_X0_searchOne (σ : St) (x1 : Int32) : Option (Int32 × St) :=
  f_X0_searchOne_h2 x1 FU 0 σ
def f_X0_searchTwo_h26 (rec2 : Int32 → St → Option (Int32 × St)) (x1 : Int32) : Nat → Int32 → Int32 → Int32 → St → Option (Int32 × St)
  | 0, _, _, _, _ => none
  | n26 + 1, v2, v3, v4, σ26 =>
    if (σ26.1 62 0) ≤ v4 then (sq (v2 + 1) fun y3 => rec2 y3 σ26) else (if v2 < 0 ∨ 36 ≤ ix v2 then none else if v4 < 0 ∨ 36 ≤ ix v4 then none else if ((σ26.1 64 (ix v2)) &&& (σ26.1 64 (ix v4))) = 0 then (if v4 < 0 ∨ 36 ≤ ix v4 then none else if (v3 &&& ((σ26.1 64 (ix v4)) ^^^ ((-1)))) = 0 then (bdp (f_X0_isFound σ26 2 v2 v4 0) fun r7 s8 => if ¬ r7 &&& 1 = r7 then none else some (r7, s8)) else (sq (v4 + 1) fun y5 => f_X0_searchTwo_h26 rec2 x1 n26 v2 v3 y5 σ26)) else (sq (v4 + 1) fun y4 => f_X0_searchTwo_h26 rec2 x1 n26 v2 v3 y4 σ26))
def f_X0_searchTwo_h2 (x1 : Int32) : Nat → Int32 → St → Option (Int32 × St)
  | 0, _, _ => none
  | n2 + 1, v2, σ2 =>
    if (σ2.1 62 0) ≤ v2 then (some (0, σ2)) else (if v2 < 0 ∨ 36 ≤ ix v2 then none else sq (x1 &&& ((σ2.1 64 (ix v2)) ^^^ ((-1)))) fun y1 => sq (v2 + 1) fun y2 => f_X0_searchTwo_h26 (f_X0_searchTwo_h2 x1 n2) x1 FU v2 y1 y2 σ2)
def f_X0_searchTwo (σ : St) (x1 : Int32) : Option (Int32 × St) :=
  f_X0_searchTwo_h2 x1 FU 0 σ
def f_X0_searchThree_h61 (rec2 : Int32 → St → Option (Int32 × St)) (rec14 : Int32 → Int32 → St → Option (Int32 × St)) (x1 : Int32) : Nat → Int32 → Int32 → Int32 → Int32 → St → Option (Int32 × St)
  | 0, _, _, _, _, _ => none
  | n61 + 1, v2, v3, v4, v5, σ61 =>
    if (σ61.1 62 0) ≤ v5 then (sq (v3 + 1) fun y5 => rec14 v2 y5 σ61) else (if v5 < 0 ∨ 36 ≤ ix v5 then none else if (v4 &&& (σ61.1 64 (ix v5))) = 0 then (if v5 < 0 ∨ 36 ≤ ix v5 then none else if (x1 &&& ((v4 ||| (σ61.1 64 (ix v5))) ^^^ ((-1)))) = 0 then (bdp (f_X0_isFound σ61 3 v2 v3 v5) fun r9 s10 => if ¬ r9 &&& 1 = r9 then none else some (r9, s10)) else (sq (v5 + 1) fun y7 => f_X0_searchThree_h61 rec2 rec14 x1 n61 v2 v3 v4 y7 σ61)) else (sq (v5 + 1) fun y6 => f_X0_searchThree_h61 rec2 rec14 x1 n61 v2 v3 v4 y6 σ61))
def f_X0_searchThree_h14 (rec2 : Int32 → St → Option (Int32 × St)) (x1 : Int32) : Nat → Int32 → Int32 → St → Option (Int32 × St)
  | 0, _, _, _ => none
  | n14 + 1, v2, v3, σ14 =>
    if (σ14.1 62 0) ≤ v3 then (sq (v2 + 1) fun y2 => rec2 y2 σ14) else (if v2 < 0 ∨ 36 ≤ ix v2 then none else if v3 < 0 ∨ 36 ≤ ix v3 then none else if ((σ14.1 64 (ix v2)) &&& (σ14.1 64 (ix v3))) = 0 then (if v2 < 0 ∨ 36 ≤ ix v2 then none else if v3 < 0 ∨ 36 ≤ ix v3 then none else sq ((σ14.1 64 (ix v2)) ||| (σ14.1 64 (ix v3))) fun y3 => sq (v3 + 1) fun y4 => f_X0_searchThree_h61 rec2 (f_X0_searchThree_h14 rec2 x1 n14) x1 FU v2 v3 y3 y4 σ14) else (sq (v3 + 1) fun y11 => f_X0_searchThree_h14 rec2 x1 n14 v2 y11 σ14))
def f_X0_searchThree_h2 (x1 : Int32) : Nat → Int32 → St → Option (Int32 × St)
  | 0, _, _ => none
  | n2 + 1, v2, σ2 =>
    if (σ2.1 62 0) ≤ v2 then (some (0, σ2)) else (sq (v2 + 1) fun y1 => f_X0_searchThree_h14 (f_X0_searchThree_h2 x1 n2) x1 FU v2 y1 σ2)
def f_X0_searchThree (σ : St) (x1 : Int32) : Option (Int32 × St) :=
  f_X0_searchThree_h2 x1 FU 0 σ
def f_X0_search (σ : St) (x1 : Int32) : Option (Int32 × St) :=
  if x1 = 0 then (bdp (f_X0_isFound σ 0 0 0 0) fun r11 s12 => if ¬ r11 &&& 1 = r11 then none else some (r11, s12)) else (bdp (f_X0_searchOne σ x1) fun r2 s3 => if r2 = 0 then (bdp (f_X0_searchTwo s3 x1) fun r5 s6 => if r5 = 0 then (bdp (f_X0_searchThree s6 x1) fun r8 s9 => if r8 = 0 then (some (0, s9)) else (some (1, s9))) else (some (1, s6))) else (some (1, s3)))
def f_X0_add (σ : St) (x1 : Int32) (x2 : Int32) : Option St :=
  if (σ.1 62 0) < 36 then (if (σ.1 62 0) < 0 ∨ 36 ≤ ix (σ.1 62 0) then none else sq (wr σ 63 (ix (σ.1 62 0)) x1) fun s1 => if (s1.1 62 0) < 0 ∨ 36 ≤ ix (s1.1 62 0) then none else sq (wr s1 64 (ix (s1.1 62 0)) x2) fun s2 => sq (wr s2 62 0 ((s2.1 62 0) + 1)) fun s3 => some s3) else (some σ)
def f_X6_cover_h50 (x1 : Int32) (x2 : Int32) (x3 : Int32) : Nat → Int32 → Int32 → St → Option (Int32 × St)
  | 0, _, _, _ => none
  | n50 + 1, v4, v5, σ50 =>
    if 36 ≤ v5 then (bdp (f_X0_search σ50 v4) fun r6 s7 => if r6 = 0 then (some ((-4), s7)) else (if x3 = ((-1)) then (some (s7.1 62 3, s7)) else (if (s7.1 62 3) ≤ x3 then (some ((-4), s7)) else (if x3 < 0 ∨ 3 ≤ ix x3 then none else some (s7.1 65 (ix x3), s7))))) else (bdr (f_X3_hearers σ50 x1 v5 (σ50.1 1 4)) fun r9 => if (r9 &&& v4) = 0 then (sq (v5 + 1) fun y16 => f_X6_cover_h50 x1 x2 x3 n50 v4 y16 σ50) else (bdr (f_X3_wrongedOf_6 σ50 r9 x2) fun r11 => if r11 = 0 then (bdr (f_X0_add σ50 v5 r9) fun s14 => sq (v5 + 1) fun y15 => f_X6_cover_h50 x1 x2 x3 n50 v4 y15 s14) else (sq (v5 + 1) fun y12 => f_X6_cover_h50 x1 x2 x3 n50 v4 y12 σ50)))
def f_X6_cover (σ : St) (x1 : Int32) (x2 : Int32) (x3 : Int32) : Option (Int32 × St) :=
  if (f_X6_isReader σ (x1.toInt64)) = 0 then (some ((-1), σ)) else (if (f_X6_isNews σ (x2.toInt64)) = 0 then (some ((-1), σ)) else (if x3 < ((-1)) then (some ((-1), σ)) else (if x3 < 3 then (bdr (f_X3_inArrearsOf σ x2) fun r2 => bdr (f_X0_clear σ) fun s4 => f_X6_cover_h50 x1 x2 x3 FU r2 0 s4) else (some ((-1), σ)))))
def f_X2_ofYear_h4 (σ : St) (x1 : Int32) : Nat → Int32 → Int32 → Option Int32
  | 0, _, _ => none
  | n4 + 1, v2, v3 =>
    if (σ.1 9 0) ≤ v3 then (some v2) else (if v3 < 0 ∨ 12 ≤ ix v3 then none else if (σ.1 10 (ix v3)) = x1 then (sq (v2 ||| (isl 1 v3)) fun y2 => sq (v3 + 1) fun y3 => f_X2_ofYear_h4 σ x1 n4 y2 y3) else (sq (v3 + 1) fun y1 => f_X2_ofYear_h4 σ x1 n4 v2 y1))
def f_X2_ofYear (σ : St) (x1 : Int32) : Option Int32 :=
  f_X2_ofYear_h4 σ x1 FU 0 0
def f_X3_firstPaidLate_h31 (rec4 : Int32 → Int32 → Option Int32) (σ : St) (x1 : Int32) : Nat → Int32 → Int32 → Int32 → Int32 → Option Int32
  | 0, _, _, _, _ => none
  | n31 + 1, v2, v3, v4, v5 =>
    if (σ.1 2 0) ≤ v5 then (sq (v3 + 1) fun y3 => rec4 v2 y3) else (bdr (f_X3_arrearsOf σ v5) fun r5 => sq (f_J6_bitCount_0f7a4 (r5 &&& v4)) fun y6 => if y6 = 0 then (sq (v5 + 1) fun y10 => f_X3_firstPaidLate_h31 rec4 σ x1 n31 v2 v3 v4 y10) else (sq (v2 + y6) fun y7 => if x1 ≤ 0 then (sq (v5 + 1) fun y8 => f_X3_firstPaidLate_h31 rec4 σ x1 n31 y7 v3 v4 y8) else (if x1 = 0 then none else if (((σ.1 1 6) + ((y7 - 1) / x1)) - v3) < 9 then (sq (v5 + 1) fun y9 => f_X3_firstPaidLate_h31 rec4 σ x1 n31 y7 v3 v4 y9) else (some v5))))
def f_X3_firstPaidLate_h4 (σ : St) (x1 : Int32) : Nat → Int32 → Int32 → Option Int32
  | 0, _, _ => none
  | n4 + 1, v2, v3 =>
    if 99 < v3 then (some ((-4))) else (bdr (f_X2_ofYear σ v3) fun r2 => if r2 = 0 then (sq (v3 + 1) fun y11 => f_X3_firstPaidLate_h4 σ x1 n4 v2 y11) else (f_X3_firstPaidLate_h31 (f_X3_firstPaidLate_h4 σ x1 n4) σ x1 FU v2 v3 r2 0))
def f_X3_firstPaidLate (σ : St) (x1 : Int32) : Option Int32 :=
  f_X3_firstPaidLate_h4 σ x1 FU 0 0
def f_X6_years (σ : St) (x1 : Int32) (x2 : Int32) : Option Int32 :=
  if x1 < 1 then (some ((-1))) else (if 30 < x1 then (some ((-1))) else (if x2 < 0 then (some ((-1))) else (if x2 ≤ 1 then (if x2 = 0 then (bdr (f_X3_allArrears σ) fun r4 => if x1 = 0 then none else some (((r4 + x1) - 1) / x1)) else (bdr (f_X3_firstPaidLate σ x1) fun r2 => some r2)) else (some ((-1))))))
def f_X6_isGraveSet (σ : St) (x1 : Int32) : Int32 :=
  if x1 < 0 then (0) else (if (isl 1 (σ.1 2 0)) ≤ x1 then (0) else (1))
theorem zb_X6_isGraveSet (σ : St) (x1 : Int32) : f_X6_isGraveSet σ x1 &&& 1 = f_X6_isGraveSet σ x1 := by
  unfold f_X6_isGraveSet; (repeat' split) <;> rfl
def f_X3_allWeights_h4 (σ : St) : Nat → Int32 → Int32 → Option Int32
  | 0, _, _ => none
  | n4 + 1, v1, v2 =>
    if 5 ≤ v2 then (some v1) else (if v2 < 0 ∨ 5 ≤ ix v2 then none else sq (v1 + (σ.1 15 (ix v2))) fun y1 => sq (v2 + 1) fun y2 => f_X3_allWeights_h4 σ n4 y1 y2)
def f_X3_allWeights (σ : St) : Option Int32 :=
  f_X3_allWeights_h4 σ FU 0 0
def f_X3_weightsOfHearing_h6 (σ : St) (x1 : Int32) (x2 : Int32) (x3 : Int32) : Nat → Int32 → Int32 → Option Int32
  | 0, _, _ => none
  | n6 + 1, v4, v5 =>
    if 5 ≤ v5 then (some v4) else (bdr (f_X3_hearers σ x1 x2 v5) fun r2 => if (x3 &&& (r2 ^^^ ((-1)))) = 0 then (if v5 < 0 ∨ 5 ≤ ix v5 then none else sq (v4 + (σ.1 15 (ix v5))) fun y4 => sq (v5 + 1) fun y5 => f_X3_weightsOfHearing_h6 σ x1 x2 x3 n6 y4 y5) else (sq (v5 + 1) fun y3 => f_X3_weightsOfHearing_h6 σ x1 x2 x3 n6 v4 y3))
def f_X3_weightsOfHearing (σ : St) (x1 : Int32) (x2 : Int32) (x3 : Int32) : Option Int32 :=
  f_X3_weightsOfHearing_h6 σ x1 x2 x3 FU 0 0
def f_X6_inLowestTerms_h6 (x0 : Int32) (x1 : Int32) : Nat → Int32 → Option Int32
  | 0, _ => none
  | n6 + 1, v2 =>
    if v2 ≤ 1 then (some x0) else (if v2 = 0 then none else if (irm x0 v2) = 0 then (if v2 = 0 then none else if (irm x1 v2) = 0 then (if v2 = 0 then none else some (x0 / v2)) else (sq (v2 + (-1)) fun y3 => f_X6_inLowestTerms_h6 x0 x1 n6 y3)) else (sq (v2 + (-1)) fun y2 => f_X6_inLowestTerms_h6 x0 x1 n6 y2))
def f_X6_inLowestTerms (x0 : Int32) (x1 : Int32) : Option Int32 :=
  sq (imax x0 x1) fun y1 => f_X6_inLowestTerms_h6 x0 x1 FU y1
def f_X6_chance (σ : St) (x1 : Int32) (x2 : Int32) (x3 : Int32) (x4 : Int32) : Option Int32 :=
  if (f_X6_isReader σ (x1.toInt64)) = 0 then (some ((-1))) else (if (f_X6_isPlace (x2.toInt64)) = 0 then (some ((-1))) else (if (f_X6_isGraveSet σ x3) = 0 then (some ((-1))) else (if x4 < 0 then (some ((-1))) else (if x4 ≤ 1 then (bdr (f_X3_allWeights σ) fun r2 => if r2 = 0 then (some ((-2))) else (bdr (f_X3_weightsOfHearing σ x1 x2 x3) fun r4 => if x4 = 0 then (bdr (f_X6_inLowestTerms r4 r2) fun r8 => some r8) else (bdr (f_X6_inLowestTerms r2 r4) fun r6 => some r6))) else (some ((-1)))))))
def f_X6_likeliest_h40 (σ : St) (x1 : Int32) (x2 : Int32) : Nat → Int32 → Int32 → Int32 → Option Int32
  | 0, _, _, _ => none
  | n40 + 1, v3, v4, v5 =>
    if 36 ≤ v5 then (some v3) else (bdr (f_X3_weightsOfHearing σ x1 v5 x2) fun r4 => if r4 ≤ v4 then (sq (v5 + 1) fun y5 => f_X6_likeliest_h40 σ x1 x2 n40 v3 v4 y5) else (sq (v5 + 1) fun y6 => f_X6_likeliest_h40 σ x1 x2 n40 v5 r4 y6))
def f_X6_likeliest (σ : St) (x1 : Int32) (x2 : Int32) : Option Int32 :=
  if (f_X6_isReader σ (x1.toInt64)) = 0 then (some ((-1))) else (if (f_X6_isGraveSet σ x2) = 0 then (some ((-1))) else (bdr (f_X3_allWeights σ) fun r2 => if r2 = 0 then (some ((-2))) else (f_X6_likeliest_h40 σ x1 x2 FU 0 0 0)))
def f_X6_more (σ : St) (x1 : Int32) (x2 : Int32) : Option Int32 :=
  if (f_X6_isGrave σ x1) = 0 then (some ((-1))) else (if (f_X6_isGrave σ x2) = 0 then (some ((-1))) else (if x1 < 0 ∨ 10 ≤ ix x1 then none else if x2 < 0 ∨ 10 ≤ ix x2 then none else some ((σ.1 6 (ix x1)) &&& ((σ.1 6 (ix x2)) ^^^ ((-1))))))
def f_X3_heardInWrongOrder (σ : St) (x1 : Int32) (x2 : Int32) (x3 : Int32) : Option Int32 :=
  if x1 < 0 ∨ 10 ≤ ix x1 then none else sq (σ.1 6 (ix x1)) fun y1 => if x3 < 0 ∨ 12 ≤ ix x3 then none else if (f_X6_has (σ.1 11 (ix x3)) x2) = 0 then (some 0) else (if (f_X6_has y1 x2) = 0 then (some 0) else (if (f_X6_has y1 x3) = 0 then (some 0) else (if ((x1 * 12) + x3) < 0 ∨ 120 ≤ ix ((x1 * 12) + x3) then none else if ((x1 * 12) + x2) < 0 ∨ 120 ≤ ix ((x1 * 12) + x2) then none else if (σ.1 8 (ix ((x1 * 12) + x2))) ≤ (σ.1 8 (ix ((x1 * 12) + x3))) then (some 0) else (some 1))))
def f_X6_sooner_h42 (rec24 : Int32 → Int32 → Option Int32) (σ : St) (x1 : Int32) (x2 : Int32) : Nat → Int32 → Int32 → Int32 → Option Int32
  | 0, _, _, _ => none
  | n42 + 1, v3, v4, v5 =>
    if (σ.1 9 0) ≤ v5 then (sq (v4 + 1) fun y1 => rec24 v3 y1) else (bdr (f_X3_heardInWrongOrder σ x1 v4 v5) fun r3 => if r3 = 0 then (sq (v5 + 1) fun y6 => f_X6_sooner_h42 rec24 σ x1 x2 n42 v3 v4 y6) else (if x2 = 1 then (some ((100 * v4) + v5)) else (sq (v3 + 1) fun y4 => sq (v5 + 1) fun y5 => f_X6_sooner_h42 rec24 σ x1 x2 n42 y4 v4 y5)))
def f_X6_sooner_h24 (σ : St) (x1 : Int32) (x2 : Int32) : Nat → Int32 → Int32 → Option Int32
  | 0, _, _ => none
  | n24 + 1, v3, v4 =>
    if (σ.1 9 0) ≤ v4 then (if x2 = 1 then (some ((-4))) else (some v3)) else (f_X6_sooner_h42 (f_X6_sooner_h24 σ x1 x2 n24) σ x1 x2 FU v3 v4 0)
def f_X6_sooner (σ : St) (x1 : Int32) (x2 : Int32) : Option Int32 :=
  if (f_X6_isGrave σ x1) = 0 then (some ((-1))) else (if x2 < 0 then (some ((-1))) else (if x2 ≤ 1 then (f_X6_sooner_h24 σ x1 x2 FU 0 0) else (some ((-1)))))
def f_X6_hidden_h26 (σ : St) (x1 : Int32) (x2 : Int32) : Nat → Int64 → Int32 → Option Int64
  | 0, _, _ => none
  | n26 + 1, v3, v5 =>
    if 36 ≤ v5 then (some v3) else (bdr (f_X3_hearers σ x1 v5 (σ.1 1 4)) fun r2 => if (r2 &&& x2) = 0 then (sq (v3 ||| (lsl 1 v5)) fun y4 => sq (v5 + 1) fun y5 => f_X6_hidden_h26 σ x1 x2 n26 y4 y5) else (sq (v5 + 1) fun y3 => f_X6_hidden_h26 σ x1 x2 n26 v3 y3))
def f_X6_hidden (σ : St) (x1 : Int32) (x2 : Int32) : Option Int64 :=
  if (f_X6_isReader σ (x1.toInt64)) = 0 then (some ((-1))) else (if (f_X6_isGraveSet σ x2) = 0 then (some ((-1))) else (f_X6_hidden_h26 σ x1 x2 FU 0 0))
def f_X6_alone_h21 (σ : St) (x1 : Int32) (x2 : Int32) : Nat → Int32 → Option Int32
  | 0, _ => none
  | n21 + 1, v3 =>
    if 36 ≤ v3 then (some ((-4))) else (bdr (f_X3_hearers σ x1 v3 (σ.1 1 4)) fun r2 => if r2 = (isl 1 x2) then (some v3) else (sq (v3 + 1) fun y3 => f_X6_alone_h21 σ x1 x2 n21 y3))
def f_X6_alone (σ : St) (x1 : Int32) (x2 : Int32) : Option Int32 :=
  if (f_X6_isReader σ (x1.toInt64)) = 0 then (some ((-1))) else (if (f_X6_isGrave σ x2) = 0 then (some ((-1))) else (f_X6_alone_h21 σ x1 x2 FU 0))
def f_X1_become_20_2 (σ : St) : Option St :=
  sq (wr σ 20 0 (σ.1 2 0)) fun s1 => if (0 : Int32) < 0 ∨ (0 : Int32) < 0 ∨ (10 : Int32) < 0 ∨ 10 < ix (0 : Int32) + ix (10 : Int32) ∨ 10 < ix (0 : Int32) + ix (10 : Int32) then none else sq (wrow s1 21 (va_cpy (s1.1 3) (s1.1 21) (ix 0) (ix 0) (ix 10))) fun s2 => if (0 : Int32) < 0 ∨ (0 : Int32) < 0 ∨ (10 : Int32) < 0 ∨ 10 < ix (0 : Int32) + ix (10 : Int32) ∨ 10 < ix (0 : Int32) + ix (10 : Int32) then none else sq (wrow s2 22 (va_cpy (s2.1 4) (s2.1 22) (ix 0) (ix 0) (ix 10))) fun s3 => if (0 : Int32) < 0 ∨ (0 : Int32) < 0 ∨ (10 : Int32) < 0 ∨ 10 < ix (0 : Int32) + ix (10 : Int32) ∨ 10 < ix (0 : Int32) + ix (10 : Int32) then none else sq (wrow s3 23 (va_cpy (s3.1 5) (s3.1 23) (ix 0) (ix 0) (ix 10))) fun s4 => if (0 : Int32) < 0 ∨ (0 : Int32) < 0 ∨ (10 : Int32) < 0 ∨ 10 < ix (0 : Int32) + ix (10 : Int32) ∨ 10 < ix (0 : Int32) + ix (10 : Int32) then none else sq (wrow s4 24 (va_cpy (s4.1 6) (s4.1 24) (ix 0) (ix 0) (ix 10))) fun s5 => if (0 : Int32) < 0 ∨ (0 : Int32) < 0 ∨ (10 : Int32) < 0 ∨ 10 < ix (0 : Int32) + ix (10 : Int32) ∨ 10 < ix (0 : Int32) + ix (10 : Int32) then none else sq (wrow s5 25 (va_cpy (s5.1 7) (s5.1 25) (ix 0) (ix 0) (ix 10))) fun s6 => if (0 : Int32) < 0 ∨ (0 : Int32) < 0 ∨ (120 : Int32) < 0 ∨ 120 < ix (0 : Int32) + ix (120 : Int32) ∨ 120 < ix (0 : Int32) + ix (120 : Int32) then none else sq (wrow s6 26 (va_cpy (s6.1 8) (s6.1 26) (ix 0) (ix 0) (ix 120))) fun s7 => some s7
def f_X2_become_27_9 (σ : St) : Option St :=
  sq (wr σ 27 0 (σ.1 9 0)) fun s1 => sq (wr s1 27 1 (s1.1 9 1)) fun s2 => if (0 : Int32) < 0 ∨ (0 : Int32) < 0 ∨ (12 : Int32) < 0 ∨ 12 < ix (0 : Int32) + ix (12 : Int32) ∨ 12 < ix (0 : Int32) + ix (12 : Int32) then none else sq (wrow s2 28 (va_cpy (s2.1 10) (s2.1 28) (ix 0) (ix 0) (ix 12))) fun s3 => if (0 : Int32) < 0 ∨ (0 : Int32) < 0 ∨ (12 : Int32) < 0 ∨ 12 < ix (0 : Int32) + ix (12 : Int32) ∨ 12 < ix (0 : Int32) + ix (12 : Int32) then none else sq (wrow s3 29 (va_cpy (s3.1 11) (s3.1 29) (ix 0) (ix 0) (ix 12))) fun s4 => if (0 : Int32) < 0 ∨ (0 : Int32) < 0 ∨ (12 : Int32) < 0 ∨ 12 < ix (0 : Int32) + ix (12 : Int32) ∨ 12 < ix (0 : Int32) + ix (12 : Int32) then none else sq (wrow s4 30 (va_cpy (s4.1 12) (s4.1 30) (ix 0) (ix 0) (ix 12))) fun s5 => if (0 : Int32) < 0 ∨ (0 : Int32) < 0 ∨ (12 : Int32) < 0 ∨ 12 < ix (0 : Int32) + ix (12 : Int32) ∨ 12 < ix (0 : Int32) + ix (12 : Int32) then none else sq (wrow s5 31 (va_cpy (s5.1 13) (s5.1 31) (ix 0) (ix 0) (ix 12))) fun s6 => some s6
def f_X3_become_19_1 (σ : St) : Option St :=
  bdr (f_X1_become_20_2 σ) fun s2 => bdr (f_X2_become_27_9 s2) fun s4 => sq (wr s4 19 2 (s4.1 1 2)) fun s5 => if (0 : Int32) < 0 ∨ (0 : Int32) < 0 ∨ (4 : Int32) < 0 ∨ 4 < ix (0 : Int32) + ix (4 : Int32) ∨ 4 < ix (0 : Int32) + ix (4 : Int32) then none else sq (wrow s5 32 (va_cpy (s5.1 14) (s5.1 32) (ix 0) (ix 0) (ix 4))) fun s6 => sq (wr s6 19 4 (s6.1 1 4)) fun s7 => if (0 : Int32) < 0 ∨ (0 : Int32) < 0 ∨ (5 : Int32) < 0 ∨ 5 < ix (0 : Int32) + ix (5 : Int32) ∨ 5 < ix (0 : Int32) + ix (5 : Int32) then none else sq (wrow s7 33 (va_cpy (s7.1 15) (s7.1 33) (ix 0) (ix 0) (ix 5))) fun s8 => sq (wr s8 19 6 (s8.1 1 6)) fun s9 => sq (wr s9 19 7 (s9.1 1 7)) fun s10 => sq (wr s10 19 8 (s10.1 1 8)) fun s11 => sq (wr s11 19 9 (s11.1 1 9)) fun s12 => if (0 : Int32) < 0 ∨ (0 : Int32) < 0 ∨ (10 : Int32) < 0 ∨ 10 < ix (0 : Int32) + ix (10 : Int32) ∨ 10 < ix (0 : Int32) + ix (10 : Int32) then none else sq (wrow s12 34 (va_cpy (s12.1 16) (s12.1 34) (ix 0) (ix 0) (ix 10))) fun s13 => if (0 : Int32) < 0 ∨ (0 : Int32) < 0 ∨ (10 : Int32) < 0 ∨ 10 < ix (0 : Int32) + ix (10 : Int32) ∨ 10 < ix (0 : Int32) + ix (10 : Int32) then none else sq (wrow s13 35 (va_cpy (s13.1 17) (s13.1 35) (ix 0) (ix 0) (ix 10))) fun s14 => if (0 : Int32) < 0 ∨ (0 : Int32) < 0 ∨ (10 : Int32) < 0 ∨ 10 < ix (0 : Int32) + ix (10 : Int32) ∨ 10 < ix (0 : Int32) + ix (10 : Int32) then none else sq (wrow s14 36 (va_cpy (s14.1 18) (s14.1 36) (ix 0) (ix 0) (ix 10))) fun s15 => some s15
def f_X6_image (σ : St) : Option (Int32 × St) :=
  bdr (f_X3_become_19_1 σ) fun s2 => sq (wr s2 0 2 1) fun s3 => some (1, s3)
def f_X1_become_20 (σ : St) : Option St :=
  sq (wr σ 2 0 (σ.1 20 0)) fun s1 => if (0 : Int32) < 0 ∨ (0 : Int32) < 0 ∨ (10 : Int32) < 0 ∨ 10 < ix (0 : Int32) + ix (10 : Int32) ∨ 10 < ix (0 : Int32) + ix (10 : Int32) then none else sq (wrow s1 3 (va_cpy (s1.1 21) (s1.1 3) (ix 0) (ix 0) (ix 10))) fun s2 => if (0 : Int32) < 0 ∨ (0 : Int32) < 0 ∨ (10 : Int32) < 0 ∨ 10 < ix (0 : Int32) + ix (10 : Int32) ∨ 10 < ix (0 : Int32) + ix (10 : Int32) then none else sq (wrow s2 4 (va_cpy (s2.1 22) (s2.1 4) (ix 0) (ix 0) (ix 10))) fun s3 => if (0 : Int32) < 0 ∨ (0 : Int32) < 0 ∨ (10 : Int32) < 0 ∨ 10 < ix (0 : Int32) + ix (10 : Int32) ∨ 10 < ix (0 : Int32) + ix (10 : Int32) then none else sq (wrow s3 5 (va_cpy (s3.1 23) (s3.1 5) (ix 0) (ix 0) (ix 10))) fun s4 => if (0 : Int32) < 0 ∨ (0 : Int32) < 0 ∨ (10 : Int32) < 0 ∨ 10 < ix (0 : Int32) + ix (10 : Int32) ∨ 10 < ix (0 : Int32) + ix (10 : Int32) then none else sq (wrow s4 6 (va_cpy (s4.1 24) (s4.1 6) (ix 0) (ix 0) (ix 10))) fun s5 => if (0 : Int32) < 0 ∨ (0 : Int32) < 0 ∨ (10 : Int32) < 0 ∨ 10 < ix (0 : Int32) + ix (10 : Int32) ∨ 10 < ix (0 : Int32) + ix (10 : Int32) then none else sq (wrow s5 7 (va_cpy (s5.1 25) (s5.1 7) (ix 0) (ix 0) (ix 10))) fun s6 => if (0 : Int32) < 0 ∨ (0 : Int32) < 0 ∨ (120 : Int32) < 0 ∨ 120 < ix (0 : Int32) + ix (120 : Int32) ∨ 120 < ix (0 : Int32) + ix (120 : Int32) then none else sq (wrow s6 8 (va_cpy (s6.1 26) (s6.1 8) (ix 0) (ix 0) (ix 120))) fun s7 => some s7
def f_X2_become_27 (σ : St) : Option St :=
  sq (wr σ 9 0 (σ.1 27 0)) fun s1 => sq (wr s1 9 1 (s1.1 27 1)) fun s2 => if (0 : Int32) < 0 ∨ (0 : Int32) < 0 ∨ (12 : Int32) < 0 ∨ 12 < ix (0 : Int32) + ix (12 : Int32) ∨ 12 < ix (0 : Int32) + ix (12 : Int32) then none else sq (wrow s2 10 (va_cpy (s2.1 28) (s2.1 10) (ix 0) (ix 0) (ix 12))) fun s3 => if (0 : Int32) < 0 ∨ (0 : Int32) < 0 ∨ (12 : Int32) < 0 ∨ 12 < ix (0 : Int32) + ix (12 : Int32) ∨ 12 < ix (0 : Int32) + ix (12 : Int32) then none else sq (wrow s3 11 (va_cpy (s3.1 29) (s3.1 11) (ix 0) (ix 0) (ix 12))) fun s4 => if (0 : Int32) < 0 ∨ (0 : Int32) < 0 ∨ (12 : Int32) < 0 ∨ 12 < ix (0 : Int32) + ix (12 : Int32) ∨ 12 < ix (0 : Int32) + ix (12 : Int32) then none else sq (wrow s4 12 (va_cpy (s4.1 30) (s4.1 12) (ix 0) (ix 0) (ix 12))) fun s5 => if (0 : Int32) < 0 ∨ (0 : Int32) < 0 ∨ (12 : Int32) < 0 ∨ 12 < ix (0 : Int32) + ix (12 : Int32) ∨ 12 < ix (0 : Int32) + ix (12 : Int32) then none else sq (wrow s5 13 (va_cpy (s5.1 31) (s5.1 13) (ix 0) (ix 0) (ix 12))) fun s6 => some s6
def f_X3_become_19 (σ : St) : Option St :=
  bdr (f_X1_become_20 σ) fun s2 => bdr (f_X2_become_27 s2) fun s4 => sq (wr s4 1 2 (s4.1 19 2)) fun s5 => if (0 : Int32) < 0 ∨ (0 : Int32) < 0 ∨ (4 : Int32) < 0 ∨ 4 < ix (0 : Int32) + ix (4 : Int32) ∨ 4 < ix (0 : Int32) + ix (4 : Int32) then none else sq (wrow s5 14 (va_cpy (s5.1 32) (s5.1 14) (ix 0) (ix 0) (ix 4))) fun s6 => sq (wr s6 1 4 (s6.1 19 4)) fun s7 => if (0 : Int32) < 0 ∨ (0 : Int32) < 0 ∨ (5 : Int32) < 0 ∨ 5 < ix (0 : Int32) + ix (5 : Int32) ∨ 5 < ix (0 : Int32) + ix (5 : Int32) then none else sq (wrow s7 15 (va_cpy (s7.1 33) (s7.1 15) (ix 0) (ix 0) (ix 5))) fun s8 => sq (wr s8 1 6 (s8.1 19 6)) fun s9 => sq (wr s9 1 7 (s9.1 19 7)) fun s10 => sq (wr s10 1 8 (s10.1 19 8)) fun s11 => sq (wr s11 1 9 (s11.1 19 9)) fun s12 => if (0 : Int32) < 0 ∨ (0 : Int32) < 0 ∨ (10 : Int32) < 0 ∨ 10 < ix (0 : Int32) + ix (10 : Int32) ∨ 10 < ix (0 : Int32) + ix (10 : Int32) then none else sq (wrow s12 16 (va_cpy (s12.1 34) (s12.1 16) (ix 0) (ix 0) (ix 10))) fun s13 => if (0 : Int32) < 0 ∨ (0 : Int32) < 0 ∨ (10 : Int32) < 0 ∨ 10 < ix (0 : Int32) + ix (10 : Int32) ∨ 10 < ix (0 : Int32) + ix (10 : Int32) then none else sq (wrow s13 17 (va_cpy (s13.1 35) (s13.1 17) (ix 0) (ix 0) (ix 10))) fun s14 => if (0 : Int32) < 0 ∨ (0 : Int32) < 0 ∨ (10 : Int32) < 0 ∨ 10 < ix (0 : Int32) + ix (10 : Int32) ∨ 10 < ix (0 : Int32) + ix (10 : Int32) then none else sq (wrow s14 18 (va_cpy (s14.1 36) (s14.1 18) (ix 0) (ix 0) (ix 10))) fun s15 => some s15
def f_X6_restore (σ : St) : Option (Int32 × St) :=
  if (σ.1 0 2) = 0 then (some ((-4), σ)) else (bdr (f_X3_become_19 σ) fun s2 => some (1, s2))
def f_X6_isSheet (x0 : Int32) : Int32 :=
  if x0 < 0 then (0) else (if 4 ≤ x0 then (0) else (1))
theorem zb_X6_isSheet (x0 : Int32) : f_X6_isSheet x0 &&& 1 = f_X6_isSheet x0 := by
  unfold f_X6_isSheet; (repeat' split) <;> rfl
def f_X6_isLane (x0 : Int32) : Int32 :=
  if x0 < 0 then (0) else (if 4 ≤ x0 then (0) else (1))
theorem zb_X6_isLane (x0 : Int32) : f_X6_isLane x0 &&& 1 = f_X6_isLane x0 := by
  unfold f_X6_isLane; (repeat' split) <;> rfl
def f_X4_reaches_sh (σ : St) (j : Nat) (x1 : Int32) (x2 : Int32) : Int32 :=
  if x1 < 0 then (0) else (if x2 < 0 then (0) else (if ((σ.1 (53 + 2 * j) 2) - x2) < x1 then (0) else (1)))
theorem zb_X4_reaches_sh (σ : St) (j : Nat) (x1 : Int32) (x2 : Int32) : f_X4_reaches_sh σ j x1 x2 &&& 1 = f_X4_reaches_sh σ j x1 x2 := by
  unfold f_X4_reaches_sh; (repeat' split) <;> rfl
def f_X6_refusalOfItems (σ : St) (x1 : Int32) (x2 : Int32) (x3 : Int32) (x4 : Int32) : Option Int32 :=
  if (f_X6_isSheet x1) = 0 then (some ((-1))) else (if (f_X6_isLane x2) = 0 then (some ((-1))) else (if x1 < 0 ∨ 4 ≤ ix x1 then none else if (σ.1 (53 + 2 * (ix x1)) 0) = 0 then (some ((-11))) else (if x1 < 0 ∨ 4 ≤ ix x1 then none else if (σ.1 (53 + 2 * (ix x1)) 1) = x2 then (if x1 < 0 ∨ 4 ≤ ix x1 then none else if (f_X4_reaches_sh σ (ix x1) x3 x4) = 0 then (some ((-13))) else (some 0)) else (some ((-12))))))
def f_X6_refusalOfReadings_h50 (σ : St) (x1 : Int32) (x2 : Int32) (x3 : Int32) (x4 : Int32) : Nat → Int32 → Option Int32
  | 0, _ => none
  | n50 + 1, v7 =>
    if (x3 + (3 * x4)) ≤ v7 then (some 0) else (if v7 < 0 ∨ 36 ≤ ix v7 then none else if (v7 + 1) < 0 ∨ 36 ≤ ix (v7 + 1) then none else if (v7 + 2) < 0 ∨ 36 ≤ ix (v7 + 2) then none else if (f_X6_isReading σ (σ.2 (54 + 2 * (ix x1)) (ix v7)) (σ.2 (54 + 2 * (ix x1)) (ix (v7 + 1))) (σ.2 (54 + 2 * (ix x1)) (ix (v7 + 2)))) = 0 then (some ((-2))) else (sq (v7 + 3) fun y3 => f_X6_refusalOfReadings_h50 σ x1 x2 x3 x4 n50 y3))
def f_X6_refusalOfReadings (σ : St) (x1 : Int32) (x2 : Int32) (x3 : Int32) (x4 : Int32) : Option Int32 :=
  if x4 < 1 then (some ((-1))) else (if x4 ≤ 12 then (bdr (f_X6_refusalOfItems σ x1 x2 x3 (3 * x4)) fun r2 => if r2 = 0 then (if x1 < 0 ∨ 4 ≤ ix x1 then none else f_X6_refusalOfReadings_h50 σ x1 x2 x3 x4 FU x3) else (some r2)) else (some ((-1))))
def f_J7_fill_53178_61_h5 (x1 : Int32) : Nat → Int32 → Int32 → St → Option St
  | 0, _, _, _ => none
  | n5 + 1, v2, v3, σ5 =>
    if v3 ≤ v2 then (some σ5) else (if v2 < 0 ∨ 10 ≤ ix v2 then none else sq (wr σ5 61 (ix v2) x1) fun s1 => sq (v2 + 1) fun y2 => f_J7_fill_53178_61_h5 x1 n5 y2 v3 s1)
def f_J7_fill_53178_61 (σ : St) (x1 : Int32) : Option St :=
  f_J7_fill_53178_61_h5 x1 FU 0 10 σ
def f_X6_noteHeard_61_h2 (x0 : Int32) (x1 : Int32) : Nat → Int32 → St → Option St
  | 0, _, _ => none
  | n2 + 1, v3, σ2 =>
    if 10 ≤ v3 then (some σ2) else (if (f_X6_has x0 v3) = 0 then (sq (v3 + 1) fun y1 => f_X6_noteHeard_61_h2 x0 x1 n2 y1 σ2) else (if v3 < 0 ∨ 10 ≤ ix v3 then none else if v3 < 0 ∨ 10 ≤ ix v3 then none else sq (wr σ2 61 (ix v3) ((σ2.1 61 (ix v3)) ||| (isl 1 x1))) fun s2 => sq (v3 + 1) fun y3 => f_X6_noteHeard_61_h2 x0 x1 n2 y3 s2))
def f_X6_noteHeard_61 (σ : St) (x0 : Int32) (x1 : Int32) : Option St :=
  f_X6_noteHeard_61_h2 x0 x1 FU 0 σ
def f_X6_which_h127 (x1 : Int32) (x2 : Int32) (x3 : Int32) (x4 : Int32) (x5 : Int32) : Nat → Int32 → Int32 → St → Option (Int32 × St)
  | 0, _, _, _ => none
  | n127 + 1, v8, v9, σ127 =>
    if (σ127.1 2 0) ≤ v9 then (some (v8, σ127)) else (if v9 < 0 ∨ 10 ≤ ix v9 then none else if (σ127.1 61 (ix v9)) = x1 then (sq (v8 ||| (isl 1 v9)) fun y6 => sq (v9 + 1) fun y7 => f_X6_which_h127 x1 x2 x3 x4 x5 n127 y6 y7 σ127) else (sq (v9 + 1) fun y5 => f_X6_which_h127 x1 x2 x3 x4 x5 n127 v8 y5 σ127))
def f_X6_which_h52 (x1 : Int32) (x2 : Int32) (x3 : Int32) (x4 : Int32) (x5 : Int32) : Nat → Int32 → St → Option (Int32 × St)
  | 0, _, _ => none
  | n52 + 1, v8, σ52 =>
    if x5 ≤ v8 then (f_X6_which_h127 x1 x2 x3 x4 x5 FU 0 0 σ52) else (sq (x4 + (3 * v8)) fun y8 => if y8 < 0 ∨ 36 ≤ ix y8 then none else if (y8 + 1) < 0 ∨ 36 ≤ ix (y8 + 1) then none else bdr (f_X3_hearers σ52 ((σ52.2 (54 + 2 * (ix x2)) (ix y8)).toInt32) ((σ52.2 (54 + 2 * (ix x2)) (ix (y8 + 1))).toInt32) (σ52.1 1 4)) fun r10 => if (y8 + 2) < 0 ∨ 36 ≤ ix (y8 + 2) then none else bdr (f_X6_noteHeard_61 σ52 r10 ((σ52.2 (54 + 2 * (ix x2)) (ix (y8 + 2))).toInt32)) fun s12 => sq (v8 + 1) fun y13 => f_X6_which_h52 x1 x2 x3 x4 x5 n52 y13 s12)
def f_X6_which (σ : St) (x1 : Int32) (x2 : Int32) (x3 : Int32) (x4 : Int32) (x5 : Int32) : Option (Int32 × St) :=
  if (f_X6_isNewsSet σ x1) = 0 then (some ((-1), σ)) else (bdr (f_X6_refusalOfReadings σ x2 x3 x4 x5) fun r2 => if r2 = 0 then (if x2 < 0 ∨ 4 ≤ ix x2 then none else bdr (f_J7_fill_53178_61 σ 0) fun s4 => f_X6_which_h52 x1 x2 x3 x4 x5 FU 0 s4) else (some (r2, σ)))
def f_X3_wrongedOf_61_h6 (σ : St) (x1 : Int32) (x2 : Int32) : Nat → Int32 → Int32 → Option Int32
  | 0, _, _ => none
  | n6 + 1, v4, v5 =>
    if (σ.1 2 0) ≤ v5 then (some v4) else (if (f_X6_has x1 v5) = 0 then (sq (v5 + 1) fun y1 => f_X3_wrongedOf_61_h6 σ x1 x2 n6 v4 y1) else (if v5 < 0 ∨ 10 ≤ ix v5 then none else bdr (f_X3_isWrong σ v5 x2 (σ.1 61 (ix v5))) fun r3 => if r3 = 0 then (sq (v5 + 1) fun y4 => f_X3_wrongedOf_61_h6 σ x1 x2 n6 v4 y4) else (sq (v4 ||| (isl 1 v5)) fun y5 => sq (v5 + 1) fun y6 => f_X3_wrongedOf_61_h6 σ x1 x2 n6 y5 y6)))
def f_X3_wrongedOf_61 (σ : St) (x1 : Int32) (x2 : Int32) : Option Int32 :=
  f_X3_wrongedOf_61_h6 σ x1 x2 FU 0 0
def f_X6_judged_h54 (x1 : Int32) (x2 : Int32) (x3 : Int32) (x4 : Int32) : Nat → Int32 → St → Option (Int32 × St)
  | 0, _, _ => none
  | n54 + 1, v7, σ54 =>
    if x4 ≤ v7 then (some ((-4), σ54)) else (sq (x3 + (3 * v7)) fun y4 => if (y4 + 2) < 0 ∨ 36 ≤ ix (y4 + 2) then none else sq ((σ54.2 (54 + 2 * (ix x1)) (ix (y4 + 2))).toInt32) fun y5 => if y4 < 0 ∨ 36 ≤ ix y4 then none else if (y4 + 1) < 0 ∨ 36 ≤ ix (y4 + 1) then none else bdr (f_X3_hearers σ54 ((σ54.2 (54 + 2 * (ix x1)) (ix y4)).toInt32) ((σ54.2 (54 + 2 * (ix x1)) (ix (y4 + 1))).toInt32) (σ54.1 1 4)) fun r7 => bdr (f_X3_wrongedOf_61 σ54 r7 y5) fun r9 => if r9 = 0 then (bdr (f_X6_noteHeard_61 σ54 r7 y5) fun s11 => sq (v7 + 1) fun y12 => f_X6_judged_h54 x1 x2 x3 x4 n54 y12 s11) else (some (v7, σ54)))
def f_X6_judged (σ : St) (x1 : Int32) (x2 : Int32) (x3 : Int32) (x4 : Int32) : Option (Int32 × St) :=
  bdr (f_X6_refusalOfReadings σ x1 x2 x3 x4) fun r2 => if r2 = 0 then (if x1 < 0 ∨ 4 ≤ ix x1 then none else if (0 : Int32) < 0 ∨ (0 : Int32) < 0 ∨ (10 : Int32) < 0 ∨ 10 < ix (0 : Int32) + ix (10 : Int32) ∨ 10 < ix (0 : Int32) + ix (10 : Int32) then none else sq (wrow σ 61 (va_cpy (σ.1 6) (σ.1 61) (ix 0) (ix 0) (ix 10))) fun s3 => f_X6_judged_h54 x1 x2 x3 x4 FU 0 s3) else (some (r2, σ))
def f_X4_cut_sh (σ : St) (j : Nat) (x1 : Int64) : Int64 :=
  if (σ.1 (53 + 2 * j) 1) = 0 then (((x1.toInt32).toInt8.toInt32).toInt64) else if (σ.1 (53 + 2 * j) 1) = 1 then (((x1.toInt32).toInt16.toInt32).toInt64) else if (σ.1 (53 + 2 * j) 1) = 2 then ((x1.toInt32).toInt64) else (x1)
def f_X4_put_sh (σ : St) (j : Nat) (x1 : Int32) (x2 : Int64) : Option St :=
  if x1 < 0 then (some σ) else (if x1 < (σ.1 (53 + 2 * j) 2) then (if x1 < 0 ∨ 36 ≤ ix x1 then none else sq (wl σ (54 + 2 * j) (ix x1) (f_X4_cut_sh σ j x2)) fun s1 => some s1) else (some σ))
def f_X6_film_h30 (x1 : Int32) (x2 : Int32) (x3 : Int32) : Nat → Int32 → St → Option (Int32 × St)
  | 0, _, _ => none
  | n30 + 1, v5, σ30 =>
    if (σ30.1 2 0) ≤ v5 then (some (σ30.1 2 0, σ30)) else (if x1 < 0 ∨ 4 ≤ ix x1 then none else bdr (f_X3_arrearsOf σ30 v5) fun r4 => bdr (f_X4_put_sh σ30 (ix x1) (x3 + v5) (r4.toInt64)) fun s6 => sq (v5 + 1) fun y7 => f_X6_film_h30 x1 x2 x3 n30 y7 s6)
def f_X6_film (σ : St) (x1 : Int32) (x2 : Int32) (x3 : Int32) : Option (Int32 × St) :=
  bdr (f_X6_refusalOfItems σ x1 x2 x3 (σ.1 2 0)) fun r2 => if r2 = 0 then (f_X6_film_h30 x1 x2 x3 FU 0 σ) else (some (r2, σ))
def f_J7_fill_d0a16_it_h6 (j : Nat) (x1 : Int64) : Nat → Int32 → Int32 → St → Option St
  | 0, _, _, _ => none
  | n6 + 1, v3, v4, σ6 =>
    if v4 ≤ v3 then (some σ6) else (if v3 < 0 ∨ 36 ≤ ix v3 then none else sq (wl σ6 (54 + 2 * j) (ix v3) x1) fun s1 => sq (v3 + 1) fun y2 => f_J7_fill_d0a16_it_h6 j x1 n6 y2 v4 s1)
def f_J7_fill_d0a16_it (σ : St) (j : Nat) (x1 : Int64) : Option St :=
  f_J7_fill_d0a16_it_h6 j x1 FU 0 36 σ
def f_X4_renew_sh (σ : St) (j : Nat) (x1 : Int32) (x2 : Int32) : Option St :=
  sq (wr σ (53 + 2 * j) 0 1) fun s1 => sq (wr s1 (53 + 2 * j) 1 x1) fun s2 => sq (wr s2 (53 + 2 * j) 2 x2) fun s3 => bdr (f_J7_fill_d0a16_it s3 j 0) fun s5 => some s5
def f_X6_sheet (σ : St) (x1 : Int32) (x2 : Int32) (x3 : Int32) : Option (Int32 × St) :=
  if (f_X6_isSheet x1) = 0 then (some ((-1), σ)) else (if (f_X6_isLane x2) = 0 then (some ((-1), σ)) else (if x3 ≤ 36 then (if 0 ≤ x3 then (if x1 < 0 ∨ 4 ≤ ix x1 then none else bdr (f_X4_renew_sh σ (ix x1) x2 x3) fun s2 => some (x3, s2)) else (some ((-14), σ))) else (some ((-1), σ))))
def f_X6_drop (σ : St) (x1 : Int32) : Option (Int32 × St) :=
  if (f_X6_isSheet x1) = 0 then (some ((-1), σ)) else (if x1 < 0 ∨ 4 ≤ ix x1 then none else if (σ.1 (53 + 2 * (ix x1)) 0) = 0 then (some ((-11), σ)) else (if x1 < 0 ∨ 4 ≤ ix x1 then none else sq (wr σ (53 + 2 * (ix x1)) 0 0) fun s1 => if x1 < 0 ∨ 4 ≤ ix x1 then none else some (s1.1 (53 + 2 * (ix x1)) 2, s1)))
def f_X6_item (σ : St) (x1 : Int32) (x2 : Int32) (x3 : Int32) (x4 : Int64) : Option (Int32 × St) :=
  bdr (f_X6_refusalOfItems σ x1 x2 x3 1) fun r2 => if r2 = 0 then (if x1 < 0 ∨ 4 ≤ ix x1 then none else bdr (f_X4_put_sh σ (ix x1) x3 x4) fun s4 => some (1, s4)) else (some (r2, σ))
def f_X6_copy (σ : St) (x1 : Int32) (x2 : Int32) (x3 : Int32) (x4 : Int32) (x5 : Int32) : Option (Int32 × St) :=
  if (f_X6_isSheet x1) = 0 then (some ((-1), σ)) else (if (f_X6_isSheet x3) = 0 then (some ((-1), σ)) else (if x1 < 0 ∨ 4 ≤ ix x1 then none else if x3 < 0 ∨ 4 ≤ ix x3 then none else if (σ.1 (53 + 2 * (ix x1)) 0) = 0 then (some ((-11), σ)) else (if (σ.1 (53 + 2 * (ix x3)) 0) = 0 then (some ((-11), σ)) else (if (σ.1 (53 + 2 * (ix x1)) 1) = (σ.1 (53 + 2 * (ix x3)) 1) then (if (f_X4_reaches_sh σ (ix x1) x2 x5) = 0 then (some ((-13), σ)) else (if (f_X4_reaches_sh σ (ix x3) x4 x5) = 0 then (some ((-13), σ)) else (if x2 < 0 ∨ x4 < 0 ∨ x5 < 0 ∨ 36 < ix x2 + ix x5 ∨ 36 < ix x4 + ix x5 then none else sq (wrol σ (54 + 2 * (ix x3)) (va_cpy (σ.2 (54 + 2 * (ix x1))) (σ.2 (54 + 2 * (ix x3))) (ix x2) (ix x4) (ix x5))) fun s1 => some (x5, s1)))) else (some ((-12), σ))))))
def f_X2_canFollow (σ : St) (x1 : Int32) (x2 : Int32) : Option Int32 :=
  if (f_X6_has x2 x1) = 0 then (if x1 < 0 ∨ 12 ≤ ix x1 then none else if ((σ.1 11 (ix x1)) &&& (x2 ^^^ ((-1)))) = 0 then (some 1) else (some 0)) else (some 0)
def f_X2_greatestBehind_h7 (σ : St) (x1 : Int32) : Nat → Int32 → Option Int32
  | 0, _ => none
  | n7 + 1, v2 =>
    if v2 < 0 then (some ((-4))) else (bdr (f_X2_canFollow σ v2 x1) fun r3 => if r3 = 0 then (sq (v2 + (-1)) fun y4 => f_X2_greatestBehind_h7 σ x1 n7 y4) else (some v2))
def f_X2_greatestBehind (σ : St) (x1 : Int32) : Option Int32 :=
  sq ((σ.1 9 0) - 1) fun y1 => f_X2_greatestBehind_h7 σ x1 FU y1
def f_X2_inLastOrder_h8 (σ : St) (x1 : Int32) : Nat → Int32 → Int32 → Int32 → Option Int32
  | 0, _, _, _ => none
  | n8 + 1, v2, v3, v4 =>
    if x1 < v4 then (some v3) else (if (σ.1 9 0) ≤ v4 then (some v3) else (bdr (f_X2_greatestBehind σ v2) fun r2 => if 0 ≤ r2 then (sq (v2 ||| (isl 1 r2)) fun y3 => sq (v4 + 1) fun y4 => f_X2_inLastOrder_h8 σ x1 n8 y3 r2 y4) else (some ((-4)))))
def f_X2_inLastOrder (σ : St) (x1 : Int32) : Option Int32 :=
  f_X2_inLastOrder_h8 σ x1 FU 0 ((-4)) 0
def f_J7_fill_53178_66_h5 (nw : Nat) (x1 : Int32) : Nat → Int32 → Int32 → St → Option St
  | 0, _, _, _ => none
  | n5 + 1, v2, v3, σ5 =>
    if v3 ≤ v2 then (some σ5) else (if v2 < 0 ∨ nw ≤ ix v2 then none else sq (wr σ5 66 (ix v2) x1) fun s2 => sq (v2 + 1) fun y3 => f_J7_fill_53178_66_h5 nw x1 n5 y3 v3 s2)
def f_J7_fill_53178_66 (nw : Nat) (σ : St) (x1 : Int32) : Option St :=
  sq (Int32.ofNat nw) fun y1 => f_J7_fill_53178_66_h5 nw x1 FU 0 y1 σ
def f_X2_countInto_66_h43 (rec26 : Int32 → Int32 → St → Option (Int32 × St)) (nw : Nat) : Nat → Int32 → Int32 → Int32 → St → Option (Int32 × St)
  | 0, _, _, _, _ => none
  | n43 + 1, v2, v3, v4, σ43 =>
    if (σ43.1 9 0) ≤ v4 then (sq (v3 + 1) fun y5 => rec26 v2 y5 σ43) else (bdr (f_X2_canFollow σ43 v4 v3) fun r7 => if r7 = 0 then (sq (v4 + 1) fun y8 => f_X2_countInto_66_h43 rec26 nw n43 v2 v3 y8 σ43) else (if (v3 ||| (isl 1 v4)) < 0 ∨ nw ≤ ix (v3 ||| (isl 1 v4)) then none else if v3 < 0 ∨ nw ≤ ix v3 then none else if (v3 ||| (isl 1 v4)) < 0 ∨ nw ≤ ix (v3 ||| (isl 1 v4)) then none else sq (wr σ43 66 (ix (v3 ||| (isl 1 v4))) ((σ43.1 66 (ix (v3 ||| (isl 1 v4)))) + (σ43.1 66 (ix v3)))) fun s9 => sq (v4 + 1) fun y10 => f_X2_countInto_66_h43 rec26 nw n43 v2 v3 y10 s9))
def f_X2_countInto_66_h26 (nw : Nat) : Nat → Int32 → Int32 → St → Option (Int32 × St)
  | 0, _, _, _ => none
  | n26 + 1, v2, v3, σ26 =>
    if v2 ≤ v3 then (if (v2 - 1) < 0 ∨ nw ≤ ix (v2 - 1) then none else some (σ26.1 66 (ix (v2 - 1)), σ26)) else (if v3 < 0 ∨ nw ≤ ix v3 then none else if (σ26.1 66 (ix v3)) = 0 then (sq (v3 + 1) fun y11 => f_X2_countInto_66_h26 nw n26 v2 y11 σ26) else (f_X2_countInto_66_h43 (f_X2_countInto_66_h26 nw n26) nw FU v2 v3 0 σ26))
def f_X2_countInto_66 (nw : Nat) (σ : St) : Option (Int32 × St) :=
  sq (isl 1 (σ.1 9 0)) fun y1 => if y1 ≤ (Int32.ofNat nw) then (bdr (f_J7_fill_53178_66 nw σ 0) fun s3 => if (0 : Int32) < 0 ∨ nw ≤ ix 0 then none else sq (wr s3 66 (ix 0) 1) fun s4 => f_X2_countInto_66_h26 nw FU y1 0 s4) else (some (0, σ))
