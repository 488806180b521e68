/-! WHAT THE MODEL COMPUTES, over its view -/
abbrev bk (V : MV) (nb : Nat) (r : Int32) : Option Nat := fnd (fun b => decide (V.2.1 1451 b = r)) nb 0
abbrev ac (V : MV) (na : Nat) (b w : Int32) : Option Nat := fnd (fun a => decide (V.2.1 1455 a = b ∧ V.2.1 1456 a = w)) na 0
/-- what an entry of the file under way adds to a sum -/
def ep (V : MV) (w e : Nat) : Int64 := if w = 0 then 1 else if w = 1 then (V.2.1 1473 e).toInt64 else if w = 2 ∧ V.2.1 1472 e = 7 then (V.2.1 1475 e).toInt64 else if w = 3 ∧ V.2.1 1472 e = 2 then (V.2.1 1475 e).toInt64 else 0
def tot (f : Nat → Int64) (l : List Nat) : Int64 := l.foldl (fun s e => s + f e) 0
def inB (V : MV) (b : Int32) (ne : Nat) : List Nat := (List.range ne).filter (fun e => decide (b < 0 ∨ V.2.1 1471 e = b))
def viol (V : MV) (b : Int32) (e : Nat) : Bool := decide (0 < e ∧ V.2.1 1471 e = b ∧ V.2.1 1471 (e - 1) = b ∧ V.2.1 1476 e ≤ V.2.1 1476 (e - 1))
def gw (V : MV) (b : Int32) (ne : Nat) : Bool := (List.range ne).all (fun e => !viol V b e)
def say (V : MV) (b ne : Nat) : Prop := (V.2.1 1467 b).toInt64 = tot (ep V 0) (inB V (nI b) ne) ∧ (V.2.1 1468 b).toInt64 = tot (ep V 1) (inB V (nI b) ne) ∧ (V.2.1 1469 b).toInt64 = tot (ep V 2) (inB V (nI b) ne) ∧ (V.2.1 1470 b).toInt64 = tot (ep V 3) (inB V (nI b) ne)
noncomputable section
theorem em (p : Prop) : p ∨ ¬ p := Classical.em p
end
def bf (V : MV) (nb ne b : Nat) : Nat := if bk V nb (V.2.1 1464 b) = none then 20 else if 0 < b ∧ V.2.1 1465 b ≤ V.2.1 1465 (b - 1) then 21 else if V.2.1 1466 b < V.1 453 then 22 else if ¬ ((V.2.1 1467 b).toInt64 = tot (ep V 0) (inB V (nI b) ne) ∧ (V.2.1 1468 b).toInt64 = tot (ep V 1) (inB V (nI b) ne) ∧ (V.2.1 1469 b).toInt64 = tot (ep V 2) (inB V (nI b) ne) ∧ (V.2.1 1470 b).toInt64 = tot (ep V 3) (inB V (nI b) ne)) then 23 else if gw V (nI b) ne = false then 24 else 0
def ef (V : MV) (nb e : Nat) : Nat := if ¬ rgt (V.2.1 1473 e) 4 then 30 else if bk V nb (V.2.1 1473 e) = none then 31 else if ¬ V.2.1 1472 e = 2 ∧ ¬ V.2.1 1472 e = 7 then 32 else if V.2.1 1475 e = 0 then 33 else 0
def ibn (V : MV) (e : Nat) : Nat := (V.2.1 1471 e).toNatClampNeg
def good (V : MV) (nb ne e : Nat) : Bool := decide (bf V nb ne (ibn V e) = 0 ∧ ef V nb e = 0)
def cntL (p : Nat → Bool) (n : Nat) : Nat := ((List.range n).filter p).length
theorem cntL_succ (p : Nat → Bool) (n : Nat) : cntL p (n + 1) = cntL p n + (if p n then 1 else 0) := by
  unfold cntL
  rw [List.range_succ, List.filter_append, List.length_append]
  by_cases h : p n = true <;> simp [h]
theorem cntL_le (p : Nat → Bool) (n : Nat) : cntL p n ≤ n := by
  unfold cntL
  have := List.length_filter_le p (List.range n)
  rw [List.length_range] at this
  exact this
theorem tot_app (f : Nat → Int64) (l : List Nat) (e : Nat) : tot f (l ++ [e]) = tot f l + f e := by
  unfold tot
  rw [List.foldl_append]
  rfl
theorem inB_succ (V : MV) (b : Int32) (n : Nat) : inB V b (n + 1) = inB V b n ++ (if b < 0 ∨ V.2.1 1471 n = b then [n] else []) := by
  unfold inB
  rw [List.range_succ, List.filter_append]
  congr 1
  by_cases h : b < 0 ∨ V.2.1 1471 n = b
  · rw [if_pos h]; simp [h]
  · rw [if_neg h]; simp [h]
theorem gw_succ (V : MV) (b : Int32) (n : Nat) : gw V b (n + 1) = (gw V b n && !viol V b n) := by
  unfold gw
  rw [List.range_succ, List.all_append]
  simp
def okD (V : MV) (h l nt ne : Nat) : Prop := dg h 1 4 = nt ∧ dg h 5 4 = ne ∧ (nI (dg h 9 6)).toInt64 = tot (ep V 1) (inB V (-1) ne) ∧ (nI (dg l 0 9)).toInt64 = tot (ep V 2) (inB V (-1) ne) ∧ (nI (dg l 9 9)).toInt64 = tot (ep V 3) (inB V (-1) ne)
/-- why the file is rejected -/
def ff (V : MV) (nb nt ne nf nr h l : Nat) : Nat := match bk V nb (V.1 460) with
  | none => 10
  | some b => if fnd (fun f => decide (V.2.1 1477 f = 10000 * nI b + V.1 461)) nf 0 ≠ none then 11 else if ¬ (dg h 1 4 = nt ∧ dg h 5 4 = ne ∧ (nI (dg h 9 6)).toInt64 = tot (ep V 1) (inB V (-1) ne) ∧ (nI (dg l 0 9)).toInt64 = tot (ep V 2) (inB V (-1) ne) ∧ (nI (dg l 9 9)).toInt64 = tot (ep V 3) (inB V (-1) ne)) then 12 else if 40 < cntL (fun r => decide (V.2.1 1487 r = 0)) nr + cntL (good V nb ne) ne then 13 else 0
/-- an entry accepted: a new row -/
def accV (nb : Nat) (V : MV) (e : Nat) : MV :=
  let r := (V.1 479).toNatClampNeg
  mS (mA (mA (mA (mA (mA (mA (mA (mA V 1480 r (V.2.1 1472 e)) 1481 r (oI (bk V nb (V.2.1 1464 (ibn V e))))) 1482 r (oI (bk V nb (V.2.1 1473 e)))) 1483 r (V.2.1 1474 e)) 1484 r (V.2.1 1475 e)) 1485 r (V.2.1 1476 e)) 1486 r (V.2.1 1466 (ibn V e))) 1487 r 0) 479 (V.1 479 + 1)
def tlV (V : MV) (k : Nat) : MV := mA V 1495 k (V.2.1 1495 k + 1)
/-- the gain of an item for its receiver -/
def gnV (V : MV) (r : Nat) (ret : Bool) : Int64 := if (V.2.1 1480 r = 2) ↔ ret = true then (-(V.2.1 1484 r)).toInt64 else (V.2.1 1484 r).toInt64
def bI (b : Bool) : Int32 := if b then 1 else 0
/-- an item into an output -/
def tkV (b : Nat) (ret : Bool) (V : MV) (r : Nat) : MV :=
  let at_ := 512 * b + (V.2.1 1491 b).toNatClampNeg
  let V1 := mA (mA (mA (mA (mA V 1492 at_ (nI r)) 1493 at_ (bI ret)) 1494 at_ 0) 1491 b (V.2.1 1491 b + 1)) 1487 r (if ret then 3 else 1)
  let V2 := mJ V1 1452 (V.2.1 1481 r).toNatClampNeg (V1.2.2 1452 (V.2.1 1481 r).toNatClampNeg - gnV V r ret)
  mJ V2 1452 (V.2.1 1482 r).toNatClampNeg (V2.2.2 1452 (V.2.1 1482 r).toNatClampNeg + gnV V r ret)
/-- why an entry is sent back -/
def wy (V : MV) (na r : Nat) : Nat := if ¬ rgt (V.2.1 1483 r) 6 then 4 else match ac V na (V.2.1 1482 r) (V.2.1 1483 r) with
  | none => 3
  | some a => if ¬ V.2.1 1458 a = 0 then 2 else if V.2.1 1480 r = 7 ∧ V.2.2 1457 a < (V.2.1 1484 r).toInt64 then 1 else 0
def amtV (V : MV) (r : Nat) (x : Int64) : Int64 := if V.2.1 1480 r = 2 then x + (V.2.1 1484 r).toInt64 else x - (V.2.1 1484 r).toInt64
/-- an item done: the number posted, the view -/
def doV (na : Nat) (V : MV) (p : Nat) : Int32 × MV :=
  let r := (V.2.1 1492 p).toNatClampNeg
  let V1 := mA V 1494 p 1
  if ¬ V.2.1 1493 p = 0 then (0, V1)
  else if wy V na r ≠ 0 then (0, mS (mA (mA (mA (tlV (mA V1 1494 p 2) (wy V na r)) 1488 r (nI (wy V na r))) 1487 r 2) 1489 r (V.1 490)) 490 (V.1 490 + 1))
  else match ac V na (V.2.1 1482 r) (V.2.1 1483 r) with
    | none => (1, V1)
    | some a => (1, mJ V1 1457 a (amtV V r (V.2.2 1457 a)))
