/-! ===== the methods as functions ===== -/
def F_X0_together (a0 : Int32) (a1 : Int32) : Int32 := bnd (if a0 = (-1 : Int32) then (0 : Int32) else if a1 = (-1 : Int32) then (0 : Int32) else if (a0 &&& a1) = 0 then (1 : Int32) else (0 : Int32)) fun v1 => if v1 = 0 then (-1 : Int32) else (a0 ||| a1)
def F_X3_cellsOf (a0 : Int32) (a1 : Int32) (a2 : Int32) : Int32 := if (5 : Int32) ≤ a0 then (((1082401 : Int32) &&& (((1 : Int32) <<< (((5 : Int32) * a2) &&& 31)) - (1 : Int32))) <<< (((((5 : Int32) * a1) + a0) - (5 : Int32)) &&& 31)) else ((((1 : Int32) <<< (a2 &&& 31)) - (1 : Int32)) <<< ((((5 : Int32) * a0) + a1) &&& 31))
def F_X0_addToTable_L37 {ρ : Type} (a1 : Int32) (a2 : Int32) (a3 : Int32) (a4 : Int32) (a5 : Int32) (K86 : Wd → Option ρ) : Nat → Int32 → Wd → Option ρ
  | 0, _, _ => none
  | m + 1, x6, M => if a3 ≤ x6 then K86 M else if (4096 : Int32) ≤ ((a3 * a4) + x6) then K86 M else ldi (M.1 46) 4096 x6 fun v10 => inb 4096 ((a3 * a4) + x6) <| bnd (x6 + (1 : Int32)) fun v15 => F_X0_addToTable_L37 a1 a2 a3 a4 a5 K86 m v15 (upI M 46 ((a3 * a4) + x6).toNatClampNeg (F_X0_together v10 a5))
def F_X0_addToTable_L8 {ρ : Type} (a1 : Int32) (a2 : Int32) (a3 : Int32) (K92 : Wd → Option ρ) : Nat → Int32 → Wd → Option ρ
  | 0, _, _ => none
  | m + 1, x4, M => if x4 < 0 then K92 M else bnd (if (5 : Int32) < (x4 + a2) then (-1 : Int32) else (F_X3_cellsOf a1 x4 a2)) fun v4 => F_X0_addToTable_L37 a1 a2 a3 x4 v4 (fun M17 => bnd (x4 + (-1 : Int32)) fun v18 => F_X0_addToTable_L8 a1 a2 a3 K92 m v18 M17) fuelN (0 : Int32) M
def F_X0_addToTable (a1 : Int32) (a2 : Int32) (M : Wd) : Option Wd := bnd (M.1 44 7) fun v1 => F_X0_addToTable_L8 a1 a2 v1 (fun M20 => some (upI M20 44 7 (F_min (v1 * (4 : Int32)) (4096 : Int32)))) fuelN (3 : Int32) M
def F_X0_load_L34 {ρ : Type} (K109 : Wd → Option ρ) : Nat → Int32 → Wd → Option ρ
  | 0, _, _ => none
  | m + 1, x4, M => if (M.1 44 6) ≤ x4 then K109 M else if (6 : Int32) ≤ x4 then K109 M else ldi (M.1 4) 6 x4 fun v3 => inb 6 x4 <| ldi (M.1 3) 6 x4 fun v7 => ldi (M.1 2) 6 x4 fun v10 => ldi (M.1 4) 6 x4 fun v13 => obind (F_X0_addToTable v10 v13 (upI (upI M 45 x4.toNatClampNeg v3) 44 8 ((M.1 44 8) + (v7 <<< (((2 : Int32) * x4) &&& 31))))) fun M16 => bnd (x4 + (1 : Int32)) fun v18 => F_X0_load_L34 K109 m v18 M16
def F_X0_load (a2 : Int32) (a3 : Int32) (M : Wd) : Option Wd := F_X0_load_L34 (fun M20 => some M20) fuelN (0 : Int32) (upI (upI (upI (upI M 44 6 (F_max (0 : Int32) (F_min a2 (6 : Int32)))) 44 7 (1 : Int32)) 44 8 (0 : Int32)) 46 0 a3)
def F_X0_exists (a1 : Int32) (M : Wd) : Option Int32 := if a1 < 0 then some (0 : Int32) else if (M.1 44 7) ≤ a1 then some (0 : Int32) else ldi (M.1 46) 4096 a1 fun v3 => if v3 = (-1 : Int32) then some (0 : Int32) else some (1 : Int32)
def F_X0_isOutIn (a1 : Int32) (M : Wd) : Int32 := if (M.1 44 6) ≤ 0 then (0 : Int32) else if ((a1 - a1 / (4 : Int32) * (4 : Int32)) + (M.1 45 0)) = (5 : Int32) then (1 : Int32) else (0 : Int32)
def F_X0_allArrangements_L4 {ρ : Type} (M : Wd) (K29 : Int32 → Option ρ) : Nat → Int32 → Int32 → Option ρ
  | 0, _, _ => none
  | m + 1, x1, x2 => if (M.1 44 7) ≤ x2 then K29 x1 else obind (F_X0_exists x2 M) fun v2 => bnd (if v2 = 0 then x1 else (x1 + (1 : Int32))) fun v5 => bnd (x2 + (1 : Int32)) fun v8 => F_X0_allArrangements_L4 M K29 m v5 v8
def F_X0_allArrangements (M : Wd) : Option Int32 := F_X0_allArrangements_L4 M (fun v10 => some v10) fuelN (0 : Int32) (0 : Int32)
def F_X0_behindStep (a1 : Int32) (a2 : Int32) (a3 : Int32) (M : Wd) : Option Int32 := bnd (((a1 >>> (((2 : Int32) * a2) &&& 31)) &&& (3 : Int32)) + a3) fun v1 => bnd (a1 + (a3 * ((1 : Int32) <<< (((2 : Int32) * a2) &&& 31)))) fun v3 => if v1 < 0 then some (-1 : Int32) else if (4 : Int32) ≤ v1 then some (-1 : Int32) else if v3 < 0 then some (-1 : Int32) else if v3 < (M.1 44 7) then ldi (M.1 46) 4096 v3 fun v9 => if v9 = (-1 : Int32) then some (-1 : Int32) else some v3 else some (-1 : Int32)
def F_X0_behindSlide_L20 {ρ : Type} (a2 : Int32) (a4 : Int32) (M : Wd) (K48 : Int32 → Option ρ) : Nat → Int32 → Int32 → Option ρ
  | 0, _, _ => none
  | m + 1, x5, x6 => if x6 ≤ 0 then K48 x5 else if x5 = (-1 : Int32) then K48 x5 else obind (F_X0_behindStep x5 a2 a4 M) fun v8 => bnd (x6 + (-1 : Int32)) fun v11 => F_X0_behindSlide_L20 a2 a4 M K48 m v8 v11
def F_X0_behindSlide (a1 : Int32) (a2 : Int32) (a3 : Int32) (M : Wd) : Option Int32 := bnd (if a3 ≤ 0 then (-1 : Int32) else (1 : Int32)) fun v1 => bnd (F_abs a3) fun v4 => F_X0_behindSlide_L20 a2 v1 M (fun v13 => some v13) fuelN a1 v4
def F_X0_costOf (a1 : Int32) (M : Wd) : Option Int32 := obind (F_X0_exists a1 M) fun v1 => if v1 = 0 then some (-1 : Int32) else ldi (M.1 47) 4096 a1 fun v5 => some v5
def F_X0_forget_L2 {ρ : Type} (K30 : Wd → Option ρ) : Nat → Int32 → Wd → Option ρ
  | 0, _, _ => none
  | m + 1, x1, M => if (M.1 44 7) ≤ x1 then K30 M else if (4096 : Int32) ≤ x1 then K30 M else inb 4096 x1 <| bnd (x1 + (1 : Int32)) fun v4 => F_X0_forget_L2 K30 m v4 (upI M 47 x1.toNatClampNeg (-1 : Int32))
def F_X0_forget (M : Wd) : Option Wd := F_X0_forget_L2 (fun M6 => some (upI M6 44 9 (0 : Int32))) fuelN (0 : Int32) M
def F_X0_find (a1 : Int32) (a2 : Int32) (M : Wd) : Option Wd := if a1 < 0 then some M else if (M.1 44 7) ≤ a1 then some M else ldi (M.1 46) 4096 a1 fun v3 => if v3 = (-1 : Int32) then some M else ldi (M.1 47) 4096 a1 fun v7 => if v7 = (-1 : Int32) then if (M.1 44 9) < 0 then some M else if (4096 : Int32) ≤ (M.1 44 9) then some M else inb 4096 a1 <| inb 4096 (M.1 44 9) <| some (upI (upI (upI M 47 a1.toNatClampNeg a2) 48 (M.1 44 9).toNatClampNeg a1) 44 9 ((M.1 44 9) + (1 : Int32))) else some M
def F_X0_spreadAlong_L12 {ρ : Type} (a2 : Int32) (a3 : Int32) (a4 : Int32) (a5 : Int32) (K49 : Wd → Option ρ) : Nat → Int32 → Int32 → Wd → Option ρ
  | 0, _, _, _ => none
  | m + 1, x6, x7, M => if a4 < x7 then K49 M else if x6 = (-1 : Int32) then K49 M else obind (F_X0_find x6 a5 M) fun M6 => obind (F_X0_behindStep x6 a2 a3 M6) fun v8 => bnd (x7 + (1 : Int32)) fun v11 => F_X0_spreadAlong_L12 a2 a3 a4 a5 K49 m v8 v11 M6
def F_X0_spreadAlong (a1 : Int32) (a2 : Int32) (a3 : Int32) (a4 : Int32) (a5 : Int32) (M : Wd) : Option Wd := obind (F_X0_behindStep a1 a2 a3 M) fun v1 => F_X0_spreadAlong_L12 a2 a3 a4 a5 (fun M13 => some M13) fuelN v1 (1 : Int32) M
def F_X0_spread_L33 {ρ : Type} (a1 : Int32) (a2 : Int32) (a3 : Int32) (K78 : Wd → Option ρ) : Nat → Int32 → Wd → Option ρ
  | 0, _, _ => none
  | m + 1, x4, M => if (M.1 44 6) ≤ x4 then K78 M else ldi (M.1 48) 4096 a2 fun v12 => obind (F_X0_spreadAlong v12 x4 (1 : Int32) a1 a3 M) fun M15 => ldi (M15.1 48) 4096 a2 fun v17 => obind (F_X0_spreadAlong v17 x4 (-1 : Int32) a1 a3 M15) fun M20 => bnd (x4 + (1 : Int32)) fun v22 => F_X0_spread_L33 a1 a2 a3 K78 m v22 M20
def F_X0_spread_L2 {ρ : Type} (a1 : Int32) (K84 : Wd → Option ρ) : Nat → Int32 → Wd → Option ρ
  | 0, _, _ => none
  | m + 1, x2, M => if (M.1 44 9) ≤ x2 then K84 M else if (4096 : Int32) ≤ x2 then K84 M else ldi (M.1 48) 4096 x2 fun v3 => obind (F_X0_costOf v3 M) fun v6 => bnd (v6 + (1 : Int32)) fun v9 => F_X0_spread_L33 a1 x2 v9 (fun M24 => bnd (x2 + (1 : Int32)) fun v25 => F_X0_spread_L2 a1 K84 m v25 M24) fuelN (0 : Int32) M
def F_X0_spread (a1 : Int32) (M : Wd) : Option Wd := F_X0_spread_L2 a1 (fun M27 => some M27) fuelN (0 : Int32) M
def F_X0_spreadFromStart (a1 : Int32) (M : Wd) : Option Wd := obind (F_X0_forget M) fun M1 => obind (F_X0_find (M1.1 44 8) (0 : Int32) M1) fun M3 => obind (F_X0_spread a1 M3) fun M5 => some M5
def F_X0_leastCostOut_L4 {ρ : Type} (M : Wd) (K53 : Int32 → Option ρ) : Nat → Int32 → Int32 → Option ρ
  | 0, _, _ => none
  | m + 1, x1, x2 => if (M.1 44 7) ≤ x2 then K53 x1 else obind (if (F_X0_isOutIn x2 M) = 0 then some (-1 : Int32) else obind (F_X0_costOf x2 M) fun v5 => some v5) fun v3 => bnd (if v3 = (-1 : Int32) then x1 else if x1 = (-1 : Int32) then v3 else if x1 ≤ v3 then x1 else v3) fun v9 => bnd (x2 + (1 : Int32)) fun v14 => F_X0_leastCostOut_L4 M K53 m v9 v14
def F_X0_leastCostOut (M : Wd) : Option Int32 := F_X0_leastCostOut_L4 M (fun v16 => some v16) fuelN (-1 : Int32) (0 : Int32)
def F_X0_slidesFromStart (M : Wd) : Option (Int32 × Wd) := obind (F_X0_spreadFromStart (3 : Int32) M) fun M1 => obind (F_X0_leastCostOut M1) fun v3 => some (v3, M1)
def F_X0_stepsFromStart (M : Wd) : Option (Int32 × Wd) := obind (F_X0_spreadFromStart (1 : Int32) M) fun M1 => obind (F_X0_leastCostOut M1) fun v3 => some (v3, M1)
def F_X0_slidesFromEnds_L6 {ρ : Type} (K34 : Wd → Option ρ) : Nat → Int32 → Wd → Option ρ
  | 0, _, _ => none
  | m + 1, x1, M => if (M.1 44 7) ≤ x1 then K34 M else obind (if (F_X0_isOutIn x1 M) = 0 then some M else obind (F_X0_find x1 (0 : Int32) M) fun M7 => some M7) fun M5 => bnd (x1 + (1 : Int32)) fun v10 => F_X0_slidesFromEnds_L6 K34 m v10 M5
def F_X0_slidesFromEnds (M : Wd) : Option (Int32 × Wd) := obind (F_X0_forget M) fun M1 => F_X0_slidesFromEnds_L6 (fun M12 => obind (F_X0_spread (3 : Int32) M12) fun M13 => obind (F_X0_costOf (M13.1 44 8) M13) fun v15 => some (v15, M13)) fuelN (0 : Int32) M1
def F_X0_foundOut_L4 {ρ : Type} (M : Wd) (K41 : Int32 → Option ρ) : Nat → Int32 → Int32 → Option ρ
  | 0, _, _ => none
  | m + 1, x1, x2 => if (M.1 44 9) ≤ x2 then K41 x1 else if (4096 : Int32) ≤ x2 then K41 x1 else ldi (M.1 48) 4096 x2 fun v3 => bnd (if (F_X0_isOutIn v3 M) = 0 then x1 else (x1 + (1 : Int32))) fun v7 => bnd (x2 + (1 : Int32)) fun v10 => F_X0_foundOut_L4 M K41 m v7 v10
def F_X0_foundOut (M : Wd) : Option Int32 := F_X0_foundOut_L4 M (fun v12 => some v12) fuelN (0 : Int32) (0 : Int32)
def F_X0_farthestFound (M : Wd) : Option Int32 := bnd ((M.1 44 9) - (1 : Int32)) fun v1 => if v1 < 0 then some (0 : Int32) else if (4096 : Int32) ≤ v1 then some (0 : Int32) else ldi (M.1 48) 4096 v1 fun v5 => obind (F_X0_costOf v5 M) fun v8 => some v8
def F_X0_findNextSlide_L24 {ρ : Type} (a1 : Int32) (a2 : Int32) (a3 : Int32) (M : Wd) (K53 : Int32 → Option ρ) (K72 : Option ρ) : Nat → Int32 → Option ρ
  | 0, _ => none
  | m + 1, x4 => if (3 : Int32) < x4 then K72 else if x4 = 0 then bnd (x4 + (1 : Int32)) fun v8 => F_X0_findNextSlide_L24 a1 a2 a3 M K53 K72 m v8 else obind (F_X0_behindSlide a1 a3 x4 M) fun v10 => obind (F_X0_costOf v10 M) fun v13 => if v13 = (a2 - (1 : Int32)) then K53 x4 else bnd (x4 + (1 : Int32)) fun v17 => F_X0_findNextSlide_L24 a1 a2 a3 M K53 K72 m v17
def F_X0_findNextSlide_L8 {ρ : Type} (a1 : Int32) (a2 : Int32) (M : Wd) (K53 : Int32 → Int32 → Option ρ) (K78 : Option ρ) : Nat → Int32 → Option ρ
  | 0, _ => none
  | m + 1, x3 => if (M.1 44 6) ≤ x3 then K78 else if a2 ≤ 0 then K78 else F_X0_findNextSlide_L24 a1 a2 x3 M (fun v19 => K53 x3 v19) (bnd (x3 + (1 : Int32)) fun v20 => F_X0_findNextSlide_L8 a1 a2 M K53 K78 m v20) fuelN (-3 : Int32)
def F_X0_findNextSlide (a1 : Int32) (M : Wd) : Option (Int32 × Wd) := obind (F_X0_costOf a1 M) fun v1 => F_X0_findNextSlide_L8 a1 v1 M (fun v22 v23 => some ((1 : Int32), (upI (upI M 44 10 v22) 44 11 v23))) (some ((0 : Int32), M)) fuelN (0 : Int32)
def F_X0_isCheaper (a1 : Int32) (a2 : Int32) (M : Wd) : Option Int32 := obind (F_X0_exists a1 M) fun v1 => if v1 = 0 then some (0 : Int32) else ldi (M.1 47) 4096 a1 fun v5 => if v5 = (-1 : Int32) then some (1 : Int32) else ldi (M.1 47) 4096 a1 fun v9 => if v9 ≤ a2 then some (0 : Int32) else some (1 : Int32)
def F_X0_cheapen (a1 : Int32) (a2 : Int32) (M : Wd) : Option Wd := bnd (a2 &&& (3 : Int32)) fun v1 => obind (F_X0_isCheaper a1 a2 M) fun v3 => if v3 = 0 then some M else ldi (M.1 50) 4 v1 fun v7 => if (4096 : Int32) ≤ v7 then some M else inb 4096 a1 <| ldi (M.1 50) 4 v1 fun v12 => inb 16384 ((v1 * (4096 : Int32)) + v12) <| ldi (M.1 50) 4 v1 fun v16 => inb 4 v1 <| some (upI (upI (upI M 47 a1.toNatClampNeg a2) 49 ((v1 * (4096 : Int32)) + v12).toNatClampNeg a1) 50 v1.toNatClampNeg (v16 + (1 : Int32)))
def F_X0_inBucket (a1 : Int32) (a2 : Int32) (M : Wd) : Option Int32 := bnd (((a1 &&& (3 : Int32)) * (4096 : Int32)) + a2) fun v1 => obind (if v1 < 0 then some (-1 : Int32) else if (16384 : Int32) ≤ v1 then some (-1 : Int32) else ldi (M.1 49) 16384 v1 fun v6 => some v6) fun v3 => obind (F_X0_costOf v3 M) fun v10 => if v10 = a1 then some v3 else some (-1 : Int32)
def F_X0_emptyBucket_L27 {ρ : Type} (a1 : Int32) (a2 : Int32) (a3 : Int32) (a4 : Int32) (K99 : Wd → Option ρ) : Nat → Int32 → Wd → Option ρ
  | 0, _, _ => none
  | m + 1, x5, M => if (M.1 44 6) ≤ x5 then K99 M else if (6 : Int32) ≤ x5 then K99 M else if a4 = (-1 : Int32) then K99 M else obind (F_X0_behindStep a4 x5 (1 : Int32) M) fun v11 => ldi (M.1 45) 6 x5 fun v14 => obind (F_X0_cheapen v11 (a1 + v14) M) fun M17 => obind (F_X0_behindStep a4 x5 (-1 : Int32) M17) fun v19 => ldi (M17.1 45) 6 x5 fun v22 => obind (F_X0_cheapen v19 (a1 + v22) M17) fun M25 => bnd (x5 + (1 : Int32)) fun v27 => F_X0_emptyBucket_L27 a1 a2 a3 a4 K99 m v27 M25
def F_X0_emptyBucket_L11 {ρ : Type} (a1 : Int32) (a2 : Int32) (K105 : Wd → Option ρ) : Nat → Int32 → Wd → Option ρ
  | 0, _, _ => none
  | m + 1, x3, M => if a2 ≤ x3 then K105 M else obind (F_X0_inBucket a1 x3 M) fun v5 => F_X0_emptyBucket_L27 a1 a2 x3 v5 (fun M29 => bnd (x3 + (1 : Int32)) fun v30 => F_X0_emptyBucket_L11 a1 a2 K105 m v30 M29) fuelN (0 : Int32) M
def F_X0_emptyBucket (a1 : Int32) (M : Wd) : Option Wd := ldi (M.1 50) 4 (a1 &&& (3 : Int32)) fun v1 => F_X0_emptyBucket_L11 a1 v1 (fun M32 => inb 4 (a1 &&& (3 : Int32)) <| some (upI M32 50 (a1 &&& (3 : Int32)).toNatClampNeg (0 : Int32))) fuelN (0 : Int32) M
def F_X0_hasOutFor_L2 {ρ : Type} (a1 : Int32) (M : Wd) (K34 : Option ρ) (K42 : Option ρ) : Nat → Int32 → Option ρ
  | 0, _ => none
  | m + 1, x2 => ldi (M.1 50) 4 (a1 &&& (3 : Int32)) fun v1 => if v1 ≤ x2 then K42 else obind (F_X0_inBucket a1 x2 M) fun v5 => if v5 = (-1 : Int32) then bnd (x2 + (1 : Int32)) fun v9 => F_X0_hasOutFor_L2 a1 M K34 K42 m v9 else if (F_X0_isOutIn v5 M) = 0 then bnd (x2 + (1 : Int32)) fun v13 => F_X0_hasOutFor_L2 a1 M K34 K42 m v13 else K34
def F_X0_hasOutFor (a1 : Int32) (M : Wd) : Option Int32 := F_X0_hasOutFor_L2 a1 M (some (1 : Int32)) (some (0 : Int32)) fuelN (0 : Int32)
def F_X0_isAnyFilled (M : Wd) : Int32 := if ((((M.1 50 0) + (M.1 50 1)) + (M.1 50 2)) + (M.1 50 3)) ≤ 0 then (0 : Int32) else (1 : Int32)
def F_X0_fuelByBuckets_L6 {ρ : Type} (K24 : Wd → Option ρ) : Nat → Int32 → Wd → Option ρ
  | 0, _, _ => none
  | m + 1, x1, M => if (4 : Int32) ≤ x1 then K24 M else inb 4 x1 <| bnd (x1 + (1 : Int32)) fun v5 => F_X0_fuelByBuckets_L6 K24 m v5 (upI M 50 x1.toNatClampNeg (0 : Int32))
def F_X0_fuelByBuckets_L35 {ρ : Type} (K57 : Int32 → Wd → Option ρ) (K70 : Wd → Option ρ) : Nat → Int32 → Wd → Option ρ
  | 0, _, _ => none
  | m + 1, x1, M => if (12288 : Int32) < x1 then K70 M else if (F_X0_isAnyFilled M) = 0 then K70 M else obind (F_X0_hasOutFor x1 M) fun v13 => if v13 = 0 then obind (F_X0_emptyBucket x1 M) fun M17 => bnd (x1 + (1 : Int32)) fun v19 => F_X0_fuelByBuckets_L35 K57 K70 m v19 M17 else K57 x1 M
def F_X0_fuelByBuckets (M : Wd) : Option (Int32 × Wd) := obind (F_X0_forget M) fun M1 => F_X0_fuelByBuckets_L6 (fun M7 => obind (F_X0_cheapen (M7.1 44 8) (0 : Int32) M7) fun M8 => F_X0_fuelByBuckets_L35 (fun v21 M22 => some (v21, M22)) (fun M23 => some ((-1 : Int32), M23)) fuelN (0 : Int32) M8) fuelN (0 : Int32) M1
def F_X0_hasCheapenedAround_L35 {ρ : Type} (a1 : Int32) (a3 : Int32) (a4 : Int32) (K79 : Int32 → Wd → Option ρ) : Nat → Int32 → Int32 → Wd → Option ρ
  | 0, _, _, _ => none
  | m + 1, x2, x5, M => if (1 : Int32) < x5 then K79 x2 M else obind (F_X0_behindStep a1 a3 x5 M) fun v12 => obind (F_X0_isCheaper v12 a4 M) fun v15 => obind2 (if v15 = 0 then some (x2, M) else inb 4096 v12 <| some ((1 : Int32), (upI M 47 v12.toNatClampNeg a4))) fun v18 M19 => bnd (x5 + (2 : Int32)) fun v23 => F_X0_hasCheapenedAround_L35 a1 a3 a4 K79 m v18 v23 M19
def F_X0_hasCheapenedAround_L4 {ρ : Type} (a1 : Int32) (K85 : Int32 → Wd → Option ρ) : Nat → Int32 → Int32 → Wd → Option ρ
  | 0, _, _, _ => none
  | m + 1, x2, x3, M => if (M.1 44 6) ≤ x3 then K85 x2 M else if (6 : Int32) ≤ x3 then K85 x2 M else obind (F_X0_costOf a1 M) fun v3 => ldi (M.1 45) 6 x3 fun v6 => bnd (v3 + v6) fun v9 => F_X0_hasCheapenedAround_L35 a1 x3 v9 (fun v25 M26 => bnd (x3 + (1 : Int32)) fun v27 => F_X0_hasCheapenedAround_L4 a1 K85 m v25 v27 M26) fuelN x2 (-1 : Int32) M
def F_X0_hasCheapenedAround (a1 : Int32) (M : Wd) : Option (Int32 × Wd) := F_X0_hasCheapenedAround_L4 a1 (fun v29 M30 => chB v29 <| some (v29, M30)) fuelN (0 : Int32) (0 : Int32) M
def F_X0_fuelByRounds_L32 {ρ : Type} (a2 : Int32) (K65 : Int32 → Wd → Option ρ) : Nat → Int32 → Int32 → Wd → Option ρ
  | 0, _, _, _ => none
  | m + 1, x1, x3, M => if (M.1 44 7) ≤ x3 then K65 x1 M else obind (F_X0_costOf x3 M) fun v8 => obind2 (if v8 = (-1 : Int32) then some (x1, M) else obind2 (F_X0_hasCheapenedAround x3 M) fun v14 M15 => if v14 = 0 then some (x1, M15) else some ((1 : Int32), M15)) fun v11 M12 => bnd (x3 + (1 : Int32)) fun v20 => F_X0_fuelByRounds_L32 a2 K65 m v11 v20 M12
def F_X0_fuelByRounds_L17 {ρ : Type} (K71 : Wd → Option ρ) : Nat → Int32 → Int32 → Wd → Option ρ
  | 0, _, _, _ => none
  | m + 1, x1, x2, M => if (4096 : Int32) < x2 then K71 M else if x1 = 0 then K71 M else F_X0_fuelByRounds_L32 x2 (fun v22 M23 => bnd (x2 + (1 : Int32)) fun v24 => F_X0_fuelByRounds_L17 K71 m v22 v24 M23) fuelN (0 : Int32) (0 : Int32) M
def F_X0_fuelByRounds (M : Wd) : Option (Int32 × Wd) := obind (F_X0_forget M) fun M1 => obind (F_X0_find (M1.1 44 8) (0 : Int32) M1) fun M3 => F_X0_fuelByRounds_L17 (fun M26 => obind (F_X0_leastCostOut M26) fun v27 => some (v27, M26)) fuelN (1 : Int32) (0 : Int32) M3
def F_X1_hasCar (a1 : Int32) (M : Wd) : Int32 := if a1 < 0 then (0 : Int32) else if (M.1 1 5) ≤ a1 then (0 : Int32) else if (6 : Int32) ≤ a1 then (0 : Int32) else (1 : Int32)
def F_X1_hasSlide (a1 : Int32) (M : Wd) : Int32 := if a1 < 0 then (0 : Int32) else if (M.1 1 7) ≤ a1 then (0 : Int32) else if (60 : Int32) ≤ a1 then (0 : Int32) else (1 : Int32)
def F_X1_hasWallAt (a1 : Int32) (M : Wd) : Int32 := if ((M.1 1 6) &&& ((1 : Int32) <<< (a1 &&& 31))) = 0 then (0 : Int32) else (1 : Int32)
def F_X1_carAt_L2 {ρ : Type} (a1 : Int32) (M : Wd) (K44 : Int32 → Option ρ) (K52 : Option ρ) : Nat → Int32 → Option ρ
  | 0, _ => none
  | m + 1, x2 => if (M.1 1 5) ≤ x2 then K52 else if (6 : Int32) ≤ x2 then K52 else ldi (M.1 2) 6 x2 fun v3 => ldi (M.1 3) 6 x2 fun v6 => ldi (M.1 4) 6 x2 fun v9 => if ((F_X3_cellsOf v3 v6 v9) &&& ((1 : Int32) <<< (a1 &&& 31))) = 0 then bnd (x2 + (1 : Int32)) fun v14 => F_X1_carAt_L2 a1 M K44 K52 m v14 else K44 x2
def F_X1_carAt (a1 : Int32) (M : Wd) : Option Int32 := F_X1_carAt_L2 a1 M (fun v16 => some v16) (some (-1 : Int32)) fuelN (0 : Int32)
def F_X1_takenCells_L7 {ρ : Type} (M : Wd) (K51 : Int32 → Option ρ) : Nat → Int32 → Int32 → Option ρ
  | 0, _, _ => none
  | m + 1, x1, x2 => if (M.1 1 5) ≤ x2 then K51 x1 else if (6 : Int32) ≤ x2 then K51 x1 else ldi (M.1 2) 6 x2 fun v5 => ldi (M.1 3) 6 x2 fun v8 => ldi (M.1 4) 6 x2 fun v11 => bnd (x1 ||| (F_X3_cellsOf v5 v8 v11)) fun v15 => bnd (x2 + (1 : Int32)) fun v17 => F_X1_takenCells_L7 M K51 m v15 v17
def F_X1_takenCells (M : Wd) : Option Int32 := bnd (M.1 1 6) fun v1 => F_X1_takenCells_L7 M (fun v19 => some v19) fuelN v1 (0 : Int32)
def F_X1_isRedOut (M : Wd) : Int32 := if (M.1 1 5) ≤ 0 then (0 : Int32) else if ((M.1 3 0) + (M.1 4 0)) = (5 : Int32) then (1 : Int32) else (0 : Int32)
def F_X3_bitOf (a0 : Int32) (a1 : Int32) : Int32 := if (5 : Int32) ≤ a0 then ((1 : Int32) <<< (((((5 : Int32) * a1) + a0) - (5 : Int32)) &&& 31)) else ((1 : Int32) <<< ((((5 : Int32) * a0) + a1) &&& 31))
def F_X1_roomOf_L48 {ρ : Type} (a1 : Int32) (a2 : Int32) (a3 : Int32) (M : Wd) (K93 : Int32 → Option ρ) : Nat → Int32 → Int32 → Option ρ
  | 0, _, _ => none
  | m + 1, x4, x5 => if (3 : Int32) ≤ x5 then K93 x5 else if x4 < 0 then K93 x5 else if (5 : Int32) ≤ x4 then K93 x5 else ldi (M.1 2) 6 a1 fun v21 => if (a3 &&& (F_X3_bitOf v21 x4)) = 0 then bnd (x5 + (1 : Int32)) fun v26 => bnd (x4 + a2) fun v28 => F_X1_roomOf_L48 a1 a2 a3 M K93 m v28 v26 else K93 x5
def F_X1_roomOf (a1 : Int32) (a2 : Int32) (M : Wd) : Option Int32 := if (F_X1_hasCar a1 M) = 0 then some (0 : Int32) else obind (F_X1_takenCells M) fun v3 => obind (if a2 ≤ 0 then ldi (M.1 3) 6 a1 fun v8 => some (v8 - (1 : Int32)) else ldi (M.1 3) 6 a1 fun v11 => ldi (M.1 4) 6 a1 fun v14 => some (v11 + v14)) fun v6 => F_X1_roomOf_L48 a1 a2 v3 M (fun v30 => some v30) fuelN v6 (0 : Int32)
def F_X1_troubleOfEntering (a1 : Int32) (a2 : Int32) (a3 : Int32) (M : Wd) : Option Int32 := if a1 < 0 then some (1 : Int32) else if a1 < (10 : Int32) then if a3 < (2 : Int32) then some (2 : Int32) else if (3 : Int32) < a3 then some (2 : Int32) else if a2 < 0 then some (2 : Int32) else if a2 ≤ ((5 : Int32) - a3) then bnd (if (M.1 1 5) = 0 then if a1 < (5 : Int32) then (0 : Int32) else (1 : Int32) else (0 : Int32)) fun v7 => obind (F_X1_takenCells M) fun v12 => bnd (if (v12 &&& (F_X3_cellsOf a1 a2 a3)) = 0 then (1 : Int32) else (0 : Int32)) fun v16 => if (6 : Int32) ≤ (M.1 1 5) then some (3 : Int32) else if v16 = 0 then some (3 : Int32) else if v7 = 0 then some (0 : Int32) else some (3 : Int32) else some (2 : Int32) else some (1 : Int32)
def F_X1_enter (a1 : Int32) (a2 : Int32) (a3 : Int32) (M : Wd) : Option (Int32 × Wd) := bnd (M.1 1 5) fun v1 => obind (if v1 < 0 then some M else if (6 : Int32) ≤ v1 then some M else inb 6 v1 <| inb 6 v1 <| inb 6 v1 <| some (upI (upI (upI (upI M 2 v1.toNatClampNeg a1) 3 v1.toNatClampNeg a2) 4 v1.toNatClampNeg a3) 1 5 ((M.1 1 5) + (1 : Int32)))) fun M3 => some (v1, (upI M3 1 7 (0 : Int32)))
def F_X1_leave (M : Wd) : Option (Int32 × Wd) := some (((M.1 1 5) - (1 : Int32)), (upI (upI M 1 5 ((M.1 1 5) - (1 : Int32))) 1 7 (0 : Int32)))
def F_J6_bitCount_0f7a4 (a0 : Int32) : Int32 := bnd (a0 - (((a0.toUInt32 >>> ((1 : Int32).toUInt32 &&& Int32.toUInt32 31)).toInt32) &&& (1431655765 : Int32))) fun v1 => bnd ((v1 &&& (858993459 : Int32)) + (((v1.toUInt32 >>> ((2 : Int32).toUInt32 &&& Int32.toUInt32 31)).toInt32) &&& (858993459 : Int32))) fun v3 => bnd ((v3 + ((v3.toUInt32 >>> ((4 : Int32).toUInt32 &&& Int32.toUInt32 31)).toInt32)) &&& (252645135 : Int32)) fun v5 => bnd (v5 + ((v5.toUInt32 >>> ((8 : Int32).toUInt32 &&& Int32.toUInt32 31)).toInt32)) fun v7 => bnd (v7 + ((v7.toUInt32 >>> ((16 : Int32).toUInt32 &&& Int32.toUInt32 31)).toInt32)) fun v9 => (v9 &&& (63 : Int32))
def F_X3_isCell (a0 : Int32) : Int32 := if a0 < 0 then (0 : Int32) else if (25 : Int32) ≤ a0 then (0 : Int32) else (1 : Int32)
def F_X1_troubleOfWall (a1 : Int32) (M : Wd) : Option Int32 := if (F_X3_isCell a1) = 0 then some (1 : Int32) else bnd (if (F_X1_hasWallAt a1 M) = 0 then if (F_J6_bitCount_0f7a4 (M.1 1 6)) < (4 : Int32) then (0 : Int32) else (1 : Int32) else (0 : Int32)) fun v4 => obind (F_X1_carAt a1 M) fun v10 => if 0 ≤ v10 then some (3 : Int32) else if v4 = 0 then some (0 : Int32) else some (3 : Int32)
def F_X1_turnWall (a1 : Int32) (M : Wd) : Option (Int32 × Wd) := some ((F_X1_hasWallAt a1 (upI (upI M 1 6 ((M.1 1 6) ^^^ ((1 : Int32) <<< (a1 &&& 31)))) 1 7 (0 : Int32))), (upI (upI M 1 6 ((M.1 1 6) ^^^ ((1 : Int32) <<< (a1 &&& 31)))) 1 7 (0 : Int32)))
def F_X1_troubleOfSliding (a1 : Int32) (a2 : Int32) (M : Wd) : Option Int32 := if (F_X1_hasCar a1 M) = 0 then some (1 : Int32) else if a2 < (-3 : Int32) then some (2 : Int32) else if (3 : Int32) < a2 then some (2 : Int32) else if a2 = 0 then some (2 : Int32) else obind (if a2 ≤ 0 then obind (F_X1_roomOf a1 (-1 : Int32) M) fun v8 => some v8 else obind (F_X1_roomOf a1 (1 : Int32) M) fun v11 => some v11) fun v6 => if (F_abs a2) ≤ v6 then some (0 : Int32) else some (3 : Int32)
def F_X1_makeSlide (a1 : Int32) (a2 : Int32) (M : Wd) : Option (Int32 × Wd) := if (F_X1_hasCar a1 M) = 0 then some ((-1 : Int32), M) else if (M.1 1 7) < 0 then some ((-1 : Int32), M) else if (M.1 1 7) < (60 : Int32) then ldi (M.1 3) 6 a1 fun v5 => inb 6 a1 <| inb 60 (M.1 1 7) <| inb 60 (M.1 1 7) <| ldi ((upI M 3 a1.toNatClampNeg (v5 + a2)).1 3) 6 a1 fun v11 => some (v11, (upI (upI (upI (upI M 3 a1.toNatClampNeg (v5 + a2)) 5 (M.1 1 7).toNatClampNeg a1) 6 (M.1 1 7).toNatClampNeg a2) 1 7 ((M.1 1 7) + (1 : Int32)))) else some ((-1 : Int32), M)
def F_X1_unmakeSlide (M : Wd) : Option (Int32 × Wd) := if (F_X1_hasSlide ((M.1 1 7) - (1 : Int32)) M) = 0 then some ((-1 : Int32), M) else ldi (M.1 5) 60 ((M.1 1 7) - (1 : Int32)) fun v3 => obind (if (F_X1_hasCar v3 (upI M 1 7 ((M.1 1 7) - (1 : Int32)))) = 0 then some (upI M 1 7 ((M.1 1 7) - (1 : Int32))) else ldi (M.1 3) 6 v3 fun v9 => ldi (M.1 6) 60 ((M.1 1 7) - (1 : Int32)) fun v12 => inb 6 v3 <| some (upI (upI M 1 7 ((M.1 1 7) - (1 : Int32))) 3 v3.toNatClampNeg (v9 - v12))) fun M7 => some (v3, M7)
def F_X1_loggedSteps_L4 {ρ : Type} (a1 : Int32) (M : Wd) (K46 : Int32 → Option ρ) : Nat → Int32 → Int32 → Option ρ
  | 0, _, _ => none
  | m + 1, x2, x3 => if (M.1 1 7) ≤ x3 then K46 x2 else if (60 : Int32) ≤ x3 then K46 x2 else ldi (M.1 5) 60 x3 fun v3 => obind (if v3 = a1 then ldi (M.1 6) 60 x3 fun v8 => bnd (x2 + (F_abs v8)) fun v11 => some v11 else some x2) fun v6 => bnd (x3 + (1 : Int32)) fun v14 => F_X1_loggedSteps_L4 a1 M K46 m v6 v14
def F_X1_loggedSteps (a1 : Int32) (M : Wd) : Option Int32 := F_X1_loggedSteps_L4 a1 M (fun v16 => some v16) fuelN (0 : Int32) (0 : Int32)
def F_X1_fuelSlideBySlide_L4 {ρ : Type} (M : Wd) (K62 : Int32 → Option ρ) : Nat → Int32 → Int32 → Option ρ
  | 0, _, _ => none
  | m + 1, x1, x2 => if (M.1 1 7) ≤ x2 then K62 x1 else if (60 : Int32) ≤ x2 then K62 x1 else ldi (M.1 5) 60 x2 fun v3 => obind (if (F_X1_hasCar v3 M) = 0 then some (0 : Int32) else ldi (M.1 6) 60 x2 fun v9 => ldi (M.1 4) 6 v3 fun v12 => some ((F_abs v9) * v12)) fun v7 => bnd (x1 + v7) fun v16 => bnd (x2 + (1 : Int32)) fun v18 => F_X1_fuelSlideBySlide_L4 M K62 m v16 v18
def F_X1_fuelSlideBySlide (M : Wd) : Option Int32 := F_X1_fuelSlideBySlide_L4 M (fun v20 => some v20) fuelN (0 : Int32) (0 : Int32)
def F_X1_fuelCarByCar_L4 {ρ : Type} (M : Wd) (K39 : Int32 → Option ρ) : Nat → Int32 → Int32 → Option ρ
  | 0, _, _ => none
  | m + 1, x1, x2 => if (M.1 1 5) ≤ x2 then K39 x1 else if (6 : Int32) ≤ x2 then K39 x1 else obind (F_X1_loggedSteps x2 M) fun v3 => ldi (M.1 4) 6 x2 fun v6 => bnd (x1 + (v3 * v6)) fun v9 => bnd (x2 + (1 : Int32)) fun v11 => F_X1_fuelCarByCar_L4 M K39 m v9 v11
def F_X1_fuelCarByCar (M : Wd) : Option Int32 := F_X1_fuelCarByCar_L4 M (fun v13 => some v13) fuelN (0 : Int32) (0 : Int32)
def F_X2_add (a1 : Int32) (M : Wd) : Option (Int32 × Wd) := obind (if (M.1 51 1) < 0 then some M else if (60 : Int32) ≤ (M.1 51 1) then some M else inb 60 (M.1 51 1) <| some (upI (upI M 52 (M.1 51 1).toNatClampNeg a1) 51 1 ((M.1 51 1) + (1 : Int32)))) fun M1 => some ((M1.1 51 1), M1)
def F_X2_clear (M : Wd) : Option (Int32 × Wd) := bnd (M.1 51 1) fun v1 => some (v1, (upI M 51 1 (0 : Int32)))
def F_X2_codeAt (a1 : Int32) (M : Wd) : Option Int32 := if a1 < 0 then some (0 : Int32) else if (M.1 51 1) ≤ a1 then some (0 : Int32) else if (60 : Int32) ≤ a1 then some (0 : Int32) else ldi (M.1 52) 60 a1 fun v4 => some v4
def F_X2_digitAt (a1 : Int32) (M : Wd) : Option Int32 := obind (F_X2_codeAt a1 M) fun v1 => some (v1 - (48 : Int32))
def F_X2_signAt (a1 : Int32) (M : Wd) : Option Int32 := obind (F_X2_codeAt a1 M) fun v1 => if v1 = (45 : Int32) then some (-1 : Int32) else some (1 : Int32)
def F_X2_isAmong (a0 : Int32) (a1 : Int32) (a2 : Int32) : Int32 := if a0 < a1 then (0 : Int32) else if a2 < a0 then (0 : Int32) else (1 : Int32)
def F_X2_cellAt (a1 : Int32) (M : Wd) : Option Int32 := obind (F_X2_codeAt (a1 + (1 : Int32)) M) fun v1 => bnd (F_X2_isAmong v1 (48 : Int32) (57 : Int32)) fun v5 => if v5 = 0 then obind (F_X2_digitAt a1 M) fun v8 => some v8 else obind (F_X2_digitAt a1 M) fun v11 => obind (F_X2_digitAt (a1 + (1 : Int32)) M) fun v14 => some (((10 : Int32) * v11) + v14)
def F_X2_nextPart_L2 {ρ : Type} (M : Wd) (K26 : Int32 → Option ρ) : Nat → Int32 → Option ρ
  | 0, _ => none
  | m + 1, x2 => if (M.1 51 1) ≤ x2 then K26 x2 else obind (F_X2_codeAt x2 M) fun v2 => if v2 = (59 : Int32) then K26 x2 else bnd (x2 + (1 : Int32)) fun v6 => F_X2_nextPart_L2 M K26 m v6
def F_X2_nextPart (a1 : Int32) (M : Wd) : Option Int32 := F_X2_nextPart_L2 M (fun v8 => some (v8 + (1 : Int32))) fuelN a1
def F_X2_behindBegin (a0 : Int32) : Int32 := if a0 = (104 : Int32) then (1 : Int32) else if a0 = (118 : Int32) then (1 : Int32) else if a0 = (119 : Int32) then (8 : Int32) else if a0 = (98 : Int32) then (11 : Int32) else if a0 = (100 : Int32) then (11 : Int32) else if (F_X2_isAmong a0 (48 : Int32) (53 : Int32)) = 0 then (12 : Int32) else (6 : Int32)
def F_X2_behindEnd (a0 : Int32) : Int32 := if a0 = (59 : Int32) then (0 : Int32) else (12 : Int32)
def F_X2_behindWall (a0 : Int32) : Int32 := if a0 = (49 : Int32) then (9 : Int32) else if a0 = (50 : Int32) then (10 : Int32) else if (F_X2_isAmong a0 (48 : Int32) (57 : Int32)) = 0 then (12 : Int32) else (11 : Int32)
def F_X2_behind (a0 : Int32) (a1 : Int32) : Int32 := if a0 = 0 then (F_X2_behindBegin a1) else if a0 = 1 then if (F_X2_isAmong a1 (48 : Int32) (52 : Int32)) = 0 then (12 : Int32) else (2 : Int32) else if a0 = 2 then if a1 = (46 : Int32) then (3 : Int32) else (12 : Int32) else if a0 = 3 then if (F_X2_isAmong a1 (48 : Int32) (51 : Int32)) = 0 then (12 : Int32) else (4 : Int32) else if a0 = 4 then if a1 = (42 : Int32) then (5 : Int32) else (12 : Int32) else if a0 = 5 then if (F_X2_isAmong a1 (50 : Int32) (51 : Int32)) = 0 then (12 : Int32) else (11 : Int32) else if a0 = 6 then if a1 = (43 : Int32) then (7 : Int32) else if a1 = (45 : Int32) then (7 : Int32) else (12 : Int32) else if a0 = 7 then if (F_X2_isAmong a1 (49 : Int32) (51 : Int32)) = 0 then (12 : Int32) else (11 : Int32) else if a0 = 8 then (F_X2_behindWall a1) else if a0 = 9 then if (F_X2_isAmong a1 (48 : Int32) (57 : Int32)) = 0 then (F_X2_behindEnd a1) else (11 : Int32) else if a0 = 10 then if (F_X2_isAmong a1 (48 : Int32) (52 : Int32)) = 0 then (F_X2_behindEnd a1) else (11 : Int32) else if a0 = 11 then (F_X2_behindEnd a1) else (12 : Int32)
def F_X2_isComplete_L4 {ρ : Type} (M : Wd) (K28 : Int32 → Option ρ) : Nat → Int32 → Int32 → Option ρ
  | 0, _, _ => none
  | m + 1, x1, x2 => if (M.1 51 1) ≤ x2 then K28 x1 else obind (F_X2_codeAt x2 M) fun v2 => bnd (F_X2_behind x1 v2) fun v6 => bnd (x2 + (1 : Int32)) fun v8 => F_X2_isComplete_L4 M K28 m v6 v8
def F_X2_isComplete (M : Wd) : Option Int32 := F_X2_isComplete_L4 M (fun v10 => if v10 = (11 : Int32) then some (1 : Int32) else if v10 = (9 : Int32) then some (1 : Int32) else if v10 = (10 : Int32) then some (1 : Int32) else some (0 : Int32)) fuelN (0 : Int32) (0 : Int32)
def F_X3_refuse (a0 : Int32) (M : Wd) : Option ((Unit ⊕ Nat) × Wd) := if a0 = (1 : Int32) then some (.inr 1, M) else if a0 = (2 : Int32) then some (.inr 2, M) else if a0 = (3 : Int32) then some (.inr 3, M) else some (.inl (), M)
def F_X3_dropOldestSaved_L9 {ρ : Type} (a1 : Nat) (K34 : Wd → Option ρ) : Nat → Int32 → Wd → Option ρ
  | 0, _, _ => none
  | m + 1, x2, M => if (5 : Int32) ≤ x2 then K34 M else inb 5 x2 <| inb 5 (x2 - (1 : Int32)) <| grd (isPk (M.2.2 x2.toNatClampNeg) = true) <| bnd (x2 + (1 : Int32)) fun v9 => F_X3_dropOldestSaved_L9 a1 K34 m v9 (upP M (x2 - (1 : Int32)).toNatClampNeg (M.2.2 x2.toNatClampNeg))
def F_X3_dropOldestSaved (M : Wd) : Option Wd := bnd (M.2.2 0) fun v1 => F_X3_dropOldestSaved_L9 v1 (fun M11 => grd (isPk v1 = true) <| some (upI (upP M11 4 v1) 0 5 (4 : Int32))) fuelN (1 : Int32) M
def F_X3_save (M : Wd) : Option Wd := obind (if (M.1 0 5) < (5 : Int32) then some M else obind (F_X3_dropOldestSaved M) fun M3 => some M3) fun M1 => inb 5 (M1.1 0 5) <| obind (F_X3_copy 1 (M1.2.2 (M1.1 0 5).toNatClampNeg) M1) fun M9 => some (upI M9 0 5 ((M9.1 0 5) + (1 : Int32)))
def F_X3_addCar (a1 : Int32) (a2 : Int32) (a3 : Int32) (M : Wd) : Option ((Int32 ⊕ Nat) × Wd) := obind (F_X1_troubleOfEntering a1 a2 a3 M) fun v1 => obindX (F_X3_refuse v1 M) (fun v4 M5 => obind (F_X3_save M5) fun M9 => obind2 (F_X1_enter a1 a2 a3 M9) fun v11 M12 => some (.inl v11, M12)) (fun x8 M5 => some (.inr x8, M5))
def F_X3_dropLast (M : Wd) : Option ((Int32 ⊕ Nat) × Wd) := if (M.1 1 5) = 0 then some (.inr 3, M) else obind (F_X3_save M) fun M2 => obind2 (F_X1_leave M2) fun v4 M5 => some (.inl v4, M5)
def F_X3_toggleWall (a1 : Int32) (M : Wd) : Option ((Int32 ⊕ Nat) × Wd) := obind (F_X1_troubleOfWall a1 M) fun v1 => obindX (F_X3_refuse v1 M) (fun v4 M5 => obind (F_X3_save M5) fun M9 => obind2 (F_X1_turnWall a1 M9) fun v11 M12 => some (.inl v11, M12)) (fun x8 M5 => some (.inr x8, M5))
def F_X3_slide (a1 : Int32) (a2 : Int32) (M : Wd) : Option ((Int32 ⊕ Nat) × Wd) := obind (F_X1_troubleOfSliding a1 a2 M) fun v1 => obindX (F_X3_refuse v1 M) (fun v4 M5 => if (M5.1 1 7) < (60 : Int32) then obind (F_X3_save M5) fun M10 => obind2 (F_X1_makeSlide a1 a2 M10) fun v12 M13 => some (.inl v12, M13) else some (.inr 3, M5)) (fun x8 M5 => some (.inr x8, M5))
def F_X3_takeBack (M : Wd) : Option ((Int32 ⊕ Nat) × Wd) := if (M.1 1 7) = 0 then some (.inr 3, M) else obind (F_X3_save M) fun M2 => obind2 (F_X1_unmakeSlide M2) fun v4 M5 => some (.inl v4, M5)
def F_X3_rewind_L6 {ρ : Type} (K36 : Int32 → Wd → Option ρ) : Nat → Int32 → Wd → Option ρ
  | 0, _, _ => none
  | m + 1, x1, M => if (60 : Int32) ≤ x1 then K36 x1 M else if (M.1 1 7) ≤ 0 then K36 x1 M else obind2 (F_X1_unmakeSlide M) fun v5 M6 => bnd (x1 + (1 : Int32)) fun v9 => F_X3_rewind_L6 K36 m v9 M6
def F_X3_rewind (M : Wd) : Option (Int32 × Wd) := obind (F_X3_save M) fun M1 => F_X3_rewind_L6 (fun v11 M12 => some (v11, M12)) fuelN (0 : Int32) M1
def F_X3_makePlan_L10 {ρ : Type} (a1 : Int32) (K75 : Wd → Option ρ) : Nat → Int32 → Int32 → Wd → Option ρ
  | 0, _, _, _ => none
  | m + 1, x2, x3, M => if a1 ≤ x3 then K75 M else obind2 (F_X0_findNextSlide x2 M) fun v4 M5 => if v4 = 0 then K75 M5 else bnd (M5.1 44 10) fun v9 => bnd (M5.1 44 11) fun v11 => obind2 (F_X1_makeSlide v9 v11 M5) fun v13 M14 => obind (F_X0_behindSlide x2 v9 v11 M14) fun v17 => bnd (x3 + (1 : Int32)) fun v20 => F_X3_makePlan_L10 a1 K75 m v17 v20 M14
def F_X3_makePlan (a1 : Int32) (M : Wd) : Option (Int32 × Wd) := bnd (M.1 44 8) fun v1 => F_X3_makePlan_L10 a1 (fun M22 => if a1 < 0 then some ((0 : Int32), M22) else some ((1 : Int32), M22)) fuelN v1 (0 : Int32) M
def F_X3_exploreNow (M : Wd) : Option Wd := obind (F_X0_load (M.1 1 5) (M.1 1 6) M) fun M1 => some M1
def F_X3_slidesToDriveOut (M : Wd) : Option (Int32 × Wd) := obind (F_X3_exploreNow M) fun M1 => obind2 (F_X0_slidesFromEnds M1) fun v3 M4 => if ((M4.1 1 7) + v3) ≤ (60 : Int32) then some (v3, M4) else some ((-1 : Int32), M4)
def F_X3_driveOut (M : Wd) : Option ((Int32 ⊕ Nat) × Wd) := obind2 (F_X3_slidesToDriveOut M) fun v1 M2 => if 0 ≤ v1 then obind (F_X3_save M2) fun M6 => obind2 (F_X3_makePlan v1 M6) fun v8 M9 => some (.inl v1, M9) else some (.inr 3, M2)
def F_X3_append (a1 : Int32) (M : Wd) : Option ((Int32 ⊕ Nat) × Wd) := if a1 < (33 : Int32) then some (.inr 2, M) else if a1 ≤ (126 : Int32) then if (M.1 51 1) < (60 : Int32) then obind2 (F_X2_add a1 M) fun v4 M5 => some (.inl v4, M5) else some (.inr 3, M) else some (.inr 2, M)
def F_X3_tryEntering (a1 : Int32) (a2 : Int32) (a3 : Int32) (M : Wd) : Option (Int32 × Wd) := obind (F_X1_troubleOfEntering a1 a2 a3 M) fun v1 => bnd (if v1 = 0 then (1 : Int32) else (0 : Int32)) fun v4 => obind (if v4 = 0 then some M else obind2 (F_X1_enter a1 a2 a3 M) fun v10 M11 => some M11) fun M8 => some (v4, M8)
def F_X3_trySliding (a1 : Int32) (a2 : Int32) (M : Wd) : Option (Int32 × Wd) := obind (F_X1_troubleOfSliding a1 a2 M) fun v1 => bnd (if v1 = 0 then if (60 : Int32) ≤ (M.1 1 7) then (0 : Int32) else (1 : Int32) else (0 : Int32)) fun v4 => obind (if v4 = 0 then some M else obind2 (F_X1_makeSlide a1 a2 M) fun v11 M12 => some M12) fun M9 => some (v4, M9)
def F_X3_tryTakingBack (M : Wd) : Option (Int32 × Wd) := bnd (if (M.1 1 7) ≤ 0 then (0 : Int32) else (1 : Int32)) fun v1 => obind (if v1 = 0 then some M else obind2 (F_X1_unmakeSlide M) fun v7 M8 => some M8) fun M5 => some (v1, M5)
def F_X3_tryWall (a1 : Int32) (M : Wd) : Option (Int32 × Wd) := obind (F_X1_troubleOfWall a1 M) fun v1 => bnd (if v1 = 0 then (1 : Int32) else (0 : Int32)) fun v4 => obind (if v4 = 0 then some M else obind2 (F_X1_turnWall a1 M) fun v10 M11 => some M11) fun M8 => some (v4, M8)
def F_X3_tryPart (a1 : Int32) (M : Wd) : Option (Int32 × Wd) := obind (F_X2_codeAt a1 M) fun v1 => if v1 = 98 then obind2 (F_X3_tryTakingBack M) fun v4 M5 => some (v4, M5) else if v1 = 100 then obind2 (F_X3_slidesToDriveOut M) fun v8 M9 => obind2 (F_X3_makePlan v8 M9) fun v12 M13 => some (v12, M13) else if v1 = 104 then obind (F_X2_digitAt (a1 + (1 : Int32)) M) fun v16 => obind (F_X2_digitAt (a1 + (3 : Int32)) M) fun v19 => obind (F_X2_digitAt (a1 + (5 : Int32)) M) fun v22 => obind2 (F_X3_tryEntering v16 v19 v22 M) fun v25 M26 => some (v25, M26) else if v1 = 118 then obind (F_X2_digitAt (a1 + (1 : Int32)) M) fun v29 => obind (F_X2_digitAt (a1 + (3 : Int32)) M) fun v32 => obind (F_X2_digitAt (a1 + (5 : Int32)) M) fun v35 => obind2 (F_X3_tryEntering ((5 : Int32) + v29) v32 v35 M) fun v38 M39 => some (v38, M39) else if v1 = 119 then obind (F_X2_cellAt (a1 + (1 : Int32)) M) fun v42 => obind2 (F_X3_tryWall v42 M) fun v45 M46 => some (v45, M46) else obind (F_X2_digitAt a1 M) fun v49 => obind (F_X2_signAt (a1 + (1 : Int32)) M) fun v52 => obind (F_X2_digitAt (a1 + (2 : Int32)) M) fun v55 => obind2 (F_X3_trySliding v49 (v52 * v55) M) fun v58 M59 => some (v58, M59)
def F_X3_work_L33 {ρ : Type} (K86 : Int32 → Int32 → Wd → Option ρ) : Nat → Int32 → Int32 → Int32 → Int32 → Wd → Option ρ
  | 0, _, _, _, _, _ => none
  | m + 1, x1, x2, x3, x4, M => if (60 : Int32) ≤ x4 then K86 x1 x3 M else if (M.1 51 1) ≤ x2 then K86 x1 x3 M else if x3 = 0 then obind2 (F_X3_tryPart x2 M) fun v10 M11 => obind3 (if v10 = 0 then some (x1, x2, (1 : Int32)) else bnd (x1 + (1 : Int32)) fun v18 => obind (F_X2_nextPart x2 M11) fun v20 => some (v18, v20, x3)) fun v14 v15 v16 => bnd (x4 + (1 : Int32)) fun v24 => F_X3_work_L33 K86 m v14 v15 v16 v24 M11 else K86 x1 x3 M
def F_X3_work (M : Wd) : Option ((Int32 ⊕ Nat) × Wd) := obind (F_X2_isComplete M) fun v1 => if v1 = 0 then some (.inr 2, M) else obind (F_X3_save M) fun M5 => F_X3_work_L33 (fun v26 v27 M28 => chB v27 <| bnd (if v27 = 0 then (0 : Int32) else v26) fun v30 => obind2 (F_X2_clear (upI (upI M28 1 8 v27) 1 9 v30)) fun v33 M34 => some (.inl v26, M34)) fuelN (0 : Int32) (0 : Int32) (0 : Int32) (0 : Int32) M5
def F_X3_stoppedPart (M : Wd) : Option ((Int32 ⊕ Nat) × Wd) := if (M.1 1 8) = 0 then some (.inr 3, M) else some (.inl (M.1 1 9), M)
def F_X3_undo (M : Wd) : Option ((Int32 ⊕ Nat) × Wd) := if (M.1 0 5) ≤ 0 then some (.inr 3, M) else if (M.1 0 5) ≤ (5 : Int32) then inb 5 ((M.1 0 5) - (1 : Int32)) <| obind (F_X3_copy (M.2.2 ((M.1 0 5) - (1 : Int32)).toNatClampNeg) 1 (upI M 0 5 ((M.1 0 5) - (1 : Int32)))) fun M6 => some (.inl (M6.1 0 5), M6) else some (.inr 3, M)
def F_X3_undo_n (M : Wd) : Option (Int32 × Wd) := if (M.1 0 5) ≤ 0 then none else if (M.1 0 5) ≤ (5 : Int32) then inb 5 ((M.1 0 5) - (1 : Int32)) <| obind (F_X3_copy (M.2.2 ((M.1 0 5) - (1 : Int32)).toNatClampNeg) 1 (upI M 0 5 ((M.1 0 5) - (1 : Int32)))) fun M6 => some ((M6.1 0 5), M6) else none
def F_X3_keep (M : Wd) : Option (Int32 × Wd) := obind (F_X3_copy 1 7 M) fun M1 => some ((M1.1 1 5), (upI M1 0 6 (1 : Int32)))
def F_X3_restore (M : Wd) : Option ((Int32 ⊕ Nat) × Wd) := if (M.1 0 6) = 0 then some (.inr 3, M) else obind (F_X3_save M) fun M2 => obind (F_X3_copy 7 1 M2) fun M4 => some (.inl (M4.1 1 5), M4)
def F_X3_savedStates (M : Wd) : Int32 := (M.1 0 5)
def F_X3_cars (M : Wd) : Int32 := (M.1 1 5)
def F_X3_walls (M : Wd) : Int32 := (F_J6_bitCount_0f7a4 (M.1 1 6))
def F_X3_laneOf (a1 : Int32) (M : Wd) : Option ((Int32 ⊕ Nat) × Wd) := if (F_X1_hasCar a1 M) = 0 then some (.inr 1, M) else ldi (M.1 2) 6 a1 fun v3 => some (.inl v3, M)
def F_X3_laneOf_n (a1 : Int32) (M : Wd) : Option Int32 := if (F_X1_hasCar a1 M) = 0 then none else ldi (M.1 2) 6 a1 fun v3 => some v3
def F_X3_placeOf (a1 : Int32) (M : Wd) : Option ((Int32 ⊕ Nat) × Wd) := if (F_X1_hasCar a1 M) = 0 then some (.inr 1, M) else ldi (M.1 3) 6 a1 fun v3 => some (.inl v3, M)
def F_X3_placeOf_n (a1 : Int32) (M : Wd) : Option Int32 := if (F_X1_hasCar a1 M) = 0 then none else ldi (M.1 3) 6 a1 fun v3 => some v3
def F_X3_lengthOf (a1 : Int32) (M : Wd) : Option ((Int32 ⊕ Nat) × Wd) := if (F_X1_hasCar a1 M) = 0 then some (.inr 1, M) else ldi (M.1 4) 6 a1 fun v3 => some (.inl v3, M)
def F_X3_lengthOf_n (a1 : Int32) (M : Wd) : Option Int32 := if (F_X1_hasCar a1 M) = 0 then none else ldi (M.1 4) 6 a1 fun v3 => some v3
def F_X3_carOn (a1 : Int32) (M : Wd) : Option ((Int32 ⊕ Nat) × Wd) := if (F_X3_isCell a1) = 0 then some (.inr 1, M) else obind (F_X1_carAt a1 M) fun v3 => some (.inl v3, M)
def F_X3_carOn_n (a1 : Int32) (M : Wd) : Option Int32 := if (F_X3_isCell a1) = 0 then none else obind (F_X1_carAt a1 M) fun v3 => some v3
def F_X3_isWall (a1 : Int32) (M : Wd) : Option ((Int32 ⊕ Nat) × Wd) := if (F_X3_isCell a1) = 0 then some (.inr 1, M) else some (.inl (F_X1_hasWallAt a1 M), M)
def F_X3_isWall_n (a1 : Int32) (M : Wd) : Option Int32 := if (F_X3_isCell a1) = 0 then none else some (F_X1_hasWallAt a1 M)
def F_X3_freeCells (M : Wd) : Option Int32 := obind (F_X1_takenCells M) fun v1 => some ((25 : Int32) - (F_J6_bitCount_0f7a4 v1))
def F_X3_isOut (M : Wd) : Int32 := (F_X1_isRedOut M)
def F_X3_room (a1 : Int32) (a2 : Int32) (M : Wd) : Option ((Int32 ⊕ Nat) × Wd) := if (F_X1_hasCar a1 M) = 0 then some (.inr 1, M) else bnd (if a2 = 0 then (-1 : Int32) else (1 : Int32)) fun v3 => obind (F_X1_roomOf a1 v3 M) fun v6 => some (.inl v6, M)
def F_X3_room_n (a1 : Int32) (a2 : Int32) (M : Wd) : Option Int32 := if (F_X1_hasCar a1 M) = 0 then none else bnd (if a2 = 0 then (-1 : Int32) else (1 : Int32)) fun v3 => obind (F_X1_roomOf a1 v3 M) fun v6 => some v6
def F_X3_possibleSlides_L4 {ρ : Type} (M : Wd) (K43 : Int32 → Option ρ) : Nat → Int32 → Int32 → Option ρ
  | 0, _, _ => none
  | m + 1, x1, x2 => if (M.1 1 5) ≤ x2 then K43 x1 else obind (F_X1_roomOf x2 (1 : Int32) M) fun v2 => obind (F_X1_roomOf x2 (-1 : Int32) M) fun v5 => bnd (x1 + (v2 + v5)) fun v8 => bnd (x2 + (1 : Int32)) fun v10 => F_X3_possibleSlides_L4 M K43 m v8 v10
def F_X3_possibleSlides (M : Wd) : Option Int32 := F_X3_possibleSlides_L4 M (fun v12 => some v12) fuelN (0 : Int32) (0 : Int32)
def F_X3_logged (M : Wd) : Int32 := (M.1 1 7)
def F_X3_carOfSlide (a1 : Int32) (M : Wd) : Option ((Int32 ⊕ Nat) × Wd) := if (F_X1_hasSlide a1 M) = 0 then some (.inr 1, M) else ldi (M.1 5) 60 a1 fun v3 => some (.inl v3, M)
def F_X3_carOfSlide_n (a1 : Int32) (M : Wd) : Option Int32 := if (F_X1_hasSlide a1 M) = 0 then none else ldi (M.1 5) 60 a1 fun v3 => some v3
def F_X3_changeBySlide (a1 : Int32) (M : Wd) : Option ((Int32 ⊕ Nat) × Wd) := if (F_X1_hasSlide a1 M) = 0 then some (.inr 1, M) else ldi (M.1 6) 60 a1 fun v3 => some (.inl v3, M)
def F_X3_changeBySlide_n (a1 : Int32) (M : Wd) : Option Int32 := if (F_X1_hasSlide a1 M) = 0 then none else ldi (M.1 6) 60 a1 fun v3 => some v3
def F_X3_stepsOf (a1 : Int32) (M : Wd) : Option ((Int32 ⊕ Nat) × Wd) := if (F_X1_hasCar a1 M) = 0 then some (.inr 1, M) else obind (F_X1_loggedSteps a1 M) fun v3 => some (.inl v3, M)
def F_X3_stepsOf_n (a1 : Int32) (M : Wd) : Option Int32 := if (F_X1_hasCar a1 M) = 0 then none else obind (F_X1_loggedSteps a1 M) fun v3 => some v3
def F_X3_fuel (M : Wd) : Option Int32 := obind (F_X1_fuelSlideBySlide M) fun v1 => some v1
def F_X3_fuelByCars (M : Wd) : Option Int32 := obind (F_X1_fuelCarByCar M) fun v1 => some v1
def F_X3_fewestSlides (M : Wd) : Option (Int32 × Wd) := obind (F_X3_exploreNow M) fun M1 => obind2 (F_X0_slidesFromStart M1) fun v3 M4 => some (v3, M4)
def F_X3_fewestSlidesFromEnds (M : Wd) : Option (Int32 × Wd) := obind (F_X3_exploreNow M) fun M1 => obind2 (F_X0_slidesFromEnds M1) fun v3 M4 => some (v3, M4)
def F_X3_fewestSteps (M : Wd) : Option (Int32 × Wd) := obind (F_X3_exploreNow M) fun M1 => obind2 (F_X0_stepsFromStart M1) fun v3 M4 => some (v3, M4)
def F_X3_leastFuel (M : Wd) : Option (Int32 × Wd) := obind (F_X3_exploreNow M) fun M1 => obind2 (F_X0_fuelByBuckets M1) fun v3 M4 => some (v3, M4)
def F_X3_leastFuelByRounds (M : Wd) : Option (Int32 × Wd) := obind (F_X3_exploreNow M) fun M1 => obind2 (F_X0_fuelByRounds M1) fun v3 M4 => some (v3, M4)
def F_X3_hasNextSlide (M : Wd) : Option (Int32 × Wd) := obind (F_X3_exploreNow M) fun M1 => obind2 (F_X0_slidesFromEnds M1) fun v3 M4 => obind2 (F_X0_findNextSlide (M4.1 44 8) M4) fun v7 M8 => some (v7, M8)
def F_X3_nextCar (M : Wd) : Option ((Int32 ⊕ Nat) × Wd) := obind2 (F_X3_hasNextSlide M) fun v1 M2 => if v1 = 0 then some (.inr 3, M2) else some (.inl (M2.1 44 10), M2)
def F_X3_nextChange (M : Wd) : Option ((Int32 ⊕ Nat) × Wd) := obind2 (F_X3_hasNextSlide M) fun v1 M2 => if v1 = 0 then some (.inr 3, M2) else some (.inl (M2.1 44 11), M2)
def F_X3_reachable (M : Wd) : Option (Int32 × Wd) := obind (F_X3_exploreNow M) fun M1 => obind (F_X0_spreadFromStart (3 : Int32) M1) fun M3 => some ((M3.1 44 9), M3)
def F_X3_reachableOut (M : Wd) : Option (Int32 × Wd) := obind (F_X3_exploreNow M) fun M1 => obind (F_X0_spreadFromStart (3 : Int32) M1) fun M3 => obind (F_X0_foundOut M3) fun v5 => some (v5, M3)
def F_X3_farthest (M : Wd) : Option (Int32 × Wd) := obind (F_X3_exploreNow M) fun M1 => obind (F_X0_spreadFromStart (3 : Int32) M1) fun M3 => obind (F_X0_farthestFound M3) fun v5 => some (v5, M3)
def F_X3_arrangements (M : Wd) : Option (Int32 × Wd) := obind (F_X3_exploreNow M) fun M1 => obind (F_X0_allArrangements M1) fun v3 => some (v3, M1)
def F_X3_fewestBehind (a1 : Int32) (a2 : Int32) (M : Wd) : Option ((Int32 ⊕ Nat) × Wd) := obind (F_X1_troubleOfSliding a1 a2 M) fun v1 => obindX (F_X3_refuse v1 M) (fun v4 M5 => obind (F_X3_exploreNow M5) fun M9 => obind (F_X0_behindSlide (M9.1 44 8) a1 a2 M9) fun v11 => obind2 (F_X0_slidesFromStart (upI M9 44 8 v11)) fun v14 M15 => some (.inl v14, M15)) (fun x8 M5 => some (.inr x8, M5))
def F_X3_fewestWithoutLast (M : Wd) : Option ((Int32 ⊕ Nat) × Wd) := if (2 : Int32) ≤ (M.1 1 5) then obind (F_X0_load ((M.1 1 5) - (1 : Int32)) (M.1 1 6) M) fun M2 => obind2 (F_X0_slidesFromStart M2) fun v4 M5 => some (.inl v4, M5) else some (.inr 3, M)
def F_X3_fewestWithWall (a1 : Int32) (M : Wd) : Option ((Int32 ⊕ Nat) × Wd) := if (F_X3_isCell a1) = 0 then some (.inr 1, M) else obind (F_X1_takenCells M) fun v3 => if (v3 &&& ((1 : Int32) <<< (a1 &&& 31))) = 0 then obind (F_X0_load (M.1 1 5) ((M.1 1 6) ||| ((1 : Int32) <<< (a1 &&& 31))) M) fun M7 => obind2 (F_X0_slidesFromStart M7) fun v9 M10 => some (.inl v9, M10) else some (.inr 3, M)
def F_X3_bitsOf_L7 {ρ : Type} (K35 : UInt64 → Int64 → Option ρ) : Nat → UInt64 → Int64 → Option ρ
  | 0, _, _ => none
  | m + 1, x2, x4 => if 0 ≤ (Op.cmpValue (FP.dcmp x2 FP.dconst1) .g) then K35 x2 x4 else if (lg_cmp x4 (1 : Int64)) ≤ 0 then K35 x2 x4 else grd ((FP.dmul x2 (4611686018427387904 : UInt64)) &&& 0x7fffffffffffffff ≤ 0x7ff0000000000000) <| bnd (FP.dmul x2 (4611686018427387904 : UInt64)) fun v4 => bnd (x4 - (1 : Int64)) fun v6 => F_X3_bitsOf_L7 K35 m v4 v6
def F_X3_bitsOf (a0 : UInt64) : Option Int64 := F_X3_bitsOf_L7 (fun v8 v9 => grd ((FP.dsub v8 FP.dconst1) &&& 0x7fffffffffffffff ≤ 0x7ff0000000000000) <| grd ((FP.dmul (FP.dsub v8 FP.dconst1) (4841369599423283200 : UInt64)) &&& 0x7fffffffffffffff ≤ 0x7ff0000000000000) <| bnd (FP.d2l (FP.dmul (FP.dsub v8 FP.dconst1) (4841369599423283200 : UInt64))) fun v12 => some ((v9 <<< ((52 : Int32).toInt64 &&& 63)) ||| v12)) fuelN a0 (1023 : Int64)
def F_X3_mix (a0 : Int64) (a2 : Int64) : Int64 := (((31 : Int64) * a0) + a2)
def F_X3_hashOfArrangements (a1 : Int64) (M : Wd) : Option Int64 := bnd (F_X3_mix a1 (M.1 44 9).toInt64) fun v2 => obind (F_X0_foundOut M) fun v4 => bnd (F_X3_mix v2 v4.toInt64) fun v8 => obind (F_X0_farthestFound M) fun v10 => bnd (F_X3_mix v8 v10.toInt64) fun v14 => obind (F_X0_allArrangements M) fun v16 => some (F_X3_mix v14 v16.toInt64)
def F_X3_hashOfCars_L5 {ρ : Type} (M : Wd) (K125 : Int64 → Option ρ) : Nat → Int64 → Int32 → Option ρ
  | 0, _, _ => none
  | m + 1, x3, x5 => if (M.1 1 5) ≤ x5 then K125 x3 else if (6 : Int32) ≤ x5 then K125 x3 else ldi (M.1 2) 6 x5 fun v3 => bnd (F_X3_mix x3 v3.toInt64) fun v7 => ldi (M.1 3) 6 x5 fun v9 => bnd (F_X3_mix v7 v9.toInt64) fun v13 => ldi (M.1 4) 6 x5 fun v15 => bnd (F_X3_mix v13 v15.toInt64) fun v19 => obind (F_X1_loggedSteps x5 M) fun v21 => bnd (F_X3_mix v19 v21.toInt64) fun v25 => obind (F_X1_roomOf x5 (1 : Int32) M) fun v27 => bnd (F_X3_mix v25 v27.toInt64) fun v31 => obind (F_X1_roomOf x5 (-1 : Int32) M) fun v33 => bnd (F_X3_mix v31 v33.toInt64) fun v37 => bnd (x5 + (1 : Int32)) fun v39 => F_X3_hashOfCars_L5 M K125 m v37 v39
def F_X3_hashOfCars (a1 : Int64) (M : Wd) : Option Int64 := F_X3_hashOfCars_L5 M (fun v41 => some v41) fuelN a1 (0 : Int32)
def F_X3_hashOfCells_L5 {ρ : Type} (M : Wd) (K55 : Int64 → Option ρ) : Nat → Int64 → Int32 → Option ρ
  | 0, _, _ => none
  | m + 1, x3, x5 => if (25 : Int32) ≤ x5 then K55 x3 else obind (F_X1_carAt x5 M) fun v2 => bnd (F_X3_mix x3 v2.toInt64) fun v6 => bnd (if (F_X1_hasWallAt x5 M) = 0 then (0 : Int64) else (1 : Int64)) fun v9 => bnd (F_X3_mix v6 v9) fun v13 => bnd (x5 + (1 : Int32)) fun v15 => F_X3_hashOfCells_L5 M K55 m v13 v15
def F_X3_hashOfCells (a1 : Int64) (M : Wd) : Option Int64 := F_X3_hashOfCells_L5 M (fun v17 => some v17) fuelN a1 (0 : Int32)
def F_X3_hashOfLog_L5 {ρ : Type} (M : Wd) (K62 : Int64 → Option ρ) : Nat → Int64 → Int32 → Option ρ
  | 0, _, _ => none
  | m + 1, x3, x5 => if (M.1 1 7) ≤ x5 then K62 x3 else if (60 : Int32) ≤ x5 then K62 x3 else ldi (M.1 5) 60 x5 fun v3 => bnd (F_X3_mix x3 v3.toInt64) fun v7 => ldi (M.1 6) 60 x5 fun v9 => bnd (F_X3_mix v7 v9.toInt64) fun v13 => bnd (x5 + (1 : Int32)) fun v15 => F_X3_hashOfLog_L5 M K62 m v13 v15
def F_X3_hashOfLog (a1 : Int64) (M : Wd) : Option Int64 := F_X3_hashOfLog_L5 M (fun v17 => some v17) fuelN a1 (0 : Int32)
def F_X3_hashOfPark (a1 : Int64) (M : Wd) : Option Int64 := bnd (F_X3_mix a1 (M.1 1 5).toInt64) fun v2 => bnd (F_X3_mix v2 (F_X3_walls M).toInt64) fun v6 => obind (F_X3_freeCells M) fun v8 => bnd (F_X3_mix v6 v8.toInt64) fun v12 => bnd (if (F_X3_isOut M) = 0 then (0 : Int64) else (1 : Int64)) fun v15 => bnd (F_X3_mix v12 v15) fun v19 => obind (F_X3_possibleSlides M) fun v21 => bnd (F_X3_mix v19 v21.toInt64) fun v25 => bnd (F_X3_mix v25 (M.1 1 7).toInt64) fun v28 => obind (F_X1_fuelSlideBySlide M) fun v30 => bnd (F_X3_mix v28 v30.toInt64) fun v34 => obind (F_X1_fuelCarByCar M) fun v36 => some (F_X3_mix v34 v36.toInt64)
def F_X3_hashOfPlans (a1 : Int64) (M : Wd) : Option (Int64 × Wd) := obind2 (F_X0_slidesFromStart M) fun v1 M2 => bnd (F_X3_mix a1 v1.toInt64) fun v6 => obind2 (F_X0_slidesFromEnds M2) fun v8 M9 => bnd (F_X3_mix v6 v8.toInt64) fun v13 => obind2 (F_X0_stepsFromStart M9) fun v15 M16 => bnd (F_X3_mix v13 v15.toInt64) fun v20 => obind2 (F_X0_fuelByBuckets M16) fun v22 M23 => bnd (F_X3_mix v20 v22.toInt64) fun v27 => obind2 (F_X0_fuelByRounds M23) fun v29 M30 => some ((F_X3_mix v27 v29.toInt64), M30)
def F_X3_hashOfText_L16 {ρ : Type} (M : Wd) (K49 : Int64 → Option ρ) : Nat → Int64 → Int32 → Option ρ
  | 0, _, _ => none
  | m + 1, x3, x5 => if (M.1 51 1) ≤ x5 then K49 x3 else obind (F_X2_codeAt x5 M) fun v5 => bnd (F_X3_mix x3 v5.toInt64) fun v9 => bnd (x5 + (1 : Int32)) fun v11 => F_X3_hashOfText_L16 M K49 m v9 v11
def F_X3_hashOfText (a1 : Int64) (M : Wd) : Option Int64 := bnd (F_X3_mix a1 (M.1 51 1).toInt64) fun v2 => F_X3_hashOfText_L16 M (fun v13 => some v13) fuelN v2 (0 : Int32)
def F_X3_share (a0 : Int32) (a1 : Int32) : Option UInt64 := if a1 ≤ 0 then some FP.dconst0 else grd ((FP.ddiv (FP.i2d a0) (FP.i2d a1)) &&& 0x7fffffffffffffff ≤ 0x7ff0000000000000) <| some (FP.ddiv (FP.i2d a0) (FP.i2d a1))
def F_X3_digest (M : Wd) : Option (Int64 × Wd) := obind (F_X3_hashOfPark (4507 : Int64) M) fun v1 => obind (F_X3_exploreNow M) fun M4 => obind2 (F_X3_hashOfPlans v1 M4) fun v6 M7 => obind (F_X0_spreadFromStart (3 : Int32) M7) fun M10 => obind (F_X3_hashOfArrangements v6 M10) fun v12 => bnd (F_X3_mix v12 (M10.1 0 5).toInt64) fun v16 => obind (F_X3_hashOfCells v16 M10) fun v18 => obind (F_X3_hashOfCars v18 M10) fun v21 => obind (F_X3_hashOfLog v21 M10) fun v24 => bnd (if (M10.1 1 8) = 0 then (0 : Int64) else (1 : Int64)) fun v27 => bnd (F_X3_mix v24 v27) fun v31 => bnd (if (M10.1 1 8) = 0 then v31 else (F_X3_mix v31 (M10.1 1 9).toInt64)) fun v33 => obind (F_X0_allArrangements M10) fun v37 => obind (F_X3_share (M10.1 44 9) v37) fun v40 => obind (F_X3_bitsOf v40) fun v43 => bnd (F_X3_mix v33 v43) fun v47 => obind (F_X3_hashOfText v47 M10) fun v49 => some (v49, M10)
