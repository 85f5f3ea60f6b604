/-! What the reference does in bank, image, back, from where its second model is there (written by wip/gen/mkspec.py). -/
def f_X9_bank_18    (I : qI) : Option (Int32 × qI) := gd (¬ (I 0 27) = 0) <| bd (f_X9_takeFrom 40 0 I) fun I2 => bd2 (f_X9_readAll I2) fun v4 I5 => lt (qu I5 0 7 (0 : Int32)) fun I7 => if v4 = 0 then (gd (¬ (I7 0 27) = 0) <| bd (f_X9_takeFrom 0 40 I7) fun I9 => bd2 (f_X9_refuse (-1002 : Int32) I9) fun v11 I12 => some (((-2000 : Int32) - (I12 0 32)), I12)) else (some ((I7 0 34), I7))
def f_X9_image_18    (I : qI) : Option (Int32 × qI) := gd (¬ (I 0 26) = 0) <| bd (f_X9_takeFrom 80 0 I) fun I2 => some ((1 : Int32), I2)
def f_X9_back_25   : Nat → Int32 → qI → Option (Int32 × qI)
  | 0, _, _ => none
  | n + 1, x1, I => if (8 : Int32) ≤ x1 then (some ((1 : Int32), I)) else (gd (qin x1 8) <| if (I 1 x1.toNatClampNeg) = (2 : Int32) then (gd (qin x1 8) <| if (I 14 x1.toNatClampNeg) < (I 0 17) then (f_X9_back_25  n (x1 + (1 : Int32)) I) else (gd (qin x1 8) <| lt (qu I 1 x1.toNatClampNeg (0 : Int32)) fun I4 => f_X9_back_25  n (x1 + (1 : Int32)) I4)) else (f_X9_back_25  n (x1 + (1 : Int32)) I))
def f_X9_back_15    (I : qI) : Option (Int32 × qI) := gd (¬ (I 0 26) = 0) <| bd (f_X9_takeFrom 0 80 I) fun I2 => f_X9_back_25 1000 (0 : Int32) I2
