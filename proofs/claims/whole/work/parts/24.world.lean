/-! THE WORLD once both objects are made: 73 places; printed by wip/whole/gen_world.py -/
def shA : Sx := fun q => match q with
  | 0 => some (.inr 8)
  | 1 => some (.inr 1)
  | 2 => some (.inl 8)
  | 3 => some (.inl 10)
  | 4 => some (.inr 0)
  | 5 => some (.inl 152)
  | 6 => some (.inr 3)
  | 7 => some (.inl 60)
  | 8 => some (.inl 8)
  | 9 => some (.inl 8)
  | 10 => some (.inl 3)
  | 11 => some (.inl 3)
  | 12 => some (.inl 3)
  | 13 => some (.inl 3)
  | 14 => some (.inr 2)
  | 15 => some (.inr 5)
  | 16 => some (.inr 6)
  | 17 => some (.inl 8)
  | 18 => some (.inl 8)
  | 19 => some (.inl 4)
  | 20 => some (.inl 4)
  | 21 => some (.inr 4)
  | 22 => some (.inl 46)
  | 23 => some (.inl 35)
  | 24 => some (.inl 4)
  | 25 => some (.inl 4)
  | 26 => some (.inl 210)
  | 27 => some (.inl 210)
  | 28 => some (.inl 35)
  | 29 => some (.inl 35)
  | 30 => some (.inl 6642)
  | 31 => some (.inl 8)
  | 32 => some (.inl 405)
  | 33 => some (.inl 9)
  | 34 => some (.inr 7)
  | 35 => some (.inl 27)
  | 36 => some (.inl 48)
  | 37 => some (.inl 7)
  | 38 => some (.inl 192)
  | 39 => some (.inl 3)
  | 40 => some (.inl 3)
  | 41 => some (.inr 9)
  | 42 => some (.inl 19)
  | 43 => some (.inl 152)
  | 44 => some (.inl 3)
  | 45 => some (.inl 60)
  | 46 => some (.inl 400)
  | 47 => some (.inl 400)
  | 48 => some (.inl 8)
  | 49 => some (.inl 32400)
  | 50 => some (.inl 81)
  | 51 => some (.inl 8)
  | 52 => some (.inl 81)
  | 53 => some (.inl 81)
  | 54 => some (.inl 3)
  | 55 => some (.inl 4)
  | 56 => some (.inl 3)
  | 57 => some (.inl 4)
  | 58 => some (.inl 360)
  | 59 => some (.inl 3)
  | 60 => some (.inl 27)
  | 61 => some (.inl 48)
  | 62 => some (.inl 7)
  | 63 => some (.inl 60)
  | 64 => some (.inl 60)
  | 65 => some (.inl 60)
  | 66 => some (.inl 60)
  | 67 => some (.inl 81)
  | 68 => some (.inl 10)
  | 69 => some (.inl 10)
  | 70 => some (.inl 10)
  | 71 => some (.inl 8)
  | 72 => some (.inl 8)
  | _ => none
def rA : Nat → Nat → Vx := fun q j => match q, j with
  | 0, 0 => .inr (.inr (.inl 1))
  | 0, 1 => .inr (.inr (.inl 4))
  | 0, 2 => .inr (.inr (.inl 6))
  | 0, 3 => .inr (.inr (.inl 14))
  | 0, 4 => .inr (.inr (.inl 34))
  | 0, 5 => .inr (.inr (.inl 40))
  | 1, 0 => .inr (.inr (.inl 2))
  | 1, 1 => .inr (.inr (.inl 3))
  | 4, 0 => .inr (.inr (.inl 5))
  | 6, 0 => .inr (.inr (.inl 7))
  | 6, 2 => .inr (.inr (.inl 8))
  | 6, 3 => .inr (.inr (.inl 9))
  | 6, 6 => .inr (.inr (.inl 10))
  | 6, 7 => .inr (.inr (.inl 11))
  | 6, 8 => .inr (.inr (.inl 12))
  | 6, 9 => .inr (.inr (.inl 13))
  | 14, 0 => .inr (.inr (.inl 15))
  | 14, 1 => .inr (.inr (.inl 16))
  | 14, 2 => .inr (.inr (.inl 32))
  | 14, 3 => .inr (.inr (.inl 33))
  | 15, 0 => .inr (.inr (.inl 16))
  | 15, 1 => .inr (.inr (.inl 21))
  | 15, 2 => .inr (.inr (.inl 30))
  | 15, 3 => .inr (.inr (.inl 31))
  | 16, 0 => .inr (.inr (.inl 17))
  | 16, 1 => .inr (.inr (.inl 18))
  | 16, 2 => .inr (.inr (.inl 19))
  | 16, 3 => .inr (.inr (.inl 20))
  | 21, 0 => .inr (.inr (.inl 22))
  | 21, 1 => .inr (.inr (.inl 23))
  | 21, 2 => .inr (.inr (.inl 24))
  | 21, 3 => .inr (.inr (.inl 25))
  | 21, 4 => .inr (.inr (.inl 26))
  | 21, 5 => .inr (.inr (.inl 27))
  | 21, 6 => .inr (.inr (.inl 28))
  | 21, 7 => .inr (.inr (.inl 29))
  | 34, 1 => .inr (.inr (.inl 35))
  | 34, 2 => .inr (.inr (.inl 36))
  | 34, 3 => .inr (.inr (.inl 37))
  | 34, 4 => .inr (.inr (.inl 38))
  | 34, 5 => .inr (.inr (.inl 39))
  | 41, 0 => .inr (.inr (.inl 42))
  | 41, 1 => .inr (.inr (.inl 43))
  | 41, 3 => .inr (.inr (.inl 44))
  | 41, 4 => .inr (.inr (.inl 45))
  | 41, 6 => .inr (.inr (.inl 46))
  | 41, 7 => .inr (.inr (.inl 47))
  | 41, 8 => .inr (.inr (.inl 48))
  | 41, 13 => .inr (.inr (.inl 49))
  | 41, 14 => .inr (.inr (.inl 50))
  | 41, 15 => .inr (.inr (.inl 51))
  | 41, 16 => .inr (.inr (.inl 52))
  | 41, 17 => .inr (.inr (.inl 53))
  | 41, 19 => .inr (.inr (.inl 54))
  | 41, 20 => .inr (.inr (.inl 55))
  | 41, 21 => .inr (.inr (.inl 56))
  | 41, 22 => .inr (.inr (.inl 57))
  | 41, 24 => .inr (.inr (.inl 58))
  | 41, 25 => .inr (.inr (.inl 59))
  | 41, 26 => .inr (.inr (.inl 60))
  | 41, 27 => .inr (.inr (.inl 61))
  | 41, 28 => .inr (.inr (.inl 62))
  | 41, 29 => .inr (.inr (.inl 63))
  | 41, 30 => .inr (.inr (.inl 64))
  | 41, 31 => .inr (.inr (.inl 65))
  | 41, 32 => .inr (.inr (.inl 66))
  | 41, 34 => .inr (.inr (.inl 67))
  | 41, 38 => .inr (.inr (.inl 68))
  | 41, 39 => .inr (.inr (.inl 69))
  | 41, 40 => .inr (.inr (.inl 70))
  | 41, 43 => .inr (.inr (.inl 71))
  | 41, 44 => .inr (.inr (.inl 72))
  | _, _ => .inr (.inr (.inr 0))
theorem sA_0 : shA 0 = some (.inr 8) := rfl
theorem sA_1 : shA 1 = some (.inr 1) := rfl
theorem sA_2 : shA 2 = some (.inl 8) := rfl
theorem sA_3 : shA 3 = some (.inl 10) := rfl
theorem sA_4 : shA 4 = some (.inr 0) := rfl
theorem sA_5 : shA 5 = some (.inl 152) := rfl
theorem sA_6 : shA 6 = some (.inr 3) := rfl
theorem sA_7 : shA 7 = some (.inl 60) := rfl
theorem sA_8 : shA 8 = some (.inl 8) := rfl
theorem sA_9 : shA 9 = some (.inl 8) := rfl
theorem sA_10 : shA 10 = some (.inl 3) := rfl
theorem sA_11 : shA 11 = some (.inl 3) := rfl
theorem sA_12 : shA 12 = some (.inl 3) := rfl
theorem sA_13 : shA 13 = some (.inl 3) := rfl
theorem sA_14 : shA 14 = some (.inr 2) := rfl
theorem sA_15 : shA 15 = some (.inr 5) := rfl
theorem sA_16 : shA 16 = some (.inr 6) := rfl
theorem sA_17 : shA 17 = some (.inl 8) := rfl
theorem sA_18 : shA 18 = some (.inl 8) := rfl
theorem sA_19 : shA 19 = some (.inl 4) := rfl
theorem sA_20 : shA 20 = some (.inl 4) := rfl
theorem sA_21 : shA 21 = some (.inr 4) := rfl
theorem sA_22 : shA 22 = some (.inl 46) := rfl
theorem sA_23 : shA 23 = some (.inl 35) := rfl
theorem sA_24 : shA 24 = some (.inl 4) := rfl
theorem sA_25 : shA 25 = some (.inl 4) := rfl
theorem sA_26 : shA 26 = some (.inl 210) := rfl
theorem sA_27 : shA 27 = some (.inl 210) := rfl
theorem sA_28 : shA 28 = some (.inl 35) := rfl
theorem sA_29 : shA 29 = some (.inl 35) := rfl
theorem sA_30 : shA 30 = some (.inl 6642) := rfl
theorem sA_31 : shA 31 = some (.inl 8) := rfl
theorem sA_32 : shA 32 = some (.inl 405) := rfl
theorem sA_33 : shA 33 = some (.inl 9) := rfl
theorem sA_34 : shA 34 = some (.inr 7) := rfl
theorem sA_35 : shA 35 = some (.inl 27) := rfl
theorem sA_36 : shA 36 = some (.inl 48) := rfl
theorem sA_37 : shA 37 = some (.inl 7) := rfl
theorem sA_38 : shA 38 = some (.inl 192) := rfl
theorem sA_39 : shA 39 = some (.inl 3) := rfl
theorem sA_40 : shA 40 = some (.inl 3) := rfl
theorem sA_41 : shA 41 = some (.inr 9) := rfl
theorem sA_42 : shA 42 = some (.inl 19) := rfl
theorem sA_43 : shA 43 = some (.inl 152) := rfl
theorem sA_44 : shA 44 = some (.inl 3) := rfl
theorem sA_45 : shA 45 = some (.inl 60) := rfl
theorem sA_46 : shA 46 = some (.inl 400) := rfl
theorem sA_47 : shA 47 = some (.inl 400) := rfl
theorem sA_48 : shA 48 = some (.inl 8) := rfl
theorem sA_49 : shA 49 = some (.inl 32400) := rfl
theorem sA_50 : shA 50 = some (.inl 81) := rfl
theorem sA_51 : shA 51 = some (.inl 8) := rfl
theorem sA_52 : shA 52 = some (.inl 81) := rfl
theorem sA_53 : shA 53 = some (.inl 81) := rfl
theorem sA_54 : shA 54 = some (.inl 3) := rfl
theorem sA_55 : shA 55 = some (.inl 4) := rfl
theorem sA_56 : shA 56 = some (.inl 3) := rfl
theorem sA_57 : shA 57 = some (.inl 4) := rfl
theorem sA_58 : shA 58 = some (.inl 360) := rfl
theorem sA_59 : shA 59 = some (.inl 3) := rfl
theorem sA_60 : shA 60 = some (.inl 27) := rfl
theorem sA_61 : shA 61 = some (.inl 48) := rfl
theorem sA_62 : shA 62 = some (.inl 7) := rfl
theorem sA_63 : shA 63 = some (.inl 60) := rfl
theorem sA_64 : shA 64 = some (.inl 60) := rfl
theorem sA_65 : shA 65 = some (.inl 60) := rfl
theorem sA_66 : shA 66 = some (.inl 60) := rfl
theorem sA_67 : shA 67 = some (.inl 81) := rfl
theorem sA_68 : shA 68 = some (.inl 10) := rfl
theorem sA_69 : shA 69 = some (.inl 10) := rfl
theorem sA_70 : shA 70 = some (.inl 10) := rfl
theorem sA_71 : shA 71 = some (.inl 8) := rfl
theorem sA_72 : shA 72 = some (.inl 8) := rfl
theorem rA_0_0 : rA 0 0 = .inr (.inr (.inl 1)) := rfl
theorem rA_0_1 : rA 0 1 = .inr (.inr (.inl 4)) := rfl
theorem rA_0_2 : rA 0 2 = .inr (.inr (.inl 6)) := rfl
theorem rA_0_3 : rA 0 3 = .inr (.inr (.inl 14)) := rfl
theorem rA_0_4 : rA 0 4 = .inr (.inr (.inl 34)) := rfl
theorem rA_0_5 : rA 0 5 = .inr (.inr (.inl 40)) := rfl
theorem rA_1_0 : rA 1 0 = .inr (.inr (.inl 2)) := rfl
theorem rA_1_1 : rA 1 1 = .inr (.inr (.inl 3)) := rfl
theorem rA_4_0 : rA 4 0 = .inr (.inr (.inl 5)) := rfl
theorem rA_6_0 : rA 6 0 = .inr (.inr (.inl 7)) := rfl
theorem rA_6_2 : rA 6 2 = .inr (.inr (.inl 8)) := rfl
theorem rA_6_3 : rA 6 3 = .inr (.inr (.inl 9)) := rfl
theorem rA_6_6 : rA 6 6 = .inr (.inr (.inl 10)) := rfl
theorem rA_6_7 : rA 6 7 = .inr (.inr (.inl 11)) := rfl
theorem rA_6_8 : rA 6 8 = .inr (.inr (.inl 12)) := rfl
theorem rA_6_9 : rA 6 9 = .inr (.inr (.inl 13)) := rfl
theorem rA_14_0 : rA 14 0 = .inr (.inr (.inl 15)) := rfl
theorem rA_14_1 : rA 14 1 = .inr (.inr (.inl 16)) := rfl
theorem rA_14_2 : rA 14 2 = .inr (.inr (.inl 32)) := rfl
theorem rA_14_3 : rA 14 3 = .inr (.inr (.inl 33)) := rfl
theorem rA_15_0 : rA 15 0 = .inr (.inr (.inl 16)) := rfl
theorem rA_15_1 : rA 15 1 = .inr (.inr (.inl 21)) := rfl
theorem rA_15_2 : rA 15 2 = .inr (.inr (.inl 30)) := rfl
theorem rA_15_3 : rA 15 3 = .inr (.inr (.inl 31)) := rfl
theorem rA_16_0 : rA 16 0 = .inr (.inr (.inl 17)) := rfl
theorem rA_16_1 : rA 16 1 = .inr (.inr (.inl 18)) := rfl
theorem rA_16_2 : rA 16 2 = .inr (.inr (.inl 19)) := rfl
theorem rA_16_3 : rA 16 3 = .inr (.inr (.inl 20)) := rfl
theorem rA_21_0 : rA 21 0 = .inr (.inr (.inl 22)) := rfl
theorem rA_21_1 : rA 21 1 = .inr (.inr (.inl 23)) := rfl
theorem rA_21_2 : rA 21 2 = .inr (.inr (.inl 24)) := rfl
theorem rA_21_3 : rA 21 3 = .inr (.inr (.inl 25)) := rfl
theorem rA_21_4 : rA 21 4 = .inr (.inr (.inl 26)) := rfl
theorem rA_21_5 : rA 21 5 = .inr (.inr (.inl 27)) := rfl
theorem rA_21_6 : rA 21 6 = .inr (.inr (.inl 28)) := rfl
theorem rA_21_7 : rA 21 7 = .inr (.inr (.inl 29)) := rfl
theorem rA_34_1 : rA 34 1 = .inr (.inr (.inl 35)) := rfl
theorem rA_34_2 : rA 34 2 = .inr (.inr (.inl 36)) := rfl
theorem rA_34_3 : rA 34 3 = .inr (.inr (.inl 37)) := rfl
theorem rA_34_4 : rA 34 4 = .inr (.inr (.inl 38)) := rfl
theorem rA_34_5 : rA 34 5 = .inr (.inr (.inl 39)) := rfl
theorem rA_41_0 : rA 41 0 = .inr (.inr (.inl 42)) := rfl
theorem rA_41_1 : rA 41 1 = .inr (.inr (.inl 43)) := rfl
theorem rA_41_3 : rA 41 3 = .inr (.inr (.inl 44)) := rfl
theorem rA_41_4 : rA 41 4 = .inr (.inr (.inl 45)) := rfl
theorem rA_41_6 : rA 41 6 = .inr (.inr (.inl 46)) := rfl
theorem rA_41_7 : rA 41 7 = .inr (.inr (.inl 47)) := rfl
theorem rA_41_8 : rA 41 8 = .inr (.inr (.inl 48)) := rfl
theorem rA_41_13 : rA 41 13 = .inr (.inr (.inl 49)) := rfl
theorem rA_41_14 : rA 41 14 = .inr (.inr (.inl 50)) := rfl
theorem rA_41_15 : rA 41 15 = .inr (.inr (.inl 51)) := rfl
theorem rA_41_16 : rA 41 16 = .inr (.inr (.inl 52)) := rfl
theorem rA_41_17 : rA 41 17 = .inr (.inr (.inl 53)) := rfl
theorem rA_41_19 : rA 41 19 = .inr (.inr (.inl 54)) := rfl
theorem rA_41_20 : rA 41 20 = .inr (.inr (.inl 55)) := rfl
theorem rA_41_21 : rA 41 21 = .inr (.inr (.inl 56)) := rfl
theorem rA_41_22 : rA 41 22 = .inr (.inr (.inl 57)) := rfl
theorem rA_41_24 : rA 41 24 = .inr (.inr (.inl 58)) := rfl
theorem rA_41_25 : rA 41 25 = .inr (.inr (.inl 59)) := rfl
theorem rA_41_26 : rA 41 26 = .inr (.inr (.inl 60)) := rfl
theorem rA_41_27 : rA 41 27 = .inr (.inr (.inl 61)) := rfl
theorem rA_41_28 : rA 41 28 = .inr (.inr (.inl 62)) := rfl
theorem rA_41_29 : rA 41 29 = .inr (.inr (.inl 63)) := rfl
theorem rA_41_30 : rA 41 30 = .inr (.inr (.inl 64)) := rfl
theorem rA_41_31 : rA 41 31 = .inr (.inr (.inl 65)) := rfl
theorem rA_41_32 : rA 41 32 = .inr (.inr (.inl 66)) := rfl
theorem rA_41_34 : rA 41 34 = .inr (.inr (.inl 67)) := rfl
theorem rA_41_38 : rA 41 38 = .inr (.inr (.inl 68)) := rfl
theorem rA_41_39 : rA 41 39 = .inr (.inr (.inl 69)) := rfl
theorem rA_41_40 : rA 41 40 = .inr (.inr (.inl 70)) := rfl
theorem rA_41_43 : rA 41 43 = .inr (.inr (.inl 71)) := rfl
theorem rA_41_44 : rA 41 44 = .inr (.inr (.inl 72)) := rfl
abbrev Mw (g : Nat → Int → Int) : Mx := (73, 42835, shA, rA, g)
def ceW (xs : Int × (Int → Int)) : Cx := fun j => match j with
  | 1 => xs
  | 2 => (10, fun i => if i = 0 then 1 else if i = 1 then 48 else if i = 2 then 0 else if i = 3 then 0 else if i = 4 then 0 else if i = 5 then 0 else if i = 6 then 0 else if i = 7 then 0 else if i = 8 then 0 else if i = 9 then 0 else 0)
  | 3 => (10, fun i => if i = 0 then 3 else if i = 1 then 432 else if i = 2 then 24 else if i = 3 then 3 else if i = 4 then 99 else if i = 5 then 99 else if i = 6 then 99 else if i = 7 then 99 else if i = 8 then 99 else if i = 9 then 50 else 0)
  | 4 => (10, fun i => if i = 0 then 2 else if i = 1 then 216 else if i = 2 then 0 else if i = 3 then 2 else if i = 4 then 4 else if i = 5 then 10 else if i = 6 then 8 else if i = 7 then 6 else if i = 8 then 2 else if i = 9 then 6 else 0)
  | 5 => (6, fun i => if i = 0 then 1 else if i = 1 then 1 else if i = 2 then 2 else if i = 3 then 3 else if i = 4 then 3 else if i = 5 then 3 else 0)
  | 6 => (6, fun i => if i = 0 then 0 else if i = 1 then 1 else if i = 2 then 0 else if i = 3 then 0 else if i = 4 then 1 else if i = 5 then 2 else 0)
  | 7 => (4, fun i => if i = 0 then 45 else if i = 1 then 91 else if i = 2 then 60 else if i = 3 then 123 else 0)
  | 8 => (4, fun i => if i = 0 then 45 else if i = 1 then 93 else if i = 2 then 62 else if i = 3 then 125 else 0)
  | _ => (0, fun _ => 0)
theorem ceW_2 (xs : Int × (Int → Int)) : ceW xs 2 = (10, fun i => if i = 0 then 1 else if i = 1 then 48 else if i = 2 then 0 else if i = 3 then 0 else if i = 4 then 0 else if i = 5 then 0 else if i = 6 then 0 else if i = 7 then 0 else if i = 8 then 0 else if i = 9 then 0 else 0) := rfl
theorem ceW_3 (xs : Int × (Int → Int)) : ceW xs 3 = (10, fun i => if i = 0 then 3 else if i = 1 then 432 else if i = 2 then 24 else if i = 3 then 3 else if i = 4 then 99 else if i = 5 then 99 else if i = 6 then 99 else if i = 7 then 99 else if i = 8 then 99 else if i = 9 then 50 else 0) := rfl
theorem ceW_4 (xs : Int × (Int → Int)) : ceW xs 4 = (10, fun i => if i = 0 then 2 else if i = 1 then 216 else if i = 2 then 0 else if i = 3 then 2 else if i = 4 then 4 else if i = 5 then 10 else if i = 6 then 8 else if i = 7 then 6 else if i = 8 then 2 else if i = 9 then 6 else 0) := rfl
theorem ceW_5 (xs : Int × (Int → Int)) : ceW xs 5 = (6, fun i => if i = 0 then 1 else if i = 1 then 1 else if i = 2 then 2 else if i = 3 then 3 else if i = 4 then 3 else if i = 5 then 3 else 0) := rfl
theorem ceW_6 (xs : Int × (Int → Int)) : ceW xs 6 = (6, fun i => if i = 0 then 0 else if i = 1 then 1 else if i = 2 then 0 else if i = 3 then 0 else if i = 4 then 1 else if i = 5 then 2 else 0) := rfl
theorem ceW_7 (xs : Int × (Int → Int)) : ceW xs 7 = (4, fun i => if i = 0 then 45 else if i = 1 then 91 else if i = 2 then 60 else if i = 3 then 123 else 0) := rfl
theorem ceW_8 (xs : Int × (Int → Int)) : ceW xs 8 = (4, fun i => if i = 0 then 45 else if i = 1 then 93 else if i = 2 then 62 else if i = 3 then 125 else 0) := rfl
theorem ceW_1 (xs : Int × (Int → Int)) : ceW xs 1 = xs := rfl
theorem ceN_2 (xs : Int × (Int → Int)) : (ceW xs 2).1 = 10 := rfl
theorem ceN_3 (xs : Int × (Int → Int)) : (ceW xs 3).1 = 10 := rfl
theorem ceN_4 (xs : Int × (Int → Int)) : (ceW xs 4).1 = 10 := rfl
theorem ceN_5 (xs : Int × (Int → Int)) : (ceW xs 5).1 = 6 := rfl
theorem ceN_6 (xs : Int × (Int → Int)) : (ceW xs 6).1 = 6 := rfl
theorem ceN_7 (xs : Int × (Int → Int)) : (ceW xs 7).1 = 4 := rfl
theorem ceN_8 (xs : Int × (Int → Int)) : (ceW xs 8).1 = 4 := rfl
/-- what is given of a run: where the cells begin, where the constants are, the classes, the launch, the script -/
abbrev Gx : Type := Nat × (Nat → Nat) × (Nat → Nat) × ClassId × va_G × Launch × (Int × (Int → Int))
def Tg (G : Gx) (d : Nat) (lim : Nat × Nat) (y pc : Nat) (L S : List Vx) (M : Mx) (Q : Qx) : Prop := Tq G.1 G.2.1 G.2.2.1 G.2.2.2.1 G.2.2.2.2.1 (ceW G.2.2.2.2.2.2) G.2.2.2.2.2.1 d lim y pc L S M Q
def Cg (G : Gx) (d y : Nat) (a : List Vx) (M : Mx) (Q : Qx) : Prop := Cq G.1 G.2.1 G.2.2.1 G.2.2.2.1 G.2.2.2.2.1 (ceW G.2.2.2.2.2.2) G.2.2.2.2.2.1 d y a M Q
def cG (G : Gx) (lim : Nat × Nat) (d : Nat) : CLx := cD G.1 G.2.1 G.2.2.1 G.2.2.2.1 G.2.2.2.2.1 (ceW G.2.2.2.2.2.2) G.2.2.2.2.2.1 lim d
theorem T_b {G : Gx} {d : Nat} {lim : Nat × Nat} {y pc : Nat} {L S : List Vx} {M : Mx} {Q : Qx} {is : List Ix} {nx : Nat} (hok : BlkOK y pc is nx) (h : wpB (ceW G.2.2.2.2.2.2) (cG G lim d) clsN lim nF Q (fun pc' L S M => Tg G d lim y pc' L S M Q) is nx L S M) : Tg G d lim y pc L S M Q := T_blk hok h
/-- the end of a method that makes nothing -/
def QW (Q : Qx) : Qx := fun r M => (M.1 = 73 ∧ M.2.1 = 42835) ∧ Q r M
theorem QW_w {Q : Qx} {r : Option Vx} {s : Sx} {f : Nat → Nat → Vx} {g : Nat → Int → Int} : QW Q r (73, 42835, s, f, g) = Q r (73, 42835, s, f, g) := by simp [QW]
/-- in the world: a method that makes nothing -/
theorem C_t {G : Gx} {d y : Nat} {a : List Vx} {g : Nat → Int → Int} {Q : Qx} (hm : mOK y) (hbu : bu y = (0, 0)) (hn : noL a = true) (hl : a.length ≤ mL y)
    (h : Tg G d (73, 42835) y 0 (a ++ List.replicate (mL y - a.length) (vc 0)) [] (Mw g) (QW Q)) : Cg G d y a (Mw g) Q := by
  refine C_of_T hm hn hl ?_
  rw [hbu]
  exact h
theorem c_t {G : Gx} {d y : Nat} {a : List Vx} {g : Nat → Int → Int} {Q : Qx} (hbu : bu y = (0, 0)) : cG G (73, 42835) (d + 1) y a (73, 42835, shA, rA, g) Q = Cg G d y a (73, 42835, shA, rA, g) Q := by
  show ((73 + (bu y).1 ≤ 73 ∧ 42835 + (bu y).2 ≤ 42835) ∧ _) = _
  rw [hbu]
  simp [Cg]
theorem wA : shA 0 = some (.inr 8) ∧ shA 1 = some (.inr 1) ∧ shA 2 = some (.inl 8) ∧ shA 3 = some (.inl 10) ∧ shA 4 = some (.inr 0) ∧ shA 5 = some (.inl 152) ∧ shA 6 = some (.inr 3) ∧ shA 7 = some (.inl 60) ∧ shA 8 = some (.inl 8) ∧ shA 9 = some (.inl 8) ∧ shA 10 = some (.inl 3) ∧ shA 11 = some (.inl 3) ∧ shA 12 = some (.inl 3) ∧ shA 13 = some (.inl 3) ∧ shA 14 = some (.inr 2) ∧ shA 15 = some (.inr 5) ∧ shA 16 = some (.inr 6) ∧ shA 17 = some (.inl 8) ∧ shA 18 = some (.inl 8) ∧ shA 19 = some (.inl 4) ∧ shA 20 = some (.inl 4) ∧ shA 21 = some (.inr 4) ∧ shA 22 = some (.inl 46) ∧ shA 23 = some (.inl 35) ∧ shA 24 = some (.inl 4) ∧ shA 25 = some (.inl 4) ∧ shA 26 = some (.inl 210) ∧ shA 27 = some (.inl 210) ∧ shA 28 = some (.inl 35) ∧ shA 29 = some (.inl 35) ∧ shA 30 = some (.inl 6642) ∧ shA 31 = some (.inl 8) ∧ shA 32 = some (.inl 405) ∧ shA 33 = some (.inl 9) ∧ shA 34 = some (.inr 7) ∧ shA 35 = some (.inl 27) ∧ shA 36 = some (.inl 48) ∧ shA 37 = some (.inl 7) ∧ shA 38 = some (.inl 192) ∧ shA 39 = some (.inl 3) ∧ shA 40 = some (.inl 3) ∧ shA 41 = some (.inr 9) ∧ shA 42 = some (.inl 19) ∧ shA 43 = some (.inl 152) ∧ shA 44 = some (.inl 3) ∧ shA 45 = some (.inl 60) ∧ shA 46 = some (.inl 400) ∧ shA 47 = some (.inl 400) ∧ shA 48 = some (.inl 8) ∧ shA 49 = some (.inl 32400) ∧ shA 50 = some (.inl 81) ∧ shA 51 = some (.inl 8) ∧ shA 52 = some (.inl 81) ∧ shA 53 = some (.inl 81) ∧ shA 54 = some (.inl 3) ∧ shA 55 = some (.inl 4) ∧ shA 56 = some (.inl 3) ∧ shA 57 = some (.inl 4) ∧ shA 58 = some (.inl 360) ∧ shA 59 = some (.inl 3) ∧ shA 60 = some (.inl 27) ∧ shA 61 = some (.inl 48) ∧ shA 62 = some (.inl 7) ∧ shA 63 = some (.inl 60) ∧ shA 64 = some (.inl 60) ∧ shA 65 = some (.inl 60) ∧ shA 66 = some (.inl 60) ∧ shA 67 = some (.inl 81) ∧ shA 68 = some (.inl 10) ∧ shA 69 = some (.inl 10) ∧ shA 70 = some (.inl 10) ∧ shA 71 = some (.inl 8) ∧ shA 72 = some (.inl 8) := ⟨rfl, rfl, rfl, rfl, rfl, rfl, rfl, rfl, rfl, rfl, rfl, rfl, rfl, rfl, rfl, rfl, rfl, rfl, rfl, rfl, rfl, rfl, rfl, rfl, rfl, rfl, rfl, rfl, rfl, rfl, rfl, rfl, rfl, rfl, rfl, rfl, rfl, rfl, rfl, rfl, rfl, rfl, rfl, rfl, rfl, rfl, rfl, rfl, rfl, rfl, rfl, rfl, rfl, rfl, rfl, rfl, rfl, rfl, rfl, rfl, rfl, rfl, rfl, rfl, rfl, rfl, rfl, rfl, rfl, rfl, rfl, rfl, rfl⟩
theorem wR : rA 0 0 = .inr (.inr (.inl 1)) ∧ rA 0 1 = .inr (.inr (.inl 4)) ∧ rA 0 2 = .inr (.inr (.inl 6)) ∧ rA 0 3 = .inr (.inr (.inl 14)) ∧ rA 0 4 = .inr (.inr (.inl 34)) ∧ rA 0 5 = .inr (.inr (.inl 40)) ∧ rA 1 0 = .inr (.inr (.inl 2)) ∧ rA 1 1 = .inr (.inr (.inl 3)) ∧ rA 4 0 = .inr (.inr (.inl 5)) ∧ rA 6 0 = .inr (.inr (.inl 7)) ∧ rA 6 2 = .inr (.inr (.inl 8)) ∧ rA 6 3 = .inr (.inr (.inl 9)) ∧ rA 6 6 = .inr (.inr (.inl 10)) ∧ rA 6 7 = .inr (.inr (.inl 11)) ∧ rA 6 8 = .inr (.inr (.inl 12)) ∧ rA 6 9 = .inr (.inr (.inl 13)) ∧ rA 14 0 = .inr (.inr (.inl 15)) ∧ rA 14 1 = .inr (.inr (.inl 16)) ∧ rA 14 2 = .inr (.inr (.inl 32)) ∧ rA 14 3 = .inr (.inr (.inl 33)) ∧ rA 15 0 = .inr (.inr (.inl 16)) ∧ rA 15 1 = .inr (.inr (.inl 21)) ∧ rA 15 2 = .inr (.inr (.inl 30)) ∧ rA 15 3 = .inr (.inr (.inl 31)) ∧ rA 16 0 = .inr (.inr (.inl 17)) ∧ rA 16 1 = .inr (.inr (.inl 18)) ∧ rA 16 2 = .inr (.inr (.inl 19)) ∧ rA 16 3 = .inr (.inr (.inl 20)) ∧ rA 21 0 = .inr (.inr (.inl 22)) ∧ rA 21 1 = .inr (.inr (.inl 23)) ∧ rA 21 2 = .inr (.inr (.inl 24)) ∧ rA 21 3 = .inr (.inr (.inl 25)) ∧ rA 21 4 = .inr (.inr (.inl 26)) ∧ rA 21 5 = .inr (.inr (.inl 27)) ∧ rA 21 6 = .inr (.inr (.inl 28)) ∧ rA 21 7 = .inr (.inr (.inl 29)) ∧ rA 34 1 = .inr (.inr (.inl 35)) ∧ rA 34 2 = .inr (.inr (.inl 36)) ∧ rA 34 3 = .inr (.inr (.inl 37)) ∧ rA 34 4 = .inr (.inr (.inl 38)) ∧ rA 34 5 = .inr (.inr (.inl 39)) ∧ rA 41 0 = .inr (.inr (.inl 42)) ∧ rA 41 1 = .inr (.inr (.inl 43)) ∧ rA 41 3 = .inr (.inr (.inl 44)) ∧ rA 41 4 = .inr (.inr (.inl 45)) ∧ rA 41 6 = .inr (.inr (.inl 46)) ∧ rA 41 7 = .inr (.inr (.inl 47)) ∧ rA 41 8 = .inr (.inr (.inl 48)) ∧ rA 41 13 = .inr (.inr (.inl 49)) ∧ rA 41 14 = .inr (.inr (.inl 50)) ∧ rA 41 15 = .inr (.inr (.inl 51)) ∧ rA 41 16 = .inr (.inr (.inl 52)) ∧ rA 41 17 = .inr (.inr (.inl 53)) ∧ rA 41 19 = .inr (.inr (.inl 54)) ∧ rA 41 20 = .inr (.inr (.inl 55)) ∧ rA 41 21 = .inr (.inr (.inl 56)) ∧ rA 41 22 = .inr (.inr (.inl 57)) ∧ rA 41 24 = .inr (.inr (.inl 58)) ∧ rA 41 25 = .inr (.inr (.inl 59)) ∧ rA 41 26 = .inr (.inr (.inl 60)) ∧ rA 41 27 = .inr (.inr (.inl 61)) ∧ rA 41 28 = .inr (.inr (.inl 62)) ∧ rA 41 29 = .inr (.inr (.inl 63)) ∧ rA 41 30 = .inr (.inr (.inl 64)) ∧ rA 41 31 = .inr (.inr (.inl 65)) ∧ rA 41 32 = .inr (.inr (.inl 66)) ∧ rA 41 34 = .inr (.inr (.inl 67)) ∧ rA 41 38 = .inr (.inr (.inl 68)) ∧ rA 41 39 = .inr (.inr (.inl 69)) ∧ rA 41 40 = .inr (.inr (.inl 70)) ∧ rA 41 43 = .inr (.inr (.inl 71)) ∧ rA 41 44 = .inr (.inr (.inl 72)) := ⟨rfl, rfl, rfl, rfl, rfl, rfl, rfl, rfl, rfl, rfl, rfl, rfl, rfl, rfl, rfl, rfl, rfl, rfl, rfl, rfl, rfl, rfl, rfl, rfl, rfl, rfl, rfl, rfl, rfl, rfl, rfl, rfl, rfl, rfl, rfl, rfl, rfl, rfl, rfl, rfl, rfl, rfl, rfl, rfl, rfl, rfl, rfl, rfl, rfl, rfl, rfl, rfl, rfl, rfl, rfl, rfl, rfl, rfl, rfl, rfl, rfl, rfl, rfl, rfl, rfl, rfl, rfl, rfl, rfl, rfl, rfl, rfl⟩
theorem wK : (clsN 1).map (Sum.inr : Nat → Int ⊕ Nat) = some (.inr 8) ∧ (clsN 2).map (Sum.inr : Nat → Int ⊕ Nat) = some (.inr 8) ∧ (clsN 3).map (Sum.inr : Nat → Int ⊕ Nat) = some (.inr 8) ∧ (clsN 4).map (Sum.inr : Nat → Int ⊕ Nat) = some (.inr 8) ∧ (clsN 5).map (Sum.inr : Nat → Int ⊕ Nat) = some (.inr 8) ∧ (clsN 6).map (Sum.inr : Nat → Int ⊕ Nat) = some (.inr 8) ∧ (clsN 7).map (Sum.inr : Nat → Int ⊕ Nat) = some (.inr 8) ∧ (clsN 8).map (Sum.inr : Nat → Int ⊕ Nat) = some (.inr 8) ∧ (clsN 9).map (Sum.inr : Nat → Int ⊕ Nat) = some (.inr 8) ∧ (clsN 10).map (Sum.inr : Nat → Int ⊕ Nat) = some (.inr 8) ∧ (clsN 11).map (Sum.inr : Nat → Int ⊕ Nat) = some (.inr 8) ∧ (clsN 12).map (Sum.inr : Nat → Int ⊕ Nat) = some (.inr 8) ∧ (clsN 13).map (Sum.inr : Nat → Int ⊕ Nat) = some (.inr 8) ∧ (clsN 14).map (Sum.inr : Nat → Int ⊕ Nat) = some (.inr 8) ∧ (clsN 15).map (Sum.inr : Nat → Int ⊕ Nat) = some (.inr 8) ∧ (clsN 16).map (Sum.inr : Nat → Int ⊕ Nat) = some (.inr 8) ∧ (clsN 17).map (Sum.inr : Nat → Int ⊕ Nat) = some (.inr 8) ∧ (clsN 18).map (Sum.inr : Nat → Int ⊕ Nat) = some (.inr 8) ∧ (clsN 19).map (Sum.inr : Nat → Int ⊕ Nat) = some (.inr 8) ∧ (clsN 20).map (Sum.inr : Nat → Int ⊕ Nat) = some (.inr 8) ∧ (clsN 21).map (Sum.inr : Nat → Int ⊕ Nat) = some (.inr 8) ∧ (clsN 22).map (Sum.inr : Nat → Int ⊕ Nat) = some (.inr 8) ∧ (clsN 24).map (Sum.inr : Nat → Int ⊕ Nat) = some (.inr 8) ∧ (clsN 25).map (Sum.inr : Nat → Int ⊕ Nat) = some (.inr 8) ∧ (clsN 26).map (Sum.inr : Nat → Int ⊕ Nat) = some (.inr 8) ∧ (clsN 27).map (Sum.inr : Nat → Int ⊕ Nat) = some (.inr 8) ∧ (clsN 28).map (Sum.inr : Nat → Int ⊕ Nat) = some (.inr 8) ∧ (clsN 29).map (Sum.inr : Nat → Int ⊕ Nat) = some (.inr 8) ∧ (clsN 37).map (Sum.inr : Nat → Int ⊕ Nat) = some (.inr 9) ∧ (clsN 38).map (Sum.inr : Nat → Int ⊕ Nat) = some (.inr 9) ∧ (clsN 39).map (Sum.inr : Nat → Int ⊕ Nat) = some (.inr 9) ∧ (clsN 40).map (Sum.inr : Nat → Int ⊕ Nat) = some (.inr 9) ∧ (clsN 41).map (Sum.inr : Nat → Int ⊕ Nat) = some (.inr 9) ∧ (clsN 42).map (Sum.inr : Nat → Int ⊕ Nat) = some (.inr 9) ∧ (clsN 43).map (Sum.inr : Nat → Int ⊕ Nat) = some (.inr 9) ∧ (clsN 44).map (Sum.inr : Nat → Int ⊕ Nat) = some (.inr 9) ∧ (clsN 45).map (Sum.inr : Nat → Int ⊕ Nat) = some (.inr 9) ∧ (clsN 46).map (Sum.inr : Nat → Int ⊕ Nat) = some (.inr 9) ∧ (clsN 49).map (Sum.inr : Nat → Int ⊕ Nat) = some (.inr 9) ∧ (clsN 50).map (Sum.inr : Nat → Int ⊕ Nat) = some (.inr 9) ∧ (clsN 52).map (Sum.inr : Nat → Int ⊕ Nat) = some (.inr 9) ∧ (clsN 53).map (Sum.inr : Nat → Int ⊕ Nat) = some (.inr 9) ∧ (clsN 54).map (Sum.inr : Nat → Int ⊕ Nat) = some (.inr 9) ∧ (clsN 55).map (Sum.inr : Nat → Int ⊕ Nat) = some (.inr 9) ∧ (clsN 56).map (Sum.inr : Nat → Int ⊕ Nat) = some (.inr 9) ∧ (clsN 57).map (Sum.inr : Nat → Int ⊕ Nat) = some (.inr 9) ∧ (clsN 58).map (Sum.inr : Nat → Int ⊕ Nat) = some (.inr 9) ∧ (clsN 59).map (Sum.inr : Nat → Int ⊕ Nat) = some (.inr 9) ∧ (clsN 60).map (Sum.inr : Nat → Int ⊕ Nat) = some (.inr 9) ∧ (clsN 61).map (Sum.inr : Nat → Int ⊕ Nat) = some (.inr 9) ∧ (clsN 62).map (Sum.inr : Nat → Int ⊕ Nat) = some (.inr 9) ∧ (clsN 63).map (Sum.inr : Nat → Int ⊕ Nat) = some (.inr 9) ∧ (clsN 64).map (Sum.inr : Nat → Int ⊕ Nat) = some (.inr 9) ∧ (clsN 65).map (Sum.inr : Nat → Int ⊕ Nat) = some (.inr 9) ∧ (clsN 66).map (Sum.inr : Nat → Int ⊕ Nat) = some (.inr 9) ∧ (clsN 67).map (Sum.inr : Nat → Int ⊕ Nat) = some (.inr 9) ∧ (clsN 68).map (Sum.inr : Nat → Int ⊕ Nat) = some (.inr 9) ∧ (clsN 69).map (Sum.inr : Nat → Int ⊕ Nat) = some (.inr 9) ∧ (clsN 70).map (Sum.inr : Nat → Int ⊕ Nat) = some (.inr 9) ∧ (clsN 71).map (Sum.inr : Nat → Int ⊕ Nat) = some (.inr 9) ∧ (clsN 72).map (Sum.inr : Nat → Int ⊕ Nat) = some (.inr 9) ∧ (clsN 73).map (Sum.inr : Nat → Int ⊕ Nat) = some (.inr 9) ∧ (clsN 74).map (Sum.inr : Nat → Int ⊕ Nat) = some (.inr 9) ∧ (clsN 75).map (Sum.inr : Nat → Int ⊕ Nat) = some (.inr 9) ∧ (clsN 76).map (Sum.inr : Nat → Int ⊕ Nat) = some (.inr 9) ∧ (clsN 77).map (Sum.inr : Nat → Int ⊕ Nat) = some (.inr 9) ∧ (clsN 78).map (Sum.inr : Nat → Int ⊕ Nat) = some (.inr 9) ∧ (clsN 79).map (Sum.inr : Nat → Int ⊕ Nat) = some (.inr 9) ∧ (clsN 80).map (Sum.inr : Nat → Int ⊕ Nat) = some (.inr 9) ∧ (clsN 81).map (Sum.inr : Nat → Int ⊕ Nat) = some (.inr 9) ∧ (clsN 82).map (Sum.inr : Nat → Int ⊕ Nat) = some (.inr 9) ∧ (clsN 83).map (Sum.inr : Nat → Int ⊕ Nat) = some (.inr 9) ∧ (clsN 84).map (Sum.inr : Nat → Int ⊕ Nat) = some (.inr 9) ∧ (clsN 85).map (Sum.inr : Nat → Int ⊕ Nat) = some (.inr 9) ∧ (clsN 86).map (Sum.inr : Nat → Int ⊕ Nat) = some (.inr 9) ∧ (clsN 87).map (Sum.inr : Nat → Int ⊕ Nat) = some (.inr 9) ∧ (clsN 88).map (Sum.inr : Nat → Int ⊕ Nat) = some (.inr 9) ∧ (clsN 89).map (Sum.inr : Nat → Int ⊕ Nat) = some (.inr 9) ∧ (clsN 91).map (Sum.inr : Nat → Int ⊕ Nat) = some (.inr 9) ∧ (clsN 92).map (Sum.inr : Nat → Int ⊕ Nat) = some (.inr 9) ∧ (clsN 93).map (Sum.inr : Nat → Int ⊕ Nat) = some (.inr 9) ∧ (clsN 94).map (Sum.inr : Nat → Int ⊕ Nat) = some (.inr 9) ∧ (clsN 95).map (Sum.inr : Nat → Int ⊕ Nat) = some (.inr 9) ∧ (clsN 96).map (Sum.inr : Nat → Int ⊕ Nat) = some (.inr 9) ∧ (clsN 97).map (Sum.inr : Nat → Int ⊕ Nat) = some (.inr 9) ∧ (clsN 99).map (Sum.inr : Nat → Int ⊕ Nat) = some (.inr 0) ∧ (clsN 100).map (Sum.inr : Nat → Int ⊕ Nat) = some (.inr 0) ∧ (clsN 102).map (Sum.inr : Nat → Int ⊕ Nat) = some (.inr 1) ∧ (clsN 103).map (Sum.inr : Nat → Int ⊕ Nat) = some (.inr 1) ∧ (clsN 104).map (Sum.inr : Nat → Int ⊕ Nat) = some (.inr 1) ∧ (clsN 105).map (Sum.inr : Nat → Int ⊕ Nat) = some (.inr 1) ∧ (clsN 106).map (Sum.inr : Nat → Int ⊕ Nat) = some (.inr 1) ∧ (clsN 107).map (Sum.inr : Nat → Int ⊕ Nat) = some (.inr 1) ∧ (clsN 108).map (Sum.inr : Nat → Int ⊕ Nat) = some (.inr 1) ∧ (clsN 110).map (Sum.inr : Nat → Int ⊕ Nat) = some (.inr 2) ∧ (clsN 111).map (Sum.inr : Nat → Int ⊕ Nat) = some (.inr 2) ∧ (clsN 112).map (Sum.inr : Nat → Int ⊕ Nat) = some (.inr 2) ∧ (clsN 113).map (Sum.inr : Nat → Int ⊕ Nat) = some (.inr 2) ∧ (clsN 114).map (Sum.inr : Nat → Int ⊕ Nat) = some (.inr 2) ∧ (clsN 115).map (Sum.inr : Nat → Int ⊕ Nat) = some (.inr 2) ∧ (clsN 116).map (Sum.inr : Nat → Int ⊕ Nat) = some (.inr 2) ∧ (clsN 118).map (Sum.inr : Nat → Int ⊕ Nat) = some (.inr 2) ∧ (clsN 119).map (Sum.inr : Nat → Int ⊕ Nat) = some (.inr 2) ∧ (clsN 120).map (Sum.inr : Nat → Int ⊕ Nat) = some (.inr 2) ∧ (clsN 121).map (Sum.inr : Nat → Int ⊕ Nat) = some (.inr 2) ∧ (clsN 122).map (Sum.inr : Nat → Int ⊕ Nat) = some (.inr 2) ∧ (clsN 124).map (Sum.inr : Nat → Int ⊕ Nat) = some (.inr 3) ∧ (clsN 125).map (Sum.inr : Nat → Int ⊕ Nat) = some (.inr 3) ∧ (clsN 126).map (Sum.inr : Nat → Int ⊕ Nat) = some (.inr 3) ∧ (clsN 127).map (Sum.inr : Nat → Int ⊕ Nat) = some (.inr 3) ∧ (clsN 128).map (Sum.inr : Nat → Int ⊕ Nat) = some (.inr 3) ∧ (clsN 129).map (Sum.inr : Nat → Int ⊕ Nat) = some (.inr 3) ∧ (clsN 130).map (Sum.inr : Nat → Int ⊕ Nat) = some (.inr 3) ∧ (clsN 131).map (Sum.inr : Nat → Int ⊕ Nat) = some (.inr 3) ∧ (clsN 132).map (Sum.inr : Nat → Int ⊕ Nat) = some (.inr 3) ∧ (clsN 134).map (Sum.inr : Nat → Int ⊕ Nat) = some (.inr 4) ∧ (clsN 135).map (Sum.inr : Nat → Int ⊕ Nat) = some (.inr 4) ∧ (clsN 136).map (Sum.inr : Nat → Int ⊕ Nat) = some (.inr 4) ∧ (clsN 138).map (Sum.inr : Nat → Int ⊕ Nat) = some (.inr 5) ∧ (clsN 139).map (Sum.inr : Nat → Int ⊕ Nat) = some (.inr 5) ∧ (clsN 140).map (Sum.inr : Nat → Int ⊕ Nat) = some (.inr 5) ∧ (clsN 141).map (Sum.inr : Nat → Int ⊕ Nat) = some (.inr 5) ∧ (clsN 142).map (Sum.inr : Nat → Int ⊕ Nat) = some (.inr 5) ∧ (clsN 143).map (Sum.inr : Nat → Int ⊕ Nat) = some (.inr 5) ∧ (clsN 144).map (Sum.inr : Nat → Int ⊕ Nat) = some (.inr 5) ∧ (clsN 145).map (Sum.inr : Nat → Int ⊕ Nat) = some (.inr 5) ∧ (clsN 146).map (Sum.inr : Nat → Int ⊕ Nat) = some (.inr 5) ∧ (clsN 147).map (Sum.inr : Nat → Int ⊕ Nat) = some (.inr 5) ∧ (clsN 148).map (Sum.inr : Nat → Int ⊕ Nat) = some (.inr 5) ∧ (clsN 149).map (Sum.inr : Nat → Int ⊕ Nat) = some (.inr 5) ∧ (clsN 150).map (Sum.inr : Nat → Int ⊕ Nat) = some (.inr 5) ∧ (clsN 151).map (Sum.inr : Nat → Int ⊕ Nat) = some (.inr 5) ∧ (clsN 153).map (Sum.inr : Nat → Int ⊕ Nat) = some (.inr 6) ∧ (clsN 154).map (Sum.inr : Nat → Int ⊕ Nat) = some (.inr 6) ∧ (clsN 155).map (Sum.inr : Nat → Int ⊕ Nat) = some (.inr 6) ∧ (clsN 156).map (Sum.inr : Nat → Int ⊕ Nat) = some (.inr 6) ∧ (clsN 157).map (Sum.inr : Nat → Int ⊕ Nat) = some (.inr 6) ∧ (clsN 159).map (Sum.inr : Nat → Int ⊕ Nat) = some (.inr 7) ∧ (clsN 160).map (Sum.inr : Nat → Int ⊕ Nat) = some (.inr 7) ∧ (clsN 161).map (Sum.inr : Nat → Int ⊕ Nat) = some (.inr 7) ∧ (clsN 162).map (Sum.inr : Nat → Int ⊕ Nat) = some (.inr 7) ∧ (clsN 163).map (Sum.inr : Nat → Int ⊕ Nat) = some (.inr 7) ∧ (clsN 164).map (Sum.inr : Nat → Int ⊕ Nat) = some (.inr 7) ∧ (clsN 165).map (Sum.inr : Nat → Int ⊕ Nat) = some (.inr 7) ∧ (clsN 166).map (Sum.inr : Nat → Int ⊕ Nat) = some (.inr 7) ∧ (clsN 167).map (Sum.inr : Nat → Int ⊕ Nat) = some (.inr 7) ∧ (clsN 168).map (Sum.inr : Nat → Int ⊕ Nat) = some (.inr 7) ∧ (clsN 169).map (Sum.inr : Nat → Int ⊕ Nat) = some (.inr 7) ∧ (clsN 170).map (Sum.inr : Nat → Int ⊕ Nat) = some (.inr 7) := ⟨rfl, rfl, rfl, rfl, rfl, rfl, rfl, rfl, rfl, rfl, rfl, rfl, rfl, rfl, rfl, rfl, rfl, rfl, rfl, rfl, rfl, rfl, rfl, rfl, rfl, rfl, rfl, rfl, rfl, rfl, rfl, rfl, rfl, rfl, rfl, rfl, rfl, rfl, rfl, rfl, rfl, rfl, rfl, rfl, rfl, rfl, rfl, rfl, rfl, rfl, rfl, rfl, rfl, rfl, rfl, rfl, rfl, rfl, rfl, rfl, rfl, rfl, rfl, rfl, rfl, rfl, rfl, rfl, rfl, rfl, rfl, rfl, rfl, rfl, rfl, rfl, rfl, rfl, rfl, rfl, rfl, rfl, rfl, rfl, rfl, rfl, rfl, rfl, rfl, rfl, rfl, rfl, rfl, rfl, rfl, rfl, rfl, rfl, rfl, rfl, rfl, rfl, rfl, rfl, rfl, rfl, rfl, rfl, rfl, rfl, rfl, rfl, rfl, rfl, rfl, rfl, rfl, rfl, rfl, rfl, rfl, rfl, rfl, rfl, rfl, rfl, rfl, rfl, rfl, rfl, rfl, rfl, rfl, rfl, rfl, rfl, rfl, rfl, rfl, rfl, rfl, rfl, rfl, rfl, rfl, rfl, rfl, rfl, rfl⟩
theorem st_nq {g : Nat → Int → Int} {q q' : Nat} {i i' v : Int} (h : ¬ (q' = q ∧ i' = i)) : st g q i v q' i' = g q' i' := by unfold st; rw [if_neg h]
