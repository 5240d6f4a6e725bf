theorem of0 {U : SI} {i : Nat} (hi : i < 12) : f_X10_of U (nI i) (0 : Int32) = some (U 79 (13 + 10 * i + 0)) := of_eq hi (by omega) rfl
theorem pu0 {U : SI} {i : Nat} (hi : i < 12) (v : Int32) : f_X10_put U (nI i) (0 : Int32) v = some (up2 U 79 (13 + 10 * i + 0) v) := put_eq hi (by omega) rfl
theorem of1 {U : SI} {i : Nat} (hi : i < 12) : f_X10_of U (nI i) (1 : Int32) = some (U 79 (13 + 10 * i + 1)) := of_eq hi (by omega) rfl
theorem pu1 {U : SI} {i : Nat} (hi : i < 12) (v : Int32) : f_X10_put U (nI i) (1 : Int32) v = some (up2 U 79 (13 + 10 * i + 1) v) := put_eq hi (by omega) rfl
theorem of2 {U : SI} {i : Nat} (hi : i < 12) : f_X10_of U (nI i) (2 : Int32) = some (U 79 (13 + 10 * i + 2)) := of_eq hi (by omega) rfl
theorem pu2 {U : SI} {i : Nat} (hi : i < 12) (v : Int32) : f_X10_put U (nI i) (2 : Int32) v = some (up2 U 79 (13 + 10 * i + 2) v) := put_eq hi (by omega) rfl
theorem of3 {U : SI} {i : Nat} (hi : i < 12) : f_X10_of U (nI i) (3 : Int32) = some (U 79 (13 + 10 * i + 3)) := of_eq hi (by omega) rfl
theorem pu3 {U : SI} {i : Nat} (hi : i < 12) (v : Int32) : f_X10_put U (nI i) (3 : Int32) v = some (up2 U 79 (13 + 10 * i + 3) v) := put_eq hi (by omega) rfl
theorem of4 {U : SI} {i : Nat} (hi : i < 12) : f_X10_of U (nI i) (4 : Int32) = some (U 79 (13 + 10 * i + 4)) := of_eq hi (by omega) rfl
theorem pu4 {U : SI} {i : Nat} (hi : i < 12) (v : Int32) : f_X10_put U (nI i) (4 : Int32) v = some (up2 U 79 (13 + 10 * i + 4) v) := put_eq hi (by omega) rfl
theorem of5 {U : SI} {i : Nat} (hi : i < 12) : f_X10_of U (nI i) (5 : Int32) = some (U 79 (13 + 10 * i + 5)) := of_eq hi (by omega) rfl
theorem pu5 {U : SI} {i : Nat} (hi : i < 12) (v : Int32) : f_X10_put U (nI i) (5 : Int32) v = some (up2 U 79 (13 + 10 * i + 5) v) := put_eq hi (by omega) rfl
theorem of6 {U : SI} {i : Nat} (hi : i < 12) : f_X10_of U (nI i) (6 : Int32) = some (U 79 (13 + 10 * i + 6)) := of_eq hi (by omega) rfl
theorem pu6 {U : SI} {i : Nat} (hi : i < 12) (v : Int32) : f_X10_put U (nI i) (6 : Int32) v = some (up2 U 79 (13 + 10 * i + 6) v) := put_eq hi (by omega) rfl
theorem of7 {U : SI} {i : Nat} (hi : i < 12) : f_X10_of U (nI i) (7 : Int32) = some (U 79 (13 + 10 * i + 7)) := of_eq hi (by omega) rfl
theorem pu7 {U : SI} {i : Nat} (hi : i < 12) (v : Int32) : f_X10_put U (nI i) (7 : Int32) v = some (up2 U 79 (13 + 10 * i + 7) v) := put_eq hi (by omega) rfl
theorem of8 {U : SI} {i : Nat} (hi : i < 12) : f_X10_of U (nI i) (8 : Int32) = some (U 79 (13 + 10 * i + 8)) := of_eq hi (by omega) rfl
theorem pu8 {U : SI} {i : Nat} (hi : i < 12) (v : Int32) : f_X10_put U (nI i) (8 : Int32) v = some (up2 U 79 (13 + 10 * i + 8) v) := put_eq hi (by omega) rfl
theorem of9 {U : SI} {i : Nat} (hi : i < 12) : f_X10_of U (nI i) (9 : Int32) = some (U 79 (13 + 10 * i + 9)) := of_eq hi (by omega) rfl
theorem pu9 {U : SI} {i : Nat} (hi : i < 12) (v : Int32) : f_X10_put U (nI i) (9 : Int32) v = some (up2 U 79 (13 + 10 * i + 9) v) := put_eq hi (by omega) rfl
