def Iv (c : CS) (m : MS) : Prop := brN c 0 = mI m 1
theorem all_agree : AllA Iv := sorry
theorem inv_start : Iv cs0 ms0 := rfl
