def f_X6_type_L36 (x1 : Int64) (x3 : Int32) (x4 : Int32) (c : CS) : Option ((Int32 × CS) ⊕ (CS)) :=
  if x3 ≤ x4 then
    some (.inr c)
  else
    lt (f_X0_add 0 (((jushr x1 (8 * x4)) &&& 255).toInt32) c) fun v_1 =>
    lt (x4 + 1) fun x4_2 =>
    some (.inl (x4_2, v_1))
set_option maxRecDepth 20000 in
theorem w_X6_type_L36 {g : Cx} {mc ms : Nat} {c : CS} {m : MS} {z : Nat → Int64} {x1 : Int64} {x3 : Int32} {x4 : Int32} {s : ((Int32 × CS) ⊕ (CS))}  (hG : Gd g RX6 cX6_type 5 7 mc ms) (h : f_X6_type_L36 x1 x3 x4 c = some s) (hK : Sum.elim (fun a => AW g 36 [(0, .ref (wad (cxw g) 0)), (1, .long x1), (3, .int x3), (4, .int a.1)] [] (a.2, m, z) 0 0) (fun e => AW g 67 [(0, .ref (wad (cxw g) 0))] [] (e, m, z) 0 0) s) : AW g 36 [(0, .ref (wad (cxw g) 0)), (1, .long x1), (3, .int x3), (4, .int x4)] [] (c, m, z) 0 0 := by
  unfold f_X6_type_L36 at h
  refine aw_iload hG 3 rfl dX6_type_36 ?_
  refine aw_iload_n hG 2 rfl dX6_type_38 rfl ?_
  refine aw_icmp_ge (t := 67) hG dX6_type_39 rfl (fun hc => ?_) (fun hc => ?_)
  · replace h := it_p hc h
    obtain rfl := Option.some.inj h
    refine aw_sub (L' := [(0, .ref (wad (cxw g) 0))]) [0] rfl ?_
    exact hK
  · replace h := it_n hc h
    refine aw_aload_n hG 0 rfl dX6_type_42 rfl ?_
    refine gt_ft_text hG l_292 dX6_type_43 ?_
    refine aw_lload_n hG 1 rfl dX6_type_46 rfl ?_
    refine aw_bipush (v := 8) hG dX6_type_47 rfl ?_
    refine aw_iload hG 3 rfl dX6_type_49 ?_
    refine aw_imul hG dX6_type_51 ?_
    refine aw_lushrJ hG dX6_type_52 ?_
    refine aw_ldc2 hG l_298 dX6_type_53 ?_
    refine aw_land hG dX6_type_56 ?_
    refine aw_l2i hG dX6_type_57 ?_
    obtain ⟨v_1, hv_1⟩ : ∃ y, y = f_X0_add 0 (((jushr x1 (8 * x4)) &&& 255).toInt32) c := ⟨_, rfl⟩
    replace h := lt_r hv_1 h
    refine aw_callVv (As := [.int (((jushr x1 (8 * x4)) &&& 255).toInt32)]) (rest := []) hG (c_X0_add (t0 := 0) (x1 := ((jushr x1 (8 * x4)) &&& 255).toInt32) (c := c) (by decide) hv_1.symm) l_299 wv_X0_add (rv_X0 hG (by decide)) rfl rfl rfl (by decide) (Nat.zero_le _) (Nat.zero_le _) (Nat.le_of_ble_eq_true rfl) dX6_type_58 ?_
    obtain ⟨x4_2, hx4_2⟩ : ∃ y : Int32, y = x4 + 1 := ⟨_, rfl⟩
    replace h := lt_r hx4_2 h
    refine aw_iinc (v := x4_2) (L' := [(4, .int x4_2), (0, .ref (wad (cxw g) 0)), (1, .long x1), (3, .int x3)]) hG 3 rfl dX6_type_61 (by rw [hx4_2]; rfl) (by decide) rfl ?_
    refine aw_goto (t := 36) hG dX6_type_64 rfl ?_
    obtain rfl := Option.some.inj h
    refine aw_sub (L' := [(0, .ref (wad (cxw g) 0)), (1, .long x1), (3, .int x3), (4, .int x4_2)]) [1, 2, 3, 0] rfl ?_
    exact hK
noncomputable def f_X6_type (x1 : Int64) (x3 : Int32) (c : CS) : Option (Unit ⊕ (Int32 × CS)) :=
  if x3 < 0 then
    some (.inl ())
  else
    if x3 ≤ 8 then
      if x3 ≤ (f_X0_room 0 c) then
        Option.bind (Lp (fun a => f_X6_type_L36 x1 x3 a.1 a.2) (0, c)) fun e_4 =>
        some (.inr (brN e_4 0, e_4))
      else
        some (.inr ((-1), c))
    else
      some (.inl ())
set_option maxRecDepth 20000 in
theorem w_X6_type {g : Cx} {mc ms : Nat} {c : CS} {m : MS} {z : Nat → Int64} {x1 : Int64} {x3 : Int32} {s : (Unit ⊕ (Int32 × CS))}  (hG : Gd g RX6 cX6_type 5 7 mc ms) (h : f_X6_type x1 x3 c = some s) (hK : Sum.elim (fun _ : Unit => Gd g RX6 cX6_type 5 7 1 6 ∧ FinT g wIA (c, m, z)) (fun s => FinI g cX6_type mc ms s.1 (s.2, m, z)) s) : AW g 0 [(0, .ref (wad (cxw g) 0)), (1, .long x1), (3, .int x3)] [] (c, m, z) 0 0 := by
  unfold f_X6_type at h
  refine aw_iload_n hG 2 rfl dX6_type_0 rfl ?_
  refine aw_if_lt (t := 10) hG dX6_type_1 rfl (fun hc => ?_) (fun hc => ?_)
  · replace h := it_p hc h
    obtain rfl := Option.some.inj h
    exact aw_throwIA (j := 0) hK.1 (by decide) hK.2 rfl dX6_type_10 dX6_type_13 dX6_type_14 dX6_type_16 dX6_type_19
  · replace h := it_n hc h
    refine aw_iload_n hG 2 rfl dX6_type_4 rfl ?_
    refine aw_bipush (v := 8) hG dX6_type_5 rfl ?_
    refine aw_icmp_le (t := 20) hG dX6_type_7 rfl (fun hc => ?_) (fun hc => ?_)
    · replace h := it_p hc h
      refine aw_iload_n hG 2 rfl dX6_type_20 rfl ?_
      refine aw_aload_n hG 0 rfl dX6_type_21 rfl ?_
      refine gt_ft_text hG l_292 dX6_type_22 ?_
      refine aw_callVi (As := []) (rest := [.int x3]) hG (c_X0_room (t0 := 0) (c := c) (by decide)) l_293 wv_X0_room (rv_X0 hG (by decide)) rfl rfl rfl (by decide) (Nat.zero_le _) (Nat.zero_le _) (Nat.le_of_ble_eq_true rfl) dX6_type_25 ?_
      refine aw_icmp_le (t := 33) hG dX6_type_28 rfl (fun hc => ?_) (fun hc => ?_)
      · replace h := it_p hc h
        refine aw_iconst (v := 0) hG dX6_type_33 rfl ?_
        refine aw_istore (L' := [(4, .int 0), (0, .ref (wad (cxw g) 0)), (1, .long x1), (3, .int x3)]) hG dX6_type_34 (by decide) rfl ?_
        obtain ⟨e_4, he, h⟩ := bd_o h
        refine aw_sub (L' := [(0, .ref (wad (cxw g) 0)), (1, .long x1), (3, .int x3), (4, .int 0)]) [1, 2, 3, 0] rfl ?_
        refine Lp_w (F := (fun a => f_X6_type_L36 x1 x3 a.1 a.2)) (S := (fun a => AW g 36 [(0, .ref (wad (cxw g) 0)), (1, .long x1), (3, .int x3), (4, .int a.1)] [] (a.2, m, z) 0 0)) (E := (fun e => AW g 67 [(0, .ref (wad (cxw g) 0))] [] (e, m, z) 0 0)) (a := (0, c)) he (fun a s h hK => w_X6_type_L36 (x1 := x1) (x3 := x3) (x4 := a.1) (c := a.2) hG h hK) ?_
        show AW g 67 _ _ _ 0 0
        refine aw_aload_n hG 0 rfl dX6_type_67 rfl ?_
        refine gt_ft_text hG l_292 dX6_type_68 ?_
        refine gt_brN hG (by decide) l_300 dX6_type_71 ?_
        obtain rfl := Option.some.inj h
        exact FinI.z hK dX6_type_74
      · replace h := it_n hc h
        refine aw_iconst (v := (-1)) hG dX6_type_31 rfl ?_
        obtain rfl := Option.some.inj h
        exact FinI.z hK dX6_type_32
    · replace h := it_n hc h
      obtain rfl := Option.some.inj h
      exact aw_throwIA (j := 0) hK.1 (by decide) hK.2 rfl dX6_type_10 dX6_type_13 dX6_type_14 dX6_type_16 dX6_type_19
theorem c_X6_type {c : CS} {m : MS} {z : Nat → Int64} {x1 : Int64} {x3 : Int32} {s : Int32 × CS}  (h : f_X6_type x1 x3 c = some (.inr s)) : Ct yX6_type cX6_type 5 (some .int) 7 (fun w => [.ref (wad w 0), .long x1, .int x3]) (c, m, z) (fun _ => some (.int s.1)) (s.2, m, z) := Ct_ofI (by decide +kernel) (fun _ => Nat.le_of_ble_eq_true rfl) (fun g hG hK => w_X6_type hG h hK)
theorem ct_X6_type {c : CS} {m : MS} {z : Nat → Int64} {x1 : Int64} {x3 : Int32}  (h : f_X6_type x1 x3 c = some (.inl ())) : CtT yX6_type cX6_type 5 (some .int) 7 (fun w => [.ref (wad w 0), .long x1, .int x3]) (c, m, z) wIA := CtT_of (by decide +kernel) (fun _ => Nat.le_of_ble_eq_true rfl) (fun g hG hK => w_X6_type hG h ⟨hG, hK⟩)
def f_X6_pass_L21 (x1 : Int32) (c : CS) : Option ((Int32 × CS) ⊕ (CS)) :=
  if (brN c 1) ≤ x1 then
    some (.inr c)
  else
    lt (f_X0_add 0 (f_X0_at 1 x1 c) c) fun v_1 =>
    lt (x1 + 1) fun x1_2 =>
    some (.inl (x1_2, v_1))
set_option maxRecDepth 20000 in
theorem w_X6_pass_L21 {g : Cx} {mc ms : Nat} {c : CS} {m : MS} {z : Nat → Int64} {x1 : Int32} {s : ((Int32 × CS) ⊕ (CS))}  (hG : Gd g RX6 cX6_pass 2 2 mc ms) (h : f_X6_pass_L21 x1 c = some s) (hK : Sum.elim (fun a => AW g 21 [(0, .ref (wad (cxw g) 0)), (1, .int a.1)] [] (a.2, m, z) 0 0) (fun e => AW g 53 [(0, .ref (wad (cxw g) 0))] [] (e, m, z) 0 0) s) : AW g 21 [(0, .ref (wad (cxw g) 0)), (1, .int x1)] [] (c, m, z) 0 0 := by
  unfold f_X6_pass_L21 at h
  refine aw_iload_n hG 1 rfl dX6_pass_21 rfl ?_
  refine aw_aload_n hG 0 rfl dX6_pass_22 rfl ?_
  refine gt_ft_made hG l_301 dX6_pass_23 ?_
  refine gt_brN hG (by decide) l_300 dX6_pass_26 ?_
  refine aw_icmp_ge (t := 53) hG dX6_pass_29 rfl (fun hc => ?_) (fun hc => ?_)
  · replace h := it_p hc h
    obtain rfl := Option.some.inj h
    refine aw_sub (L' := [(0, .ref (wad (cxw g) 0))]) [0] rfl ?_
    exact hK
  · replace h := it_n hc h
    refine aw_aload_n hG 0 rfl dX6_pass_32 rfl ?_
    refine gt_ft_text hG l_292 dX6_pass_33 ?_
    refine aw_aload_n hG 0 rfl dX6_pass_36 rfl ?_
    refine gt_ft_made hG l_301 dX6_pass_37 ?_
    refine aw_iload_n hG 1 rfl dX6_pass_40 rfl ?_
    refine aw_callVi (As := [.int x1]) (rest := [.ref (wad (cxw g) (1 + 2 * 0))]) hG (c_X0_at (t0 := 1) (x1 := x1) (c := c) (by decide)) l_302 wv_X0_at (rv_X0 hG (by decide)) rfl rfl rfl (by decide) (Nat.zero_le _) (Nat.zero_le _) (Nat.le_of_ble_eq_true rfl) dX6_pass_41 ?_
    obtain ⟨v_1, hv_1⟩ : ∃ y, y = f_X0_add 0 (f_X0_at 1 x1 c) c := ⟨_, rfl⟩
    replace h := lt_r hv_1 h
    refine aw_callVv (As := [.int (f_X0_at 1 x1 c)]) (rest := []) hG (c_X0_add (t0 := 0) (x1 := f_X0_at 1 x1 c) (c := c) (by decide) hv_1.symm) l_299 wv_X0_add (rv_X0 hG (by decide)) rfl rfl rfl (by decide) (Nat.zero_le _) (Nat.zero_le _) (Nat.le_of_ble_eq_true rfl) dX6_pass_44 ?_
    obtain ⟨x1_2, hx1_2⟩ : ∃ y : Int32, y = x1 + 1 := ⟨_, rfl⟩
    replace h := lt_r hx1_2 h
    refine aw_iinc (v := x1_2) (L' := [(1, .int x1_2), (0, .ref (wad (cxw g) 0))]) hG 1 rfl dX6_pass_47 (by rw [hx1_2]; rfl) (by decide) rfl ?_
    refine aw_goto (t := 21) hG dX6_pass_50 rfl ?_
    obtain rfl := Option.some.inj h
    refine aw_sub (L' := [(0, .ref (wad (cxw g) 0)), (1, .int x1_2)]) [1, 0] rfl ?_
    exact hK
noncomputable def f_X6_pass (c : CS) : Option (Int32 × CS) :=
  if (brN c 1) ≤ (f_X0_room 0 c) then
    Option.bind (Lp (fun a => f_X6_pass_L21 a.1 a.2) (0, c)) fun e_4 =>
    some (brN e_4 0, e_4)
  else
    some ((-1), c)
set_option maxRecDepth 20000 in
theorem w_X6_pass {g : Cx} {mc ms : Nat} {c : CS} {m : MS} {z : Nat → Int64}  {s : (Int32 × CS)}  (hG : Gd g RX6 cX6_pass 2 2 mc ms) (h : f_X6_pass c = some s) (hK : FinI g cX6_pass mc ms s.1 (s.2, m, z)) : AW g 0 [(0, .ref (wad (cxw g) 0))] [] (c, m, z) 0 0 := by
  unfold f_X6_pass at h
  refine aw_aload_n hG 0 rfl dX6_pass_0 rfl ?_
  refine gt_ft_made hG l_301 dX6_pass_1 ?_
  refine gt_brN hG (by decide) l_300 dX6_pass_4 ?_
  refine aw_aload_n hG 0 rfl dX6_pass_7 rfl ?_
  refine gt_ft_text hG l_292 dX6_pass_8 ?_
  refine aw_callVi (As := []) (rest := [.int (brN c 1)]) hG (c_X0_room (t0 := 0) (c := c) (by decide)) l_293 wv_X0_room (rv_X0 hG (by decide)) rfl rfl rfl (by decide) (Nat.zero_le _) (Nat.zero_le _) (Nat.le_of_ble_eq_true rfl) dX6_pass_11 ?_
  refine aw_icmp_le (t := 19) hG dX6_pass_14 rfl (fun hc => ?_) (fun hc => ?_)
  · replace h := it_p hc h
    refine aw_iconst (v := 0) hG dX6_pass_19 rfl ?_
    refine aw_istore_n (L' := [(1, .int 0), (0, .ref (wad (cxw g) 0))]) hG dX6_pass_20 rfl (by decide) rfl ?_
    obtain ⟨e_4, he, h⟩ := bd_o h
    refine aw_sub (L' := [(0, .ref (wad (cxw g) 0)), (1, .int 0)]) [1, 0] rfl ?_
    refine Lp_w (F := (fun a => f_X6_pass_L21 a.1 a.2)) (S := (fun a => AW g 21 [(0, .ref (wad (cxw g) 0)), (1, .int a.1)] [] (a.2, m, z) 0 0)) (E := (fun e => AW g 53 [(0, .ref (wad (cxw g) 0))] [] (e, m, z) 0 0)) (a := (0, c)) he (fun a s h hK => w_X6_pass_L21 (x1 := a.1) (c := a.2) hG h hK) ?_
    show AW g 53 _ _ _ 0 0
    refine aw_aload_n hG 0 rfl dX6_pass_53 rfl ?_
    refine gt_ft_text hG l_292 dX6_pass_54 ?_
    refine gt_brN hG (by decide) l_300 dX6_pass_57 ?_
    obtain rfl := Option.some.inj h
    exact FinI.z hK dX6_pass_60
  · replace h := it_n hc h
    refine aw_iconst (v := (-1)) hG dX6_pass_17 rfl ?_
    obtain rfl := Option.some.inj h
    exact FinI.z hK dX6_pass_18
theorem c_X6_pass {c : CS} {m : MS} {z : Nat → Int64}  {s : Int32 × CS}  (h : f_X6_pass c = some s) : Ct yX6_pass cX6_pass 2 (some .int) 2 (fun w => [.ref (wad w 0)]) (c, m, z) (fun _ => some (.int s.1)) (s.2, m, z) := Ct_ofI (by decide +kernel) (fun _ => Nat.le_of_ble_eq_true rfl) (fun g hG hK => w_X6_pass hG h hK)
def f_X6_clear (c : CS) : Int32 × CS :=
  lt (brN c 0) fun x1_1 =>
  lt (sbrN c 0 0) fun c_2 =>
  (x1_1, c_2)
set_option maxRecDepth 20000 in
theorem w_X6_clear {g : Cx} {mc ms : Nat} {c : CS} {m : MS} {z : Nat → Int64}  {s : Int32 × CS}  (hG : Gd g RX6 cX6_clear 2 1 mc ms) (h : f_X6_clear c = s) (hK : FinI g cX6_clear mc ms s.1 (s.2, m, z)) : AW g 0 [(0, .ref (wad (cxw g) 0))] [] (c, m, z) 0 0 := by
  unfold f_X6_clear at h
  refine aw_aload_n hG 0 rfl dX6_clear_0 rfl ?_
  refine gt_ft_text hG l_292 dX6_clear_1 ?_
  refine gt_brN hG (by decide) l_300 dX6_clear_4 ?_
  refine aw_topi (fun x1_1 hx1_1 => ?_)
  replace h := lt_r hx1_1 h
  refine aw_istore_n (L' := [(1, .int x1_1), (0, .ref (wad (cxw g) 0))]) hG dX6_clear_7 rfl (by decide) rfl ?_
  refine aw_aload_n hG 1 rfl dX6_clear_8 rfl ?_
  refine gt_ft_text hG l_292 dX6_clear_9 ?_
  refine aw_iconst (v := 0) hG dX6_clear_12 rfl ?_
  refine pt_brN hG (by decide) l_300 dX6_clear_13 ?_
  refine aw_stc (fun c_2 hc_2 => ?_)
  replace h := lt_r hc_2 h
  refine aw_iload_n hG 0 rfl dX6_clear_16 rfl ?_
  subst h
  exact FinI.z hK dX6_clear_17
theorem c_X6_clear {c : CS} {m : MS} {z : Nat → Int64}  {s : Int32 × CS}  (h : f_X6_clear c = s) : Ct yX6_clear cX6_clear 2 (some .int) 1 (fun w => [.ref (wad w 0)]) (c, m, z) (fun _ => some (.int s.1)) (s.2, m, z) := Ct_ofI (by decide +kernel) (fun _ => Nat.le_of_ble_eq_true rfl) (fun g hG hK => w_X6_clear hG h hK)
def f_X6_keepResult (c : CS) : Int64 × CS :=
  lt (srsP c (rdP c)) fun c_1 =>
  lt (srsF c_1 (rdF c_1)) fun c_2 =>
  (rsP c_2, c_2)
set_option maxRecDepth 20000 in
theorem w_X6_keepResult {g : Cx} {mc ms : Nat} {c : CS} {m : MS} {z : Nat → Int64}  {s : Int64 × CS}  (hG : Gd g RX6 cX6_keepResult 1 1 mc ms) (h : f_X6_keepResult c = s) (hK : FinJ g cX6_keepResult mc ms s.1 (s.2, m, z)) : AW g 0 [(0, .ref (wad (cxw g) 0))] [] (c, m, z) 0 0 := by
  unfold f_X6_keepResult at h
  refine aw_aload_n hG 0 rfl dX6_keepResult_0 rfl ?_
  refine aw_aload_n hG 0 rfl dX6_keepResult_1 rfl ?_
  refine gt_ft_rounding hG l_303 dX6_keepResult_2 ?_
  refine gt_rdP hG l_304 dX6_keepResult_5 ?_
  refine pt_rsP hG l_305 dX6_keepResult_8 ?_
  refine aw_stc (fun c_1 hc_1 => ?_)
  replace h := lt_r hc_1 h
  refine aw_aload_n hG 0 rfl dX6_keepResult_11 rfl ?_
  refine aw_aload_n hG 0 rfl dX6_keepResult_12 rfl ?_
  refine gt_ft_rounding hG l_303 dX6_keepResult_13 ?_
  refine gt_rdF hG l_306 dX6_keepResult_16 ?_
  refine pt_rsF hG l_307 dX6_keepResult_19 ?_
  refine aw_stc (fun c_2 hc_2 => ?_)
  replace h := lt_r hc_2 h
  refine aw_aload_n hG 0 rfl dX6_keepResult_22 rfl ?_
  refine gt_rsP hG l_305 dX6_keepResult_23 ?_
  subst h
  exact FinJ.z hK dX6_keepResult_26
theorem c_X6_keepResult {c : CS} {m : MS} {z : Nat → Int64}  {s : Int64 × CS}  (h : f_X6_keepResult c = s) : Ct yX6_keepResult cX6_keepResult 1 (some .long) 1 (fun w => [.ref (wad w 0)]) (c, m, z) (fun _ => some (.long s.1)) (s.2, m, z) := Ct_ofJ (by decide +kernel) (fun _ => Nat.le_of_ble_eq_true rfl) (fun g hG hK => w_X6_keepResult hG h hK)
def f_X6_needWay (x0 : Int32) : Option (Unit ⊕ Unit) :=
  if x0 < 0 then
    some (.inl ())
  else
    if x0 ≤ 4 then
      some (.inr ())
    else
      some (.inl ())
set_option maxRecDepth 20000 in
theorem w_X6_needWay {g : Cx} {mc ms : Nat} {c : CS} {m : MS} {z : Nat → Int64} {x0 : Int32} {s : (Unit ⊕ Unit)}  (hG : Gd g RX6 cX6_needWay 1 7 mc ms) (h : f_X6_needWay x0 = some s) (hK : Sum.elim (fun _ : Unit => Gd g RX6 cX6_needWay 1 7 1 6 ∧ FinT g wIA (c, m, z)) (fun s => FinV g cX6_needWay mc ms (c, m, z)) s) : AW g 0 [(0, .int x0)] [] (c, m, z) 0 0 := by
  unfold f_X6_needWay at h
  refine aw_iload_n hG 0 rfl dX6_needWay_0 rfl ?_
  refine aw_if_lt (t := 9) hG dX6_needWay_1 rfl (fun hc => ?_) (fun hc => ?_)
  · replace h := it_p hc h
    obtain rfl := Option.some.inj h
    exact aw_throwIAW (j := 2) hK.1 (by decide) hK.2 rfl dX6_needWay_9 dX6_needWay_12 dX6_needWay_13 dX6_needWay_16 dX6_needWay_19
  · replace h := it_n hc h
    refine aw_iload_n hG 0 rfl dX6_needWay_4 rfl ?_
    refine aw_iconst (v := 4) hG dX6_needWay_5 rfl ?_
    refine aw_icmp_le (t := 20) hG dX6_needWay_6 rfl (fun hc => ?_) (fun hc => ?_)
    · replace h := it_p hc h
      obtain rfl := Option.some.inj h
      exact FinV.z hK dX6_needWay_20
    · replace h := it_n hc h
      obtain rfl := Option.some.inj h
      exact aw_throwIAW (j := 2) hK.1 (by decide) hK.2 rfl dX6_needWay_9 dX6_needWay_12 dX6_needWay_13 dX6_needWay_16 dX6_needWay_19
theorem c_X6_needWay {c : CS} {m : MS} {z : Nat → Int64} {x0 : Int32} {s : Unit}  (h : f_X6_needWay x0 = some (.inr s)) : Ct yX6_needWay cX6_needWay 1 none 7 (fun w => [.int x0]) (c, m, z) (fun _ => none) (c, m, z) := Ct_ofV (by decide +kernel) (fun _ => Nat.le_of_ble_eq_true rfl) (fun g hG hK => w_X6_needWay hG h hK)
theorem ct_X6_needWay {c : CS} {m : MS} {z : Nat → Int64} {x0 : Int32}  (h : f_X6_needWay x0 = some (.inl ())) : CtT yX6_needWay cX6_needWay 1 none 7 (fun w => [.int x0]) (c, m, z) wIA := CtT_of (by decide +kernel) (fun _ => Nat.le_of_ble_eq_true rfl) (fun g hG hK => w_X6_needWay hG h ⟨hG, hK⟩)
noncomputable def f_X6_roundRow (r1 : Nat) (f2 : Nat) (x3 : Int32) (x4 : Int32) (c : CS) : Option CS :=
  Option.bind (f_X4_point r1 c) fun v_1 =>
  lt (61 - (f_X4_bitsOfTens v_1)) fun x5_2 =>
  Option.bind (f_X4_scale r1 x5_2 c) fun v_3 =>
  Option.bind (f_X3_round f2 x3 (f_X4_whole r1 v_3) ((-x5_2).toInt64) (f_X4_hasMore r1 v_3) x4 v_3) fun v_4 =>
  some v_4
set_option maxRecDepth 20000 in
theorem w_X6_roundRow {g : Cx} {mc ms : Nat} {c : CS} {m : MS} {z : Nat → Int64} {r1 : Nat} {f2 : Nat} {x3 : Int32} {x4 : Int32} {s : CS} (hr1 : r1 < 4) (hf2 : f2 < 4) (hG : Gd g RX6 cX6_roundRow 6 5 mc ms) (h : f_X6_roundRow r1 f2 x3 x4 c = some s) (hK : FinV g cX6_roundRow mc ms (s, m, z)) : AW g 0 [(0, .ref (wad (cxw g) 0)), (1, .ref (wad (cxw g) (9 + 2 * r1))), (2, .ref (wad (cxw g) (30 + f2))), (3, .int x3), (4, .int x4)] [] (c, m, z) 0 0 := by
  unfold f_X6_roundRow at h
  refine aw_bipush (v := 61) hG dX6_roundRow_0 rfl ?_
  refine aw_aload_n hG 1 rfl dX6_roundRow_2 rfl ?_
  obtain ⟨v_1, hv_1, h⟩ := bd_o h
  refine aw_callVi (As := []) (rest := [.int 61]) hG (c_X4_point (r0 := r1) (c := c) hr1 hv_1) l_308 wv_X4_point (rv_X4 hG hr1) rfl rfl rfl (by decide) (Nat.zero_le _) (Nat.zero_le _) (Nat.le_of_ble_eq_true rfl) dX6_roundRow_3 ?_
  refine aw_callSi (As := [.int v_1]) (rest := [.int 61]) hG (c_X4_bitsOfTens (x0 := v_1) (c := c) ) l_309 ws_X4_bitsOfTens rfl rfl rfl (by decide) (Nat.zero_le _) (Nat.zero_le _) (Nat.le_of_ble_eq_true rfl) dX6_roundRow_6 ?_
  refine aw_isub hG dX6_roundRow_9 ?_
  refine aw_topi (fun x5_2 hx5_2 => ?_)
  replace h := lt_r hx5_2 h
  refine aw_istore (L' := [(5, .int x5_2), (0, .ref (wad (cxw g) 0)), (1, .ref (wad (cxw g) (9 + 2 * r1))), (2, .ref (wad (cxw g) (30 + f2))), (3, .int x3), (4, .int x4)]) hG dX6_roundRow_10 (by decide) rfl ?_
  refine aw_aload_n hG 2 rfl dX6_roundRow_12 rfl ?_
  refine aw_iload hG 0 rfl dX6_roundRow_13 ?_
  obtain ⟨v_3, hv_3, h⟩ := bd_o h
  refine aw_callVv (As := [.int x5_2]) (rest := []) hG (c_X4_scale (r0 := r1) (x1 := x5_2) (c := c) hr1 hv_3) l_313 wv_X4_scale (rv_X4 hG hr1) rfl rfl rfl (by decide) (Nat.zero_le _) (Nat.zero_le _) (Nat.le_of_ble_eq_true rfl) dX6_roundRow_15 ?_
  refine aw_aload_n hG 1 rfl dX6_roundRow_18 rfl ?_
  refine gt_ft_rounding hG l_303 dX6_roundRow_19 ?_
  refine aw_aload_n hG 3 rfl dX6_roundRow_22 rfl ?_
  refine aw_iload_n hG 4 rfl dX6_roundRow_23 rfl ?_
  refine aw_aload_n hG 2 rfl dX6_roundRow_24 rfl ?_
  refine aw_callVl (As := []) (rest := [.int x3, .ref (wad (cxw g) (30 + f2)), .ref (wad (cxw g) 8)]) hG (c_X4_whole (r0 := r1) (c := v_3) hr1) l_318 wv_X4_whole (rv_X4 hG hr1) rfl rfl rfl (by decide) (Nat.zero_le _) (Nat.zero_le _) (Nat.le_of_ble_eq_true rfl) dX6_roundRow_25 ?_
  refine aw_iload hG 0 rfl dX6_roundRow_28 ?_
  refine aw_ineg hG dX6_roundRow_30 ?_
  refine aw_i2l hG dX6_roundRow_31 ?_
  refine aw_aload_n hG 2 rfl dX6_roundRow_32 rfl ?_
  refine aw_callVi (As := []) (rest := [.long ((-x5_2).toInt64), .long (f_X4_whole r1 v_3), .int x3, .ref (wad (cxw g) (30 + f2)), .ref (wad (cxw g) 8)]) hG (c_X4_hasMore (r0 := r1) (c := v_3) hr1) l_323 wv_X4_hasMore (rv_X4 hG hr1) rfl rfl rfl (by decide) (Nat.zero_le _) (Nat.zero_le _) (Nat.le_of_ble_eq_true rfl) dX6_roundRow_33 ?_
  refine aw_iload hG 5 rfl dX6_roundRow_36 ?_
  obtain ⟨v_4, hv_4, h⟩ := bd_o h
  refine aw_callVv (As := [.ref (wad (cxw g) (30 + f2)), .int x3, .long (f_X4_whole r1 v_3), .long ((-x5_2).toInt64), .int (f_X4_hasMore r1 v_3), .int x4]) (rest := []) hG (c_X3_round (f1 := f2) (x2 := x3) (x3 := f_X4_whole r1 v_3) (x5 := (-x5_2).toInt64) (x7 := f_X4_hasMore r1 v_3) (x8 := x4) (c := v_3) hf2 hv_4) l_328 wv_X3_round (rv_X3 hG) rfl rfl rfl (by decide) (Nat.zero_le _) (Nat.zero_le _) (Nat.le_of_ble_eq_true rfl) dX6_roundRow_38 ?_
  obtain rfl := Option.some.inj h
  exact FinV.z hK dX6_roundRow_41
theorem c_X6_roundRow {c : CS} {m : MS} {z : Nat → Int64} {r1 : Nat} {f2 : Nat} {x3 : Int32} {x4 : Int32} {s : CS} (hr1 : r1 < 4) (hf2 : f2 < 4) (h : f_X6_roundRow r1 f2 x3 x4 c = some s) : Ct yX6_roundRow cX6_roundRow 6 none 5 (fun w => [.ref (wad w 0), .ref (wad w (9 + 2 * r1)), .ref (wad w (30 + f2)), .int x3, .int x4]) (c, m, z) (fun _ => none) (s, m, z) := Ct_ofV (by decide +kernel) (fun _ => Nat.le_of_ble_eq_true rfl) (fun g hG hK => w_X6_roundRow hr1 hf2 hG h hK)
noncomputable def f_X6_roundedFar (f1 : Nat) (x2 : Int32) (x3 : Int32) (x4 : Int32) (c : CS) : Option (Int32 × CS) :=
  if x3 ≤ 310 then
    if (-330) ≤ x3 then
      some (0, c)
    else
      Option.bind (f_X3_round f1 x2 1 (-2000) 1 x4 c) fun v_1 =>
      some (1, v_1)
  else
    Option.bind (f_X3_round f1 x2 1 2000 1 x4 c) fun v_3 =>
    some (1, v_3)
set_option maxRecDepth 20000 in
theorem w_X6_roundedFar {g : Cx} {mc ms : Nat} {c : CS} {m : MS} {z : Nat → Int64} {f1 : Nat} {x2 : Int32} {x3 : Int32} {x4 : Int32} {s : (Int32 × CS)} (hf1 : f1 < 4) (hG : Gd g RX6 cX6_roundedFar 5 5 mc ms) (h : f_X6_roundedFar f1 x2 x3 x4 c = some s) (hK : FinZ g cX6_roundedFar mc ms s.1 (s.2, m, z)) : AW g 0 [(0, .ref (wad (cxw g) 0)), (1, .ref (wad (cxw g) (30 + f1))), (2, .int x2), (3, .int x3), (4, .int x4)] [] (c, m, z) 0 0 := by
  unfold f_X6_roundedFar at h
  refine aw_iload_n hG 3 rfl dX6_roundedFar_0 rfl ?_
  refine aw_sipush (v := 310) hG dX6_roundedFar_1 rfl ?_
  refine aw_icmp_le (t := 25) hG dX6_roundedFar_4 rfl (fun hc => ?_) (fun hc => ?_)
  · replace h := it_p hc h
    refine aw_iload_n hG 3 rfl dX6_roundedFar_25 rfl ?_
    refine aw_sipush (v := (-330)) hG dX6_roundedFar_26 rfl ?_
    refine aw_icmp_ge (t := 50) hG dX6_roundedFar_29 rfl (fun hc => ?_) (fun hc => ?_)
    · replace h := it_p hc h
      refine aw_iconst (v := 0) hG dX6_roundedFar_50 rfl ?_
      obtain rfl := Option.some.inj h
      exact FinZ.z hK (Or.inl rfl) dX6_roundedFar_51
    · replace h := it_n hc h
      refine aw_aload_n hG 0 rfl dX6_roundedFar_32 rfl ?_
      refine gt_ft_rounding hG l_303 dX6_roundedFar_33 ?_
      refine aw_aload_n hG 1 rfl dX6_roundedFar_36 rfl ?_
      refine aw_iload_n hG 2 rfl dX6_roundedFar_37 rfl ?_
      refine aw_lconst (v := 1) hG dX6_roundedFar_38 rfl ?_
      refine aw_ldc2 hG l_333 dX6_roundedFar_39 ?_
      refine aw_iconst (v := 1) hG dX6_roundedFar_42 rfl ?_
      refine aw_iload hG 4 rfl dX6_roundedFar_43 ?_
      obtain ⟨v_1, hv_1, h⟩ := bd_o h
      refine aw_callVv (As := [.ref (wad (cxw g) (30 + f1)), .int x2, .long 1, .long (-2000), .int 1, .int x4]) (rest := []) hG (c_X3_round (f1 := f1) (x2 := x2) (x3 := 1) (x5 := (-2000)) (x7 := 1) (x8 := x4) (c := c) hf1 hv_1) l_328 wv_X3_round (rv_X3 hG) rfl rfl rfl (by decide) (Nat.zero_le _) (Nat.zero_le _) (Nat.le_of_ble_eq_true rfl) dX6_roundedFar_45 ?_
      refine aw_iconst (v := 1) hG dX6_roundedFar_48 rfl ?_
      obtain rfl := Option.some.inj h
      exact FinZ.z hK (Or.inr rfl) dX6_roundedFar_49
  · replace h := it_n hc h
    refine aw_aload_n hG 0 rfl dX6_roundedFar_7 rfl ?_
    refine gt_ft_rounding hG l_303 dX6_roundedFar_8 ?_
    refine aw_aload_n hG 1 rfl dX6_roundedFar_11 rfl ?_
    refine aw_iload_n hG 2 rfl dX6_roundedFar_12 rfl ?_
    refine aw_lconst (v := 1) hG dX6_roundedFar_13 rfl ?_
    refine aw_ldc2 hG l_334 dX6_roundedFar_14 ?_
    refine aw_iconst (v := 1) hG dX6_roundedFar_17 rfl ?_
    refine aw_iload hG 4 rfl dX6_roundedFar_18 ?_
    obtain ⟨v_3, hv_3, h⟩ := bd_o h
    refine aw_callVv (As := [.ref (wad (cxw g) (30 + f1)), .int x2, .long 1, .long 2000, .int 1, .int x4]) (rest := []) hG (c_X3_round (f1 := f1) (x2 := x2) (x3 := 1) (x5 := 2000) (x7 := 1) (x8 := x4) (c := c) hf1 hv_3) l_328 wv_X3_round (rv_X3 hG) rfl rfl rfl (by decide) (Nat.zero_le _) (Nat.zero_le _) (Nat.le_of_ble_eq_true rfl) dX6_roundedFar_20 ?_
    refine aw_iconst (v := 1) hG dX6_roundedFar_23 rfl ?_
    obtain rfl := Option.some.inj h
    exact FinZ.z hK (Or.inr rfl) dX6_roundedFar_24
theorem c_X6_roundedFar {c : CS} {m : MS} {z : Nat → Int64} {f1 : Nat} {x2 : Int32} {x3 : Int32} {x4 : Int32} {s : Int32 × CS} (hf1 : f1 < 4) (h : f_X6_roundedFar f1 x2 x3 x4 c = some s) : Ct yX6_roundedFar cX6_roundedFar 5 (some .boolean) 5 (fun w => [.ref (wad w 0), .ref (wad w (30 + f1)), .int x2, .int x3, .int x4]) (c, m, z) (fun _ => some (.int s.1)) (s.2, m, z) := Ct_ofZ (by decide +kernel) (fun _ => Nat.le_of_ble_eq_true rfl) (fun g hG hK => w_X6_roundedFar hf1 hG h hK)
noncomputable def f_X6_roundDecimal (f1 : Nat) (x2 : Int32) (c : CS) : Option CS :=
  lt ((sc4 c) + (sc6 c)) fun x3_1 =>
  Option.bind (f_X6_roundedFar f1 (sc1 c) (x3_1 - (sc5 c)) x2 c) fun v_2 =>
  if v_2.1 = 0 then
    Option.bind (f_X4_setDigits 0 0 (sc2 v_2.2) (sc3 v_2.2) (x3_1 - 1) v_2.2) fun v_3 =>
    Option.bind (f_X6_roundRow 0 f1 (sc1 v_3) x2 v_3) fun v_4 =>
    some v_4
  else
    some v_2.2
set_option maxRecDepth 20000 in
theorem w_X6_roundDecimal {g : Cx} {mc ms : Nat} {c : CS} {m : MS} {z : Nat → Int64} {f1 : Nat} {x2 : Int32} {s : CS} (hf1 : f1 < 4) (hG : Gd g RX6 cX6_roundDecimal 4 6 mc ms) (h : f_X6_roundDecimal f1 x2 c = some s) (hK : FinV g cX6_roundDecimal mc ms (s, m, z)) : AW g 0 [(0, .ref (wad (cxw g) 0)), (1, .ref (wad (cxw g) (30 + f1))), (2, .int x2)] [] (c, m, z) 0 0 := by
  unfold f_X6_roundDecimal at h
  refine aw_aload_n hG 0 rfl dX6_roundDecimal_0 rfl ?_
  refine gt_ft_scan hG l_335 dX6_roundDecimal_1 ?_
  refine gt_sc4 hG l_336 dX6_roundDecimal_4 ?_
  refine aw_aload_n hG 0 rfl dX6_roundDecimal_7 rfl ?_
  refine gt_ft_scan hG l_335 dX6_roundDecimal_8 ?_
  refine gt_sc6 hG l_337 dX6_roundDecimal_11 ?_
  refine aw_iadd hG dX6_roundDecimal_14 ?_
  refine aw_topi (fun x3_1 hx3_1 => ?_)
  replace h := lt_r hx3_1 h
  refine aw_istore_n (L' := [(3, .int x3_1), (0, .ref (wad (cxw g) 0)), (1, .ref (wad (cxw g) (30 + f1))), (2, .int x2)]) hG dX6_roundDecimal_15 rfl (by decide) rfl ?_
  refine aw_aload_n hG 1 rfl dX6_roundDecimal_16 rfl ?_
  refine aw_aload_n hG 2 rfl dX6_roundDecimal_17 rfl ?_
  refine aw_aload_n hG 1 rfl dX6_roundDecimal_18 rfl ?_
  refine gt_ft_scan hG l_335 dX6_roundDecimal_19 ?_
  refine gt_sc1 hG l_338 dX6_roundDecimal_22 ?_
  refine aw_iload_n hG 0 rfl dX6_roundDecimal_25 rfl ?_
  refine aw_aload_n hG 1 rfl dX6_roundDecimal_26 rfl ?_
  refine gt_ft_scan hG l_335 dX6_roundDecimal_27 ?_
  refine gt_sc5 hG l_339 dX6_roundDecimal_30 ?_
  refine aw_isub hG dX6_roundDecimal_33 ?_
  refine aw_iload_n hG 3 rfl dX6_roundDecimal_34 rfl ?_
  obtain ⟨v_2, hv_2, h⟩ := bd_o h
  refine aw_callVi (As := [.ref (wad (cxw g) (30 + f1)), .int (sc1 c), .int (x3_1 - (sc5 c)), .int x2]) (rest := []) hG (c_X6_roundedFar (f1 := f1) (x2 := sc1 c) (x3 := x3_1 - (sc5 c)) (x4 := x2) (c := c) hf1 hv_2) l_340 wv_X6_roundedFar (rv_X6 hG) rfl rfl rfl (by decide) (Nat.zero_le _) (Nat.zero_le _) (Nat.le_of_ble_eq_true rfl) dX6_roundDecimal_35 ?_
  refine aw_if_eq (t := 42) hG dX6_roundDecimal_38 rfl (fun hc => ?_) (fun hc => ?_)
  · replace h := it_p hc h
    refine aw_aload_n hG 1 rfl dX6_roundDecimal_42 rfl ?_
    refine gt_ft_number hG l_345 dX6_roundDecimal_43 ?_
    refine aw_aload_n hG 1 rfl dX6_roundDecimal_46 rfl ?_
    refine gt_ft_text hG l_292 dX6_roundDecimal_47 ?_
    refine aw_aload_n hG 1 rfl dX6_roundDecimal_50 rfl ?_
    refine gt_ft_scan hG l_335 dX6_roundDecimal_51 ?_
    refine gt_sc2 hG l_346 dX6_roundDecimal_54 ?_
    refine aw_aload_n hG 1 rfl dX6_roundDecimal_57 rfl ?_
    refine gt_ft_scan hG l_335 dX6_roundDecimal_58 ?_
    refine gt_sc3 hG l_347 dX6_roundDecimal_61 ?_
    refine aw_iload_n hG 0 rfl dX6_roundDecimal_64 rfl ?_
    refine aw_iconst (v := 1) hG dX6_roundDecimal_65 rfl ?_
    refine aw_isub hG dX6_roundDecimal_66 ?_
    obtain ⟨v_3, hv_3, h⟩ := bd_o h
    refine aw_callVv (As := [.ref (wad (cxw g) (1 + 2 * 0)), .int (sc2 v_2.2), .int (sc3 v_2.2), .int (x3_1 - 1)]) (rest := []) hG (c_X4_setDigits (r0 := 0) (t1 := 0) (x2 := sc2 v_2.2) (x3 := sc3 v_2.2) (x4 := x3_1 - 1) (c := v_2.2) (by decide) (by decide) hv_3) l_348 wv_X4_setDigits (rv_X4 hG (by decide)) rfl rfl rfl (by decide) (Nat.zero_le _) (Nat.zero_le _) (Nat.le_of_ble_eq_true rfl) dX6_roundDecimal_67 ?_
    refine aw_aload_n hG 1 rfl dX6_roundDecimal_70 rfl ?_
    refine aw_aload_n hG 1 rfl dX6_roundDecimal_71 rfl ?_
    refine gt_ft_number hG l_345 dX6_roundDecimal_72 ?_
    refine aw_aload_n hG 2 rfl dX6_roundDecimal_75 rfl ?_
    refine aw_aload_n hG 1 rfl dX6_roundDecimal_76 rfl ?_
    refine gt_ft_scan hG l_335 dX6_roundDecimal_77 ?_
    refine gt_sc1 hG l_338 dX6_roundDecimal_80 ?_
    refine aw_iload_n hG 3 rfl dX6_roundDecimal_83 rfl ?_
    obtain ⟨v_4, hv_4, h⟩ := bd_o h
    refine aw_callVv (As := [.ref (wad (cxw g) (9 + 2 * 0)), .ref (wad (cxw g) (30 + f1)), .int (sc1 v_3), .int x2]) (rest := []) hG (c_X6_roundRow (r1 := 0) (f2 := f1) (x3 := sc1 v_3) (x4 := x2) (c := v_3) (by decide) hf1 hv_4) l_353 wv_X6_roundRow (rv_X6 hG) rfl rfl rfl (by decide) (Nat.zero_le _) (Nat.zero_le _) (Nat.le_of_ble_eq_true rfl) dX6_roundDecimal_84 ?_
    obtain rfl := Option.some.inj h
    exact FinV.z hK dX6_roundDecimal_87
  · replace h := it_n hc h
    obtain rfl := Option.some.inj h
    exact FinV.z hK dX6_roundDecimal_41
theorem c_X6_roundDecimal {c : CS} {m : MS} {z : Nat → Int64} {f1 : Nat} {x2 : Int32} {s : CS} (hf1 : f1 < 4) (h : f_X6_roundDecimal f1 x2 c = some s) : Ct yX6_roundDecimal cX6_roundDecimal 4 none 6 (fun w => [.ref (wad w 0), .ref (wad w (30 + f1)), .int x2]) (c, m, z) (fun _ => none) (s, m, z) := Ct_ofV (by decide +kernel) (fun _ => Nat.le_of_ble_eq_true rfl) (fun g hG hK => w_X6_roundDecimal hf1 hG h hK)
def f_X6_roundHexadecimal_L33 (f1 : Nat) (x2 : Int32) (x3 : Int64) (x5 : Int32) (x6 : Int32) (x7 : Int32) (c : CS) : Option ((Int64 × Int32 × Int32 × Int32) ⊕ ((Int64 × Int32 × Int32))) :=
  if (sc3 c) ≤ x7 then
    some (.inr (x3, x5, x6))
  else
    lt (f_X5_valueOf (f_X0_at 0 x7 c)) fun x8_3 =>
    if 0 ≤ x8_3 then
      if (jushr x3 56) = 0 then
        lt ((x3 * 16) + x8_3.toInt64) fun x3_7 =>
        lt (x6 + (-4)) fun x6_8 =>
        lt (x7 + 1) fun x7_9 =>
        some (.inl (x3_7, x5, x6_8, x7_9))
      else
        if x8_3 = 0 then
          lt (x7 + 1) fun x7_4 =>
          some (.inl (x3, x5, x6, x7_4))
        else
          lt (x7 + 1) fun x7_5 =>
          some (.inl (x3, 1, x6, x7_5))
    else
      lt (x7 + 1) fun x7_11 =>
      some (.inl (x3, x5, x6, x7_11))
set_option maxRecDepth 20000 in
theorem w_X6_roundHexadecimal_L33 {g : Cx} {mc ms : Nat} {c : CS} {m : MS} {z : Nat → Int64} {f1 : Nat} {x2 : Int32} {x3 : Int64} {x5 : Int32} {x6 : Int32} {x7 : Int32} {s : ((Int64 × Int32 × Int32 × Int32) ⊕ ((Int64 × Int32 × Int32)))} (hf1 : f1 < 4) (hG : Gd g RX6 cX6_roundHexadecimal 9 5 mc ms) (h : f_X6_roundHexadecimal_L33 f1 x2 x3 x5 x6 x7 c = some s) (hK : Sum.elim (fun a => AW g 33 [(0, .ref (wad (cxw g) 0)), (1, .ref (wad (cxw g) (30 + f1))), (2, .int x2), (3, .long a.1), (5, .int a.2.1), (6, .int a.2.2.1), (7, .int a.2.2.2)] [] (c, m, z) 0 0) (fun e => AW g 106 [(0, .ref (wad (cxw g) 0)), (1, .ref (wad (cxw g) (30 + f1))), (2, .int x2), (3, .long e.1), (5, .int e.2.1), (6, .int e.2.2)] [] (c, m, z) 0 0) s) : AW g 33 [(0, .ref (wad (cxw g) 0)), (1, .ref (wad (cxw g) (30 + f1))), (2, .int x2), (3, .long x3), (5, .int x5), (6, .int x6), (7, .int x7)] [] (c, m, z) 0 0 := by
  unfold f_X6_roundHexadecimal_L33 at h
  refine aw_iload hG 6 rfl dX6_roundHexadecimal_33 ?_
  refine aw_aload_n hG 0 rfl dX6_roundHexadecimal_35 rfl ?_
  refine gt_ft_scan hG l_335 dX6_roundHexadecimal_36 ?_
  refine gt_sc3 hG l_347 dX6_roundHexadecimal_39 ?_
  refine aw_icmp_ge (t := 106) hG dX6_roundHexadecimal_42 rfl (fun hc => ?_) (fun hc => ?_)
  · replace h := it_p hc h
    obtain rfl := Option.some.inj h
    refine aw_sub (L' := [(0, .ref (wad (cxw g) 0)), (1, .ref (wad (cxw g) (30 + f1))), (2, .int x2), (3, .long x3), (5, .int x5), (6, .int x6)]) [0, 1, 2, 3, 4, 5] rfl ?_
    exact hK
  · replace h := it_n hc h
    refine aw_aload_n hG 0 rfl dX6_roundHexadecimal_45 rfl ?_
    refine gt_ft_text hG l_292 dX6_roundHexadecimal_46 ?_
    refine aw_iload hG 6 rfl dX6_roundHexadecimal_49 ?_
    refine aw_callVi (As := [.int x7]) (rest := []) hG (c_X0_at (t0 := 0) (x1 := x7) (c := c) (by decide)) l_302 wv_X0_at (rv_X0 hG (by decide)) rfl rfl rfl (by decide) (Nat.zero_le _) (Nat.zero_le _) (Nat.le_of_ble_eq_true rfl) dX6_roundHexadecimal_51 ?_
    refine aw_callSi (As := [.int (f_X0_at 0 x7 c)]) (rest := []) hG (c_X5_valueOf (x0 := f_X0_at 0 x7 c) (c := c) ) l_358 ws_X5_valueOf rfl rfl rfl (by decide) (Nat.zero_le _) (Nat.zero_le _) (Nat.le_of_ble_eq_true rfl) dX6_roundHexadecimal_54 ?_
    refine aw_topi (fun x8_3 hx8_3 => ?_)
    replace h := lt_r hx8_3 h
    refine aw_istore (L' := [(8, .int x8_3), (0, .ref (wad (cxw g) 0)), (1, .ref (wad (cxw g) (30 + f1))), (2, .int x2), (3, .long x3), (5, .int x5), (6, .int x6), (7, .int x7)]) hG dX6_roundHexadecimal_57 (by decide) rfl ?_
    refine aw_iload hG 0 rfl dX6_roundHexadecimal_59 ?_
    refine aw_if_ge (t := 67) hG dX6_roundHexadecimal_61 rfl (fun hc => ?_) (fun hc => ?_)
    · replace h := it_p hc h
      refine aw_lload_n hG 4 rfl dX6_roundHexadecimal_67 rfl ?_
      refine aw_bipush (v := 56) hG dX6_roundHexadecimal_68 rfl ?_
      refine aw_lushrJ hG dX6_roundHexadecimal_70 ?_
      refine aw_lconst (v := 0) hG dX6_roundHexadecimal_71 rfl ?_
      refine aw_lc_ne (t := 92) hG dX6_roundHexadecimal_72 rfl dX6_roundHexadecimal_73 rfl rfl (fun hc => ?_) (fun hc => ?_)
      · replace h := it_n hc h
        refine aw_iload hG 0 rfl dX6_roundHexadecimal_92 ?_
        refine aw_if_eq (t := 100) hG dX6_roundHexadecimal_94 rfl (fun hc => ?_) (fun hc => ?_)
        · replace h := it_p hc h
          obtain ⟨x7_4, hx7_4⟩ : ∃ y : Int32, y = x7 + 1 := ⟨_, rfl⟩
          replace h := lt_r hx7_4 h
          refine aw_iinc (v := x7_4) (L' := [(7, .int x7_4), (8, .int x8_3), (0, .ref (wad (cxw g) 0)), (1, .ref (wad (cxw g) (30 + f1))), (2, .int x2), (3, .long x3), (5, .int x5), (6, .int x6)]) hG 7 rfl dX6_roundHexadecimal_100 (by rw [hx7_4]; rfl) (by decide) rfl ?_
          refine aw_goto (t := 33) hG dX6_roundHexadecimal_103 rfl ?_
          obtain rfl := Option.some.inj h
          refine aw_sub (L' := [(0, .ref (wad (cxw g) 0)), (1, .ref (wad (cxw g) (30 + f1))), (2, .int x2), (3, .long x3), (5, .int x5), (6, .int x6), (7, .int x7_4)]) [2, 3, 4, 5, 6, 7, 0] rfl ?_
          exact hK
        · replace h := it_n hc h
          refine aw_iconst (v := 1) hG dX6_roundHexadecimal_97 rfl ?_
          refine aw_istore (L' := [(5, .int 1), (8, .int x8_3), (0, .ref (wad (cxw g) 0)), (1, .ref (wad (cxw g) (30 + f1))), (2, .int x2), (3, .long x3), (6, .int x6), (7, .int x7)]) hG dX6_roundHexadecimal_98 (by decide) rfl ?_
          obtain ⟨x7_5, hx7_5⟩ : ∃ y : Int32, y = x7 + 1 := ⟨_, rfl⟩
          replace h := lt_r hx7_5 h
          refine aw_iinc (v := x7_5) (L' := [(7, .int x7_5), (5, .int 1), (8, .int x8_3), (0, .ref (wad (cxw g) 0)), (1, .ref (wad (cxw g) (30 + f1))), (2, .int x2), (3, .long x3), (6, .int x6)]) hG 7 rfl dX6_roundHexadecimal_100 (by rw [hx7_5]; rfl) (by decide) rfl ?_
          refine aw_goto (t := 33) hG dX6_roundHexadecimal_103 rfl ?_
          obtain rfl := Option.some.inj h
          refine aw_sub (L' := [(0, .ref (wad (cxw g) 0)), (1, .ref (wad (cxw g) (30 + f1))), (2, .int x2), (3, .long x3), (5, .int 1), (6, .int x6), (7, .int x7_5)]) [3, 4, 5, 6, 1, 7, 0] rfl ?_
          exact hK
      · replace h := it_p hc h
        refine aw_lload_n hG 4 rfl dX6_roundHexadecimal_76 rfl ?_
        refine aw_ldc2 hG l_359 dX6_roundHexadecimal_77 ?_
        refine aw_lmul hG dX6_roundHexadecimal_80 ?_
        refine aw_iload hG 0 rfl dX6_roundHexadecimal_81 ?_
        refine aw_i2l hG dX6_roundHexadecimal_83 ?_
        refine aw_ladd hG dX6_roundHexadecimal_84 ?_
        refine aw_topl (fun x3_7 hx3_7 => ?_)
        replace h := lt_r hx3_7 h
        refine aw_lstore_n (L' := [(3, .long x3_7), (8, .int x8_3), (0, .ref (wad (cxw g) 0)), (1, .ref (wad (cxw g) (30 + f1))), (2, .int x2), (5, .int x5), (6, .int x6), (7, .int x7)]) hG dX6_roundHexadecimal_85 rfl (by decide) rfl ?_
        obtain ⟨x6_8, hx6_8⟩ : ∃ y : Int32, y = x6 + (-4) := ⟨_, rfl⟩
        replace h := lt_r hx6_8 h
        refine aw_iinc (v := x6_8) (L' := [(6, .int x6_8), (3, .long x3_7), (8, .int x8_3), (0, .ref (wad (cxw g) 0)), (1, .ref (wad (cxw g) (30 + f1))), (2, .int x2), (5, .int x5), (7, .int x7)]) hG 6 rfl dX6_roundHexadecimal_86 (by rw [hx6_8]; rfl) (by decide) rfl ?_
        refine aw_goto (t := 100) hG dX6_roundHexadecimal_89 rfl ?_
        obtain ⟨x7_9, hx7_9⟩ : ∃ y : Int32, y = x7 + 1 := ⟨_, rfl⟩
        replace h := lt_r hx7_9 h
        refine aw_iinc (v := x7_9) (L' := [(7, .int x7_9), (6, .int x6_8), (3, .long x3_7), (8, .int x8_3), (0, .ref (wad (cxw g) 0)), (1, .ref (wad (cxw g) (30 + f1))), (2, .int x2), (5, .int x5)]) hG 7 rfl dX6_roundHexadecimal_100 (by rw [hx7_9]; rfl) (by decide) rfl ?_
        refine aw_goto (t := 33) hG dX6_roundHexadecimal_103 rfl ?_
        obtain rfl := Option.some.inj h
        refine aw_sub (L' := [(0, .ref (wad (cxw g) 0)), (1, .ref (wad (cxw g) (30 + f1))), (2, .int x2), (3, .long x3_7), (5, .int x5), (6, .int x6_8), (7, .int x7_9)]) [4, 5, 6, 2, 7, 1, 0] rfl ?_
        exact hK
    · replace h := it_n hc h
      refine aw_goto (t := 100) hG dX6_roundHexadecimal_64 rfl ?_
      obtain ⟨x7_11, hx7_11⟩ : ∃ y : Int32, y = x7 + 1 := ⟨_, rfl⟩
      replace h := lt_r hx7_11 h
      refine aw_iinc (v := x7_11) (L' := [(7, .int x7_11), (8, .int x8_3), (0, .ref (wad (cxw g) 0)), (1, .ref (wad (cxw g) (30 + f1))), (2, .int x2), (3, .long x3), (5, .int x5), (6, .int x6)]) hG 7 rfl dX6_roundHexadecimal_100 (by rw [hx7_11]; rfl) (by decide) rfl ?_
      refine aw_goto (t := 33) hG dX6_roundHexadecimal_103 rfl ?_
      obtain rfl := Option.some.inj h
      refine aw_sub (L' := [(0, .ref (wad (cxw g) 0)), (1, .ref (wad (cxw g) (30 + f1))), (2, .int x2), (3, .long x3), (5, .int x5), (6, .int x6), (7, .int x7_11)]) [2, 3, 4, 5, 6, 7, 0] rfl ?_
      exact hK
noncomputable def f_X6_roundHexadecimal (f1 : Nat) (x2 : Int32) (c : CS) : Option CS :=
  lt ((sc6 c) + (4 * (sc4 c))) fun x6_1 =>
  lt (sc2 c) fun x7_2 =>
  Option.bind (Lp (fun a => f_X6_roundHexadecimal_L33 f1 x2 a.1 a.2.1 a.2.2.1 a.2.2.2 c) (0, 0, x6_1, x7_2)) fun e_14 =>
  Option.bind (f_X3_round f1 (sc1 c) e_14.1 e_14.2.2.toInt64 e_14.2.1 x2 c) fun v_15 =>
  some v_15
set_option maxRecDepth 20000 in
theorem w_X6_roundHexadecimal {g : Cx} {mc ms : Nat} {c : CS} {m : MS} {z : Nat → Int64} {f1 : Nat} {x2 : Int32} {s : CS} (hf1 : f1 < 4) (hG : Gd g RX6 cX6_roundHexadecimal 9 5 mc ms) (h : f_X6_roundHexadecimal f1 x2 c = some s) (hK : FinV g cX6_roundHexadecimal mc ms (s, m, z)) : AW g 0 [(0, .ref (wad (cxw g) 0)), (1, .ref (wad (cxw g) (30 + f1))), (2, .int x2)] [] (c, m, z) 0 0 := by
  unfold f_X6_roundHexadecimal at h
  refine aw_lconst (v := 0) hG dX6_roundHexadecimal_0 rfl ?_
  refine aw_lstore_n (L' := [(3, .long 0), (0, .ref (wad (cxw g) 0)), (1, .ref (wad (cxw g) (30 + f1))), (2, .int x2)]) hG dX6_roundHexadecimal_1 rfl (by decide) rfl ?_
  refine aw_iconst (v := 0) hG dX6_roundHexadecimal_2 rfl ?_
  refine aw_istore (L' := [(5, .int 0), (3, .long 0), (0, .ref (wad (cxw g) 0)), (1, .ref (wad (cxw g) (30 + f1))), (2, .int x2)]) hG dX6_roundHexadecimal_3 (by decide) rfl ?_
  refine aw_aload_n hG 2 rfl dX6_roundHexadecimal_5 rfl ?_
  refine gt_ft_scan hG l_335 dX6_roundHexadecimal_6 ?_
  refine gt_sc6 hG l_337 dX6_roundHexadecimal_9 ?_
  refine aw_iconst (v := 4) hG dX6_roundHexadecimal_12 rfl ?_
  refine aw_aload_n hG 2 rfl dX6_roundHexadecimal_13 rfl ?_
  refine gt_ft_scan hG l_335 dX6_roundHexadecimal_14 ?_
  refine gt_sc4 hG l_336 dX6_roundHexadecimal_17 ?_
  refine aw_imul hG dX6_roundHexadecimal_20 ?_
  refine aw_iadd hG dX6_roundHexadecimal_21 ?_
  refine aw_topi (fun x6_1 hx6_1 => ?_)
  replace h := lt_r hx6_1 h
  refine aw_istore (L' := [(6, .int x6_1), (5, .int 0), (3, .long 0), (0, .ref (wad (cxw g) 0)), (1, .ref (wad (cxw g) (30 + f1))), (2, .int x2)]) hG dX6_roundHexadecimal_22 (by decide) rfl ?_
  refine aw_aload_n hG 3 rfl dX6_roundHexadecimal_24 rfl ?_
  refine gt_ft_scan hG l_335 dX6_roundHexadecimal_25 ?_
  refine gt_sc2 hG l_346 dX6_roundHexadecimal_28 ?_
  refine aw_topi (fun x7_2 hx7_2 => ?_)
  replace h := lt_r hx7_2 h
  refine aw_istore (L' := [(7, .int x7_2), (6, .int x6_1), (5, .int 0), (3, .long 0), (0, .ref (wad (cxw g) 0)), (1, .ref (wad (cxw g) (30 + f1))), (2, .int x2)]) hG dX6_roundHexadecimal_31 (by decide) rfl ?_
  obtain ⟨e_14, he, h⟩ := bd_o h
  refine aw_sub (L' := [(0, .ref (wad (cxw g) 0)), (1, .ref (wad (cxw g) (30 + f1))), (2, .int x2), (3, .long 0), (5, .int 0), (6, .int x6_1), (7, .int x7_2)]) [4, 5, 6, 3, 2, 1, 0] rfl ?_
  refine Lp_w (F := (fun a => f_X6_roundHexadecimal_L33 f1 x2 a.1 a.2.1 a.2.2.1 a.2.2.2 c)) (S := (fun a => AW g 33 [(0, .ref (wad (cxw g) 0)), (1, .ref (wad (cxw g) (30 + f1))), (2, .int x2), (3, .long a.1), (5, .int a.2.1), (6, .int a.2.2.1), (7, .int a.2.2.2)] [] (c, m, z) 0 0)) (E := (fun e => AW g 106 [(0, .ref (wad (cxw g) 0)), (1, .ref (wad (cxw g) (30 + f1))), (2, .int x2), (3, .long e.1), (5, .int e.2.1), (6, .int e.2.2)] [] (c, m, z) 0 0)) (a := (0, 0, x6_1, x7_2)) he (fun a s h hK => w_X6_roundHexadecimal_L33 (f1 := f1) (x2 := x2) (x3 := a.1) (x5 := a.2.1) (x6 := a.2.2.1) (x7 := a.2.2.2) (c := c) hf1 hG h hK) ?_
  show AW g 106 _ _ _ 0 0
  refine aw_aload_n hG 0 rfl dX6_roundHexadecimal_106 rfl ?_
  refine gt_ft_rounding hG l_303 dX6_roundHexadecimal_107 ?_
  refine aw_aload_n hG 1 rfl dX6_roundHexadecimal_110 rfl ?_
  refine aw_aload_n hG 0 rfl dX6_roundHexadecimal_111 rfl ?_
  refine gt_ft_scan hG l_335 dX6_roundHexadecimal_112 ?_
  refine gt_sc1 hG l_338 dX6_roundHexadecimal_115 ?_
  refine aw_lload_n hG 3 rfl dX6_roundHexadecimal_118 rfl ?_
  refine aw_iload hG 5 rfl dX6_roundHexadecimal_119 ?_
  refine aw_i2l hG dX6_roundHexadecimal_121 ?_
  refine aw_iload hG 4 rfl dX6_roundHexadecimal_122 ?_
  refine aw_iload_n hG 2 rfl dX6_roundHexadecimal_124 rfl ?_
  obtain ⟨v_15, hv_15, h⟩ := bd_o h
  refine aw_callVv (As := [.ref (wad (cxw g) (30 + f1)), .int (sc1 c), .long e_14.1, .long e_14.2.2.toInt64, .int e_14.2.1, .int x2]) (rest := []) hG (c_X3_round (f1 := f1) (x2 := sc1 c) (x3 := e_14.1) (x5 := e_14.2.2.toInt64) (x7 := e_14.2.1) (x8 := x2) (c := c) hf1 hv_15) l_328 wv_X3_round (rv_X3 hG) rfl rfl rfl (by decide) (Nat.zero_le _) (Nat.zero_le _) (Nat.le_of_ble_eq_true rfl) dX6_roundHexadecimal_125 ?_
  obtain rfl := Option.some.inj h
  exact FinV.z hK dX6_roundHexadecimal_128
theorem c_X6_roundHexadecimal {c : CS} {m : MS} {z : Nat → Int64} {f1 : Nat} {x2 : Int32} {s : CS} (hf1 : f1 < 4) (h : f_X6_roundHexadecimal f1 x2 c = some s) : Ct yX6_roundHexadecimal cX6_roundHexadecimal 9 none 5 (fun w => [.ref (wad w 0), .ref (wad w (30 + f1)), .int x2]) (c, m, z) (fun _ => none) (s, m, z) := Ct_ofV (by decide +kernel) (fun _ => Nat.le_of_ble_eq_true rfl) (fun g hG hK => w_X6_roundHexadecimal hf1 hG h hK)
noncomputable def f_X6_roundScanned (f1 : Nat) (x2 : Int32) (c : CS) : Option CS :=
  if (sc0 c) = 2 then
    lt (f_X3_become (f_X2_signed f1 (sc1 c) (f_X2_infinite f1)) c) fun v_8 =>
    some v_8
  else
    if (sc0 c) = 3 then
      lt (f_X3_become (f_X2_signed f1 (sc1 c) (f_X2_nanWith f1 0)) c) fun v_6 =>
      some v_6
    else
      if (f_X5_isZero c) = 0 then
        if (sc0 c) = 1 then
          Option.bind (f_X6_roundHexadecimal f1 x2 c) fun v_2 =>
          some v_2
        else
          Option.bind (f_X6_roundDecimal f1 x2 c) fun v_1 =>
          some v_1
      else
        lt (f_X3_become (f_X2_signed f1 (sc1 c) 0) c) fun v_4 =>
        some v_4
set_option maxRecDepth 20000 in
theorem w_X6_roundScanned {g : Cx} {mc ms : Nat} {c : CS} {m : MS} {z : Nat → Int64} {f1 : Nat} {x2 : Int32} {s : CS} (hf1 : f1 < 4) (hG : Gd g RX6 cX6_roundScanned 3 7 mc ms) (h : f_X6_roundScanned f1 x2 c = some s) (hK : FinV g cX6_roundScanned mc ms (s, m, z)) : AW g 0 [(0, .ref (wad (cxw g) 0)), (1, .ref (wad (cxw g) (30 + f1))), (2, .int x2)] [] (c, m, z) 0 0 := by
  unfold f_X6_roundScanned at h
  refine aw_aload_n hG 0 rfl dX6_roundScanned_0 rfl ?_
  refine gt_ft_scan hG l_335 dX6_roundScanned_1 ?_
  refine gt_sc0 hG l_360 dX6_roundScanned_4 ?_
  refine aw_iconst (v := 2) hG dX6_roundScanned_7 rfl ?_
  refine aw_icmp_ne (t := 36) hG dX6_roundScanned_8 rfl (fun hc => ?_) (fun hc => ?_)
  · replace h := it_n hc h
    refine aw_aload_n hG 0 rfl dX6_roundScanned_36 rfl ?_
    refine gt_ft_scan hG l_335 dX6_roundScanned_37 ?_
    refine gt_sc0 hG l_360 dX6_roundScanned_40 ?_
    refine aw_iconst (v := 3) hG dX6_roundScanned_43 rfl ?_
    refine aw_icmp_ne (t := 73) hG dX6_roundScanned_44 rfl (fun hc => ?_) (fun hc => ?_)
    · replace h := it_n hc h
      refine aw_aload_n hG 0 rfl dX6_roundScanned_73 rfl ?_
      refine gt_ft_scan hG l_335 dX6_roundScanned_74 ?_
      refine aw_callVi (As := []) (rest := []) hG (c_X5_isZero (c := c) ) l_361 wv_X5_isZero (rv_X5 hG) rfl rfl rfl (by decide) (Nat.zero_le _) (Nat.zero_le _) (Nat.le_of_ble_eq_true rfl) dX6_roundScanned_77 ?_
      refine aw_if_eq (t := 105) hG dX6_roundScanned_80 rfl (fun hc => ?_) (fun hc => ?_)
      · replace h := it_p hc h
        refine aw_aload_n hG 0 rfl dX6_roundScanned_105 rfl ?_
        refine gt_ft_scan hG l_335 dX6_roundScanned_106 ?_
        refine gt_sc0 hG l_360 dX6_roundScanned_109 ?_
        refine aw_iconst (v := 1) hG dX6_roundScanned_112 rfl ?_
        refine aw_icmp_ne (t := 125) hG dX6_roundScanned_113 rfl (fun hc => ?_) (fun hc => ?_)
        · replace h := it_n hc h
          refine aw_aload_n hG 0 rfl dX6_roundScanned_125 rfl ?_
          refine aw_aload_n hG 1 rfl dX6_roundScanned_126 rfl ?_
          refine aw_iload_n hG 2 rfl dX6_roundScanned_127 rfl ?_
          obtain ⟨v_1, hv_1, h⟩ := bd_o h
          refine aw_callVv (As := [.ref (wad (cxw g) (30 + f1)), .int x2]) (rest := []) hG (c_X6_roundDecimal (f1 := f1) (x2 := x2) (c := c) hf1 hv_1) l_366 wv_X6_roundDecimal (rv_X6 hG) rfl rfl rfl (by decide) (Nat.zero_le _) (Nat.zero_le _) (Nat.le_of_ble_eq_true rfl) dX6_roundScanned_128 ?_
          obtain rfl := Option.some.inj h
          exact FinV.z hK dX6_roundScanned_131
        · replace h := it_p hc h
          refine aw_aload_n hG 0 rfl dX6_roundScanned_116 rfl ?_
          refine aw_aload_n hG 1 rfl dX6_roundScanned_117 rfl ?_
          refine aw_iload_n hG 2 rfl dX6_roundScanned_118 rfl ?_
          obtain ⟨v_2, hv_2, h⟩ := bd_o h
          refine aw_callVv (As := [.ref (wad (cxw g) (30 + f1)), .int x2]) (rest := []) hG (c_X6_roundHexadecimal (f1 := f1) (x2 := x2) (c := c) hf1 hv_2) l_371 wv_X6_roundHexadecimal (rv_X6 hG) rfl rfl rfl (by decide) (Nat.zero_le _) (Nat.zero_le _) (Nat.le_of_ble_eq_true rfl) dX6_roundScanned_119 ?_
          refine aw_goto (t := 131) hG dX6_roundScanned_122 rfl ?_
          obtain rfl := Option.some.inj h
          exact FinV.z hK dX6_roundScanned_131
      · replace h := it_n hc h
        refine aw_aload_n hG 0 rfl dX6_roundScanned_83 rfl ?_
        refine gt_ft_rounding hG l_303 dX6_roundScanned_84 ?_
        refine aw_aload_n hG 1 rfl dX6_roundScanned_87 rfl ?_
        refine aw_aload_n hG 0 rfl dX6_roundScanned_88 rfl ?_
        refine gt_ft_scan hG l_335 dX6_roundScanned_89 ?_
        refine gt_sc1 hG l_338 dX6_roundScanned_92 ?_
        refine aw_lconst (v := 0) hG dX6_roundScanned_95 rfl ?_
        refine aw_callNl (As := [.int (sc1 c), .long 0]) (rest := [.ref (wad (cxw g) 8)]) hG (c_X2_signed (f0 := f1) (x1 := sc1 c) (x2 := 0) (c := c) hf1) l_376 wf_X2_signed (rv_X2 hG hf1) rfl rfl rfl (by decide) (Nat.zero_le _) (Nat.zero_le _) (Nat.le_of_ble_eq_true rfl) dX6_roundScanned_96 ?_
        obtain ⟨v_4, hv_4⟩ : ∃ y, y = f_X3_become (f_X2_signed f1 (sc1 c) 0) c := ⟨_, rfl⟩
        replace h := lt_r hv_4 h
        refine aw_callVv (As := [.long (f_X2_signed f1 (sc1 c) 0)]) (rest := []) hG (c_X3_become (x1 := f_X2_signed f1 (sc1 c) 0) (c := c)  hv_4.symm) l_377 wv_X3_become (rv_X3 hG) rfl rfl rfl (by decide) (Nat.zero_le _) (Nat.zero_le _) (Nat.le_of_ble_eq_true rfl) dX6_roundScanned_99 ?_
        refine aw_goto (t := 131) hG dX6_roundScanned_102 rfl ?_
        obtain rfl := Option.some.inj h
        exact FinV.z hK dX6_roundScanned_131
    · replace h := it_p hc h
      refine aw_aload_n hG 0 rfl dX6_roundScanned_47 rfl ?_
      refine gt_ft_rounding hG l_303 dX6_roundScanned_48 ?_
      refine aw_aload_n hG 1 rfl dX6_roundScanned_51 rfl ?_
      refine aw_aload_n hG 0 rfl dX6_roundScanned_52 rfl ?_
      refine gt_ft_scan hG l_335 dX6_roundScanned_53 ?_
      refine gt_sc1 hG l_338 dX6_roundScanned_56 ?_
      refine aw_aload_n hG 1 rfl dX6_roundScanned_59 rfl ?_
      refine aw_lconst (v := 0) hG dX6_roundScanned_60 rfl ?_
      refine aw_callNl (As := [.long 0]) (rest := [.int (sc1 c), .ref (wad (cxw g) (30 + f1)), .ref (wad (cxw g) 8)]) hG (c_X2_nanWith (f0 := f1) (x1 := 0) (c := c) hf1) l_382 wf_X2_nanWith (rv_X2 hG hf1) rfl rfl rfl (by decide) (Nat.zero_le _) (Nat.zero_le _) (Nat.le_of_ble_eq_true rfl) dX6_roundScanned_61 ?_
      refine aw_callNl (As := [.int (sc1 c), .long (f_X2_nanWith f1 0)]) (rest := [.ref (wad (cxw g) 8)]) hG (c_X2_signed (f0 := f1) (x1 := sc1 c) (x2 := f_X2_nanWith f1 0) (c := c) hf1) l_376 wf_X2_signed (rv_X2 hG hf1) rfl rfl rfl (by decide) (Nat.zero_le _) (Nat.zero_le _) (Nat.le_of_ble_eq_true rfl) dX6_roundScanned_64 ?_
      obtain ⟨v_6, hv_6⟩ : ∃ y, y = f_X3_become (f_X2_signed f1 (sc1 c) (f_X2_nanWith f1 0)) c := ⟨_, rfl⟩
      replace h := lt_r hv_6 h
      refine aw_callVv (As := [.long (f_X2_signed f1 (sc1 c) (f_X2_nanWith f1 0))]) (rest := []) hG (c_X3_become (x1 := f_X2_signed f1 (sc1 c) (f_X2_nanWith f1 0)) (c := c)  hv_6.symm) l_377 wv_X3_become (rv_X3 hG) rfl rfl rfl (by decide) (Nat.zero_le _) (Nat.zero_le _) (Nat.le_of_ble_eq_true rfl) dX6_roundScanned_67 ?_
      refine aw_goto (t := 131) hG dX6_roundScanned_70 rfl ?_
      obtain rfl := Option.some.inj h
      exact FinV.z hK dX6_roundScanned_131
  · replace h := it_p hc h
    refine aw_aload_n hG 0 rfl dX6_roundScanned_11 rfl ?_
    refine gt_ft_rounding hG l_303 dX6_roundScanned_12 ?_
    refine aw_aload_n hG 1 rfl dX6_roundScanned_15 rfl ?_
    refine aw_aload_n hG 0 rfl dX6_roundScanned_16 rfl ?_
    refine gt_ft_scan hG l_335 dX6_roundScanned_17 ?_
    refine gt_sc1 hG l_338 dX6_roundScanned_20 ?_
    refine aw_aload_n hG 1 rfl dX6_roundScanned_23 rfl ?_
    refine aw_callNl (As := []) (rest := [.int (sc1 c), .ref (wad (cxw g) (30 + f1)), .ref (wad (cxw g) 8)]) hG (c_X2_infinite (f0 := f1) (c := c) hf1) l_386 wf_X2_infinite (rv_X2 hG hf1) rfl rfl rfl (by decide) (Nat.zero_le _) (Nat.zero_le _) (Nat.le_of_ble_eq_true rfl) dX6_roundScanned_24 ?_
    refine aw_callNl (As := [.int (sc1 c), .long (f_X2_infinite f1)]) (rest := [.ref (wad (cxw g) 8)]) hG (c_X2_signed (f0 := f1) (x1 := sc1 c) (x2 := f_X2_infinite f1) (c := c) hf1) l_376 wf_X2_signed (rv_X2 hG hf1) rfl rfl rfl (by decide) (Nat.zero_le _) (Nat.zero_le _) (Nat.le_of_ble_eq_true rfl) dX6_roundScanned_27 ?_
    obtain ⟨v_8, hv_8⟩ : ∃ y, y = f_X3_become (f_X2_signed f1 (sc1 c) (f_X2_infinite f1)) c := ⟨_, rfl⟩
    replace h := lt_r hv_8 h
    refine aw_callVv (As := [.long (f_X2_signed f1 (sc1 c) (f_X2_infinite f1))]) (rest := []) hG (c_X3_become (x1 := f_X2_signed f1 (sc1 c) (f_X2_infinite f1)) (c := c)  hv_8.symm) l_377 wv_X3_become (rv_X3 hG) rfl rfl rfl (by decide) (Nat.zero_le _) (Nat.zero_le _) (Nat.le_of_ble_eq_true rfl) dX6_roundScanned_30 ?_
    refine aw_goto (t := 131) hG dX6_roundScanned_33 rfl ?_
    obtain rfl := Option.some.inj h
    exact FinV.z hK dX6_roundScanned_131
theorem c_X6_roundScanned {c : CS} {m : MS} {z : Nat → Int64} {f1 : Nat} {x2 : Int32} {s : CS} (hf1 : f1 < 4) (h : f_X6_roundScanned f1 x2 c = some s) : Ct yX6_roundScanned cX6_roundScanned 3 none 7 (fun w => [.ref (wad w 0), .ref (wad w (30 + f1)), .int x2]) (c, m, z) (fun _ => none) (s, m, z) := Ct_ofV (by decide +kernel) (fun _ => Nat.le_of_ble_eq_true rfl) (fun g hG hK => w_X6_roundScanned hf1 hG h hK)
def f_X6_shapeOf (x0 : Int32) : Option (Unit ⊕ Nat) :=
  if x0 < 0 then
    some (.inl ())
  else
    if x0 < 4 then
      some (.inr x0.toNatClampNeg)
    else
      some (.inl ())
set_option maxRecDepth 20000 in
theorem w_X6_shapeOf {g : Cx} {mc ms : Nat} {c : CS} {m : MS} {z : Nat → Int64} {x0 : Int32} {s : (Unit ⊕ Nat)}  (hG : Gd g RX6 cX6_shapeOf 1 7 mc ms) (h : f_X6_shapeOf x0 = some s) (hK : Sum.elim (fun _ : Unit => Gd g RX6 cX6_shapeOf 1 7 1 6 ∧ FinT g wIA (c, m, z)) (fun s => FinA g cX6_shapeOf mc ms (wad (cxw g) (30 + s)) (c, m, z)) s) : AW g 0 [(0, .int x0)] [] (c, m, z) 0 0 := by
  unfold f_X6_shapeOf at h
  refine aw_iload_n hG 0 rfl dX6_shapeOf_0 rfl ?_
  refine aw_if_lt (t := 12) hG dX6_shapeOf_1 rfl (fun hc => ?_) (fun hc => ?_)
  · replace h := it_p hc h
    obtain rfl := Option.some.inj h
    exact aw_throwIAW (j := 1) hK.1 (by decide) hK.2 rfl dX6_shapeOf_12 dX6_shapeOf_15 dX6_shapeOf_16 dX6_shapeOf_19 dX6_shapeOf_22
  · replace h := it_n hc h
    refine aw_iload_n hG 0 rfl dX6_shapeOf_4 rfl ?_
    refine aw_gFMT hG l_387 dX6_shapeOf_5 ?_
    refine aw_lFMT hG dX6_shapeOf_8 ?_
    refine aw_icmp_lt (t := 23) hG dX6_shapeOf_9 rfl (fun hc => ?_) (fun hc => ?_)
    · replace h := it_p hc h
      refine aw_gFMT hG l_387 dX6_shapeOf_23 ?_
      refine aw_iload_n hG 0 rfl dX6_shapeOf_26 rfl ?_
      refine aw_aFMT hG (by first | exact vI_mk (a := 4) (by assumption) (by assumption) rfl | exact vI_mk2 (a := 4) (by assumption) (by assumption) rfl) dX6_shapeOf_27 ?_
      obtain rfl := Option.some.inj h
      exact FinA.z hK dX6_shapeOf_28
    · replace h := it_n hc h
      obtain rfl := Option.some.inj h
      exact aw_throwIAW (j := 1) hK.1 (by decide) hK.2 rfl dX6_shapeOf_12 dX6_shapeOf_15 dX6_shapeOf_16 dX6_shapeOf_19 dX6_shapeOf_22
theorem c_X6_shapeOf {c : CS} {m : MS} {z : Nat → Int64} {x0 : Int32} {s : Nat}  (h : f_X6_shapeOf x0 = some (.inr s)) : Ct yX6_shapeOf cX6_shapeOf 1 (some (.object "FloatTexts$Format")) 7 (fun w => [.int x0]) (c, m, z) (fun w => some (.ref (wad w (30 + s)))) (c, m, z) := Ct_ofA (by decide +kernel) (fun _ => Nat.le_of_ble_eq_true rfl) (fun g hG hK => w_X6_shapeOf hG h hK)
theorem ct_X6_shapeOf {c : CS} {m : MS} {z : Nat → Int64} {x0 : Int32}  (h : f_X6_shapeOf x0 = some (.inl ())) : CtT yX6_shapeOf cX6_shapeOf 1 (some (.object "FloatTexts$Format")) 7 (fun w => [.int x0]) (c, m, z) wIA := CtT_of (by decide +kernel) (fun _ => Nat.le_of_ble_eq_true rfl) (fun g hG hK => w_X6_shapeOf hG h ⟨hG, hK⟩)
theorem p_X6_shapeOf {x0 : Int32} {s : Nat} (h : f_X6_shapeOf x0 = some (.inr s)) : s < 4 := by
  unfold f_X6_shapeOf at h
  by_cases h1 : x0 < 0
  · rw [if_pos h1] at h; cases h
  · rw [if_neg h1] at h
    by_cases h2 : x0 < 4
    · rw [if_pos h2] at h; cases h; exact fmt_lt (vI_mk2 h1 h2 rfl)
    · rw [if_neg h2] at h; cases h
noncomputable def f_X6_read (x1 : Int32) (x2 : Int32) (c : CS) : Option (Unit ⊕ (Int32 × CS)) :=
  tbd (f_X6_shapeOf x1) fun v_1 =>
  tbd (f_X6_needWay x2) fun v_2 =>
  Option.bind (f_X5_faultOf 0 c) fun v_3 =>
  if v_3.1 = (-1) then
    Option.bind (f_X6_roundScanned v_1 x2 v_3.2) fun v_4 =>
    lt (f_X6_keepResult v_4) fun v_5 =>
    some (.inr (0, v_5.2))
  else
    some (.inr ((-1) - v_3.1, v_3.2))
set_option maxRecDepth 20000 in
theorem w_X6_read {g : Cx} {mc ms : Nat} {c : CS} {m : MS} {z : Nat → Int64} {x1 : Int32} {x2 : Int32} {s : (Unit ⊕ (Int32 × CS))}  (hG : Gd g RX6 cX6_read 5 8 mc ms) (h : f_X6_read x1 x2 c = some s) (hK : Sum.elim (fun _ : Unit => Gd g RX6 cX6_read 5 8 1 6 ∧ FinT g wIA (c, m, z)) (fun s => FinI g cX6_read mc ms s.1 (s.2, m, z)) s) : AW g 0 [(0, .ref (wad (cxw g) 0)), (1, .int x1), (2, .int x2)] [] (c, m, z) 0 0 := by
  unfold f_X6_read at h
  refine aw_iload_n hG 1 rfl dX6_read_0 rfl ?_
  rcases tb_o h with ⟨hv, rfl⟩ | ⟨v_1, hv_1, h⟩
  · exact aw_callST (As := [.int x1]) (rest := []) hK.1 (ct_X6_shapeOf (x0 := x1) (c := c)  hv) hK.2 l_388 ws_X6_shapeOf rfl rfl rfl (by decide) (Nat.le_of_ble_eq_true rfl) dX6_read_1
  refine aw_callSa (As := [.int x1]) (rest := []) hG (c_X6_shapeOf (x0 := x1) (c := c)  hv_1) l_388 ws_X6_shapeOf rfl rfl rfl (by decide) (Nat.zero_le _) (Nat.zero_le _) (Nat.le_of_ble_eq_true rfl) dX6_read_1 ?_
  have hhv_1 : v_1 < 4 := p_X6_shapeOf hv_1
  refine aw_astore_n (L' := [(3, .ref (wad (cxw g) (30 + v_1))), (0, .ref (wad (cxw g) 0)), (1, .int x1), (2, .int x2)]) hG dX6_read_4 rfl (by decide) rfl ?_
  refine aw_iload_n hG 3 rfl dX6_read_5 rfl ?_
  rcases tb_o h with ⟨hv, rfl⟩ | ⟨v_2, hv_2, h⟩
  · exact aw_callST (As := [.int x2]) (rest := []) hK.1 (ct_X6_needWay (x0 := x2) (c := c)  hv) hK.2 l_392 ws_X6_needWay rfl rfl rfl (by decide) (Nat.le_of_ble_eq_true rfl) dX6_read_6
  refine aw_callSv (As := [.int x2]) (rest := []) hG (c_X6_needWay (x0 := x2) (c := c)  hv_2) l_392 ws_X6_needWay rfl rfl rfl (by decide) (Nat.zero_le _) (Nat.zero_le _) (Nat.le_of_ble_eq_true rfl) dX6_read_6 ?_
  refine aw_aload_n hG 1 rfl dX6_read_9 rfl ?_
  refine gt_ft_scan hG l_335 dX6_read_10 ?_
  refine aw_aload_n hG 1 rfl dX6_read_13 rfl ?_
  refine gt_ft_text hG l_292 dX6_read_14 ?_
  obtain ⟨v_3, hv_3, h⟩ := bd_o h
  refine aw_callVi (As := [.ref (wad (cxw g) (1 + 2 * 0))]) (rest := []) hG (c_X5_faultOf (t1 := 0) (c := c) (by decide) hv_3) l_396 wv_X5_faultOf (rv_X5 hG) rfl rfl rfl (by decide) (Nat.zero_le _) (Nat.zero_le _) (Nat.le_of_ble_eq_true rfl) dX6_read_17 ?_
  refine aw_istore (L' := [(4, .int v_3.1), (3, .ref (wad (cxw g) (30 + v_1))), (0, .ref (wad (cxw g) 0)), (1, .int x1), (2, .int x2)]) hG dX6_read_20 (by decide) rfl ?_
  refine aw_iload hG 0 rfl dX6_read_22 ?_
  refine aw_iconst (v := (-1)) hG dX6_read_24 rfl ?_
  refine aw_icmp_eq (t := 33) hG dX6_read_25 rfl (fun hc => ?_) (fun hc => ?_)
  · replace h := it_p hc h
    refine aw_aload_n hG 2 rfl dX6_read_33 rfl ?_
    refine aw_aload_n hG 1 rfl dX6_read_34 rfl ?_
    refine aw_iload_n hG 4 rfl dX6_read_35 rfl ?_
    obtain ⟨v_4, hv_4, h⟩ := bd_o h
    refine aw_callVv (As := [.ref (wad (cxw g) (30 + v_1)), .int x2]) (rest := []) hG (c_X6_roundScanned (f1 := v_1) (x2 := x2) (c := v_3.2) hhv_1 hv_4) l_401 wv_X6_roundScanned (rv_X6 hG) rfl rfl rfl (by decide) (Nat.zero_le _) (Nat.zero_le _) (Nat.le_of_ble_eq_true rfl) dX6_read_36 ?_
    refine aw_aload_n hG 2 rfl dX6_read_39 rfl ?_
    obtain ⟨v_5, hv_5⟩ : ∃ y, y = f_X6_keepResult v_4 := ⟨_, rfl⟩
    replace h := lt_r hv_5 h
    refine aw_callVl (As := []) (rest := []) hG (c_X6_keepResult (c := v_4)  hv_5.symm) l_406 wv_X6_keepResult (rv_X6 hG) rfl rfl rfl (by decide) (Nat.zero_le _) (Nat.zero_le _) (Nat.le_of_ble_eq_true rfl) dX6_read_40 ?_
    refine aw_pop2 hG dX6_read_43 rfl ?_
    refine aw_iconst (v := 0) hG dX6_read_44 rfl ?_
    obtain rfl := Option.some.inj h
    exact FinI.z hK dX6_read_45
  · replace h := it_n hc h
    refine aw_iconst (v := (-1)) hG dX6_read_28 rfl ?_
    refine aw_iload hG 0 rfl dX6_read_29 ?_
    refine aw_isub hG dX6_read_31 ?_
    obtain rfl := Option.some.inj h
    exact FinI.z hK dX6_read_32
theorem c_X6_read {c : CS} {m : MS} {z : Nat → Int64} {x1 : Int32} {x2 : Int32} {s : Int32 × CS}  (h : f_X6_read x1 x2 c = some (.inr s)) : Ct yX6_read cX6_read 5 (some .int) 8 (fun w => [.ref (wad w 0), .int x1, .int x2]) (c, m, z) (fun _ => some (.int s.1)) (s.2, m, z) := Ct_ofI (by decide +kernel) (fun _ => Nat.le_of_ble_eq_true rfl) (fun g hG hK => w_X6_read hG h hK)
theorem ct_X6_read {c : CS} {m : MS} {z : Nat → Int64} {x1 : Int32} {x2 : Int32}  (h : f_X6_read x1 x2 c = some (.inl ())) : CtT yX6_read cX6_read 5 (some .int) 8 (fun w => [.ref (wad w 0), .int x1, .int x2]) (c, m, z) wIA := CtT_of (by decide +kernel) (fun _ => Nat.le_of_ble_eq_true rfl) (fun g hG hK => w_X6_read hG h ⟨hG, hK⟩)
def f_X6_result (c : CS) : Int64 :=
  (rsP c)
set_option maxRecDepth 20000 in
theorem w_X6_result {g : Cx} {mc ms : Nat} {c : CS} {m : MS} {z : Nat → Int64}  {s : Int64}  (hG : Gd g RX6 cX6_result 1 1 mc ms) (h : f_X6_result c = s) (hK : FinJ g cX6_result mc ms s (c, m, z)) : AW g 0 [(0, .ref (wad (cxw g) 0))] [] (c, m, z) 0 0 := by
  unfold f_X6_result at h
  refine aw_aload_n hG 0 rfl dX6_result_0 rfl ?_
  refine gt_rsP hG l_305 dX6_result_1 ?_
  subst h
  exact FinJ.z hK dX6_result_4
theorem c_X6_result {c : CS} {m : MS} {z : Nat → Int64}   : Ct yX6_result cX6_result 1 (some .long) 1 (fun w => [.ref (wad w 0)]) (c, m, z) (fun _ => some (.long (f_X6_result c))) (c, m, z) := Ct_ofJ (by decide +kernel) (fun _ => Nat.le_of_ble_eq_true rfl) (fun g hG hK => w_X6_result hG rfl hK)
def f_X6_flags (c : CS) : Int32 :=
  (rsF c)
set_option maxRecDepth 20000 in
theorem w_X6_flags {g : Cx} {mc ms : Nat} {c : CS} {m : MS} {z : Nat → Int64}  {s : Int32}  (hG : Gd g RX6 cX6_flags 1 1 mc ms) (h : f_X6_flags c = s) (hK : FinI g cX6_flags mc ms s (c, m, z)) : AW g 0 [(0, .ref (wad (cxw g) 0))] [] (c, m, z) 0 0 := by
  unfold f_X6_flags at h
  refine aw_aload_n hG 0 rfl dX6_flags_0 rfl ?_
  refine gt_rsF hG l_307 dX6_flags_1 ?_
  subst h
  exact FinI.z hK dX6_flags_4
theorem c_X6_flags {c : CS} {m : MS} {z : Nat → Int64}   : Ct yX6_flags cX6_flags 1 (some .int) 1 (fun w => [.ref (wad w 0)]) (c, m, z) (fun _ => some (.int (f_X6_flags c))) (c, m, z) := Ct_ofI (by decide +kernel) (fun _ => Nat.le_of_ble_eq_true rfl) (fun g hG hK => w_X6_flags hG rfl hK)
noncomputable def f_X6_roundAt_J30 (x1 : Int32) (x2 : Int32) (x3 : Int32) (s0 : Int32) (c : CS) : Option CS :=
  Option.bind (f_X4_restBelow 0 x1 c) fun v_2 =>
  if (f_X6_goesUp x3 x2 s0 v_2) = 0 then
    some c
  else
    Option.bind (f_X4_addUnit 3 x1 c) fun v_3 =>
    some v_3
set_option maxRecDepth 20000 in
theorem w_X6_roundAt_J30 {g : Cx} {mc ms : Nat} {c : CS} {m : MS} {z : Nat → Int64} {x1 : Int32} {x2 : Int32} {x3 : Int32} {s0 : Int32} {s : CS}  (hG : Gd g RX6 cX6_roundAt 5 5 mc ms) (h : f_X6_roundAt_J30 x1 x2 x3 s0 c = some s) (hK : FinV g cX6_roundAt mc ms (s, m, z)) : AW g 30 [(0, .ref (wad (cxw g) 0)), (1, .int x1), (2, .int x2), (3, .int x3)] [.int s0] (c, m, z) 0 0 := by
  unfold f_X6_roundAt_J30 at h
  refine aw_istore (L' := [(4, .int s0), (0, .ref (wad (cxw g) 0)), (1, .int x1), (2, .int x2), (3, .int x3)]) hG dX6_roundAt_30 (by decide) rfl ?_
  refine aw_iload_n hG 4 rfl dX6_roundAt_32 rfl ?_
  refine aw_iload_n hG 3 rfl dX6_roundAt_33 rfl ?_
  refine aw_iload hG 0 rfl dX6_roundAt_34 ?_
  refine aw_aload_n hG 1 rfl dX6_roundAt_36 rfl ?_
  refine gt_ft_number hG l_345 dX6_roundAt_37 ?_
  refine aw_iload_n hG 2 rfl dX6_roundAt_40 rfl ?_
  obtain ⟨v_2, hv_2, h⟩ := bd_o h
  refine aw_callVi (As := [.int x1]) (rest := [.int s0, .int x2, .int x3]) hG (c_X4_restBelow (r0 := 0) (x1 := x1) (c := c) (by decide) hv_2) l_418 wv_X4_restBelow (rv_X4 hG (by decide)) rfl rfl rfl (by decide) (Nat.zero_le _) (Nat.zero_le _) (Nat.le_of_ble_eq_true rfl) dX6_roundAt_41 ?_
  refine aw_callSi (As := [.int x3, .int x2, .int s0, .int v_2]) (rest := []) hG (c_X6_goesUp (x0 := x3) (x1 := x2) (x2 := s0) (x3 := v_2) (c := c) ) l_423 ws_X6_goesUp rfl rfl rfl (by decide) (Nat.zero_le _) (Nat.zero_le _) (Nat.le_of_ble_eq_true rfl) dX6_roundAt_44 ?_
  refine aw_if_eq (t := 58) hG dX6_roundAt_47 rfl (fun hc => ?_) (fun hc => ?_)
  · replace h := it_p hc h
    obtain rfl := Option.some.inj h
    exact FinV.z hK dX6_roundAt_58
  · replace h := it_n hc h
    refine aw_aload_n hG 1 rfl dX6_roundAt_50 rfl ?_
    refine gt_ft_candidate hG l_411 dX6_roundAt_51 ?_
    refine aw_iload_n hG 2 rfl dX6_roundAt_54 rfl ?_
    obtain ⟨v_3, hv_3, h⟩ := bd_o h
    refine aw_callVv (As := [.int x1]) (rest := []) hG (c_X4_addUnit (r0 := 3) (x1 := x1) (c := c) (by decide) hv_3) l_424 wv_X4_addUnit (rv_X4 hG (by decide)) rfl rfl rfl (by decide) (Nat.zero_le _) (Nat.zero_le _) (Nat.le_of_ble_eq_true rfl) dX6_roundAt_55 ?_
    obtain rfl := Option.some.inj h
    exact FinV.z hK dX6_roundAt_58
noncomputable def f_X6_roundAt (x1 : Int32) (x2 : Int32) (x3 : Int32) (c : CS) : Option CS :=
  Option.bind (f_X4_takeDownTo 3 0 x1 c) fun v_1 =>
  if (irm (f_X4_digitAt 0 x1 v_1) 2) = 0 then
    f_X6_roundAt_J30 x1 x2 x3 0 v_1
  else
    f_X6_roundAt_J30 x1 x2 x3 1 v_1
set_option maxRecDepth 20000 in
theorem w_X6_roundAt {g : Cx} {mc ms : Nat} {c : CS} {m : MS} {z : Nat → Int64} {x1 : Int32} {x2 : Int32} {x3 : Int32} {s : CS}  (hG : Gd g RX6 cX6_roundAt 5 5 mc ms) (h : f_X6_roundAt x1 x2 x3 c = some s) (hK : FinV g cX6_roundAt mc ms (s, m, z)) : AW g 0 [(0, .ref (wad (cxw g) 0)), (1, .int x1), (2, .int x2), (3, .int x3)] [] (c, m, z) 0 0 := by
  unfold f_X6_roundAt at h
  refine aw_aload_n hG 0 rfl dX6_roundAt_0 rfl ?_
  refine gt_ft_candidate hG l_411 dX6_roundAt_1 ?_
  refine aw_aload_n hG 0 rfl dX6_roundAt_4 rfl ?_
  refine gt_ft_number hG l_345 dX6_roundAt_5 ?_
  refine aw_iload_n hG 1 rfl dX6_roundAt_8 rfl ?_
  obtain ⟨v_1, hv_1, h⟩ := bd_o h
  refine aw_callVv (As := [.ref (wad (cxw g) (9 + 2 * 0)), .int x1]) (rest := []) hG (c_X4_takeDownTo (r0 := 3) (r1 := 0) (x2 := x1) (c := c) (by decide) (by decide) hv_1) l_412 wv_X4_takeDownTo (rv_X4 hG (by decide)) rfl rfl rfl (by decide) (Nat.zero_le _) (Nat.zero_le _) (Nat.le_of_ble_eq_true rfl) dX6_roundAt_9 ?_
  refine aw_aload_n hG 0 rfl dX6_roundAt_12 rfl ?_
  refine gt_ft_number hG l_345 dX6_roundAt_13 ?_
  refine aw_iload_n hG 1 rfl dX6_roundAt_16 rfl ?_
  refine aw_callVi (As := [.int x1]) (rest := []) hG (c_X4_digitAt (r0 := 0) (x1 := x1) (c := v_1) (by decide)) l_417 wv_X4_digitAt (rv_X4 hG (by decide)) rfl rfl rfl (by decide) (Nat.zero_le _) (Nat.zero_le _) (Nat.le_of_ble_eq_true rfl) dX6_roundAt_17 ?_
  refine aw_iconst (v := 2) hG dX6_roundAt_20 rfl ?_
  refine aw_iremJ hG dX6_roundAt_21 (by decide) ?_
  refine aw_if_eq (t := 29) hG dX6_roundAt_22 rfl (fun hc => ?_) (fun hc => ?_)
  · replace h := it_p hc h
    refine aw_iconst (v := 0) hG dX6_roundAt_29 rfl ?_
    exact w_X6_roundAt_J30 (x1 := x1) (x2 := x2) (x3 := x3) (s0 := 0) (c := v_1) hG h hK
  · replace h := it_n hc h
    refine aw_iconst (v := 1) hG dX6_roundAt_25 rfl ?_
    refine aw_goto (t := 30) hG dX6_roundAt_26 rfl ?_
    exact w_X6_roundAt_J30 (x1 := x1) (x2 := x2) (x3 := x3) (s0 := 1) (c := v_1) hG h hK
theorem c_X6_roundAt {c : CS} {m : MS} {z : Nat → Int64} {x1 : Int32} {x2 : Int32} {x3 : Int32} {s : CS}  (h : f_X6_roundAt x1 x2 x3 c = some s) : Ct yX6_roundAt cX6_roundAt 5 none 5 (fun w => [.ref (wad w 0), .int x1, .int x2, .int x3]) (c, m, z) (fun _ => none) (s, m, z) := Ct_ofV (by decide +kernel) (fun _ => Nat.le_of_ble_eq_true rfl) (fun g hG hK => w_X6_roundAt hG h hK)
def f_X6_foundDownTo_J122 (x4 : Int32) (x6 : Int32) (c : CS) : Option (Int32 × CS) :=
  if x4 = 0 then
    if x6 = 0 then
      some (0, c)
    else
      some (1, c)
  else
    some (1, c)
set_option maxRecDepth 20000 in
theorem w_X6_foundDownTo_J122 {g : Cx} {mc ms : Nat} {c : CS} {m : MS} {z : Nat → Int64} {x4 : Int32} {x6 : Int32} {s : (Int32 × CS)}  (hG : Gd g RX6 cX6_foundDownTo 7 6 mc ms) (h : f_X6_foundDownTo_J122 x4 x6 c = some s) (hK : FinZ g cX6_foundDownTo mc ms s.1 (s.2, m, z)) : AW g 122 [(4, .int x4), (6, .int x6)] [] (c, m, z) 0 0 := by
  unfold f_X6_foundDownTo_J122 at h
  refine aw_iload hG 0 rfl dX6_foundDownTo_122 ?_
  refine aw_if_ne (t := 132) hG dX6_foundDownTo_124 rfl (fun hc => ?_) (fun hc => ?_)
  · replace h := it_n hc h
    refine aw_iconst (v := 1) hG dX6_foundDownTo_132 rfl ?_
    refine aw_goto (t := 137) hG dX6_foundDownTo_133 rfl ?_
    obtain rfl := Option.some.inj h
    exact FinZ.z hK (Or.inr rfl) dX6_foundDownTo_137
  · replace h := it_p hc h
    refine aw_iload hG 1 rfl dX6_foundDownTo_127 ?_
    refine aw_if_eq (t := 136) hG dX6_foundDownTo_129 rfl (fun hc => ?_) (fun hc => ?_)
    · replace h := it_p hc h
      refine aw_iconst (v := 0) hG dX6_foundDownTo_136 rfl ?_
      obtain rfl := Option.some.inj h
      exact FinZ.z hK (Or.inl rfl) dX6_foundDownTo_137
    · replace h := it_n hc h
      refine aw_iconst (v := 1) hG dX6_foundDownTo_132 rfl ?_
      refine aw_goto (t := 137) hG dX6_foundDownTo_133 rfl ?_
      obtain rfl := Option.some.inj h
      exact FinZ.z hK (Or.inr rfl) dX6_foundDownTo_137
noncomputable def f_X6_foundDownTo_J105 (x1 : Int32) (x4 : Int32) (x6 : Int32) (c : CS) : Option (Int32 × CS) :=
  if x4 = 0 then
    f_X6_foundDownTo_J122 x4 x6 c
  else
    Option.bind (f_X4_takeDownTo 3 0 x1 c) fun v_7 =>
    f_X6_foundDownTo_J122 x4 x6 v_7
set_option maxRecDepth 20000 in
theorem w_X6_foundDownTo_J105 {g : Cx} {mc ms : Nat} {c : CS} {m : MS} {z : Nat → Int64} {x1 : Int32} {x4 : Int32} {x6 : Int32} {s : (Int32 × CS)}  (hG : Gd g RX6 cX6_foundDownTo 7 6 mc ms) (h : f_X6_foundDownTo_J105 x1 x4 x6 c = some s) (hK : FinZ g cX6_foundDownTo mc ms s.1 (s.2, m, z)) : AW g 105 [(0, .ref (wad (cxw g) 0)), (1, .int x1), (4, .int x4), (6, .int x6)] [] (c, m, z) 0 0 := by
  unfold f_X6_foundDownTo_J105 at h
  refine aw_iload hG 2 rfl dX6_foundDownTo_105 ?_
  refine aw_if_eq (t := 122) hG dX6_foundDownTo_107 rfl (fun hc => ?_) (fun hc => ?_)
  · replace h := it_p hc h
    refine aw_sub (L' := [(4, .int x4), (6, .int x6)]) [2, 3] rfl ?_
    exact w_X6_foundDownTo_J122 (x4 := x4) (x6 := x6) (c := c) hG h hK
  · replace h := it_n hc h
    refine aw_aload_n hG 0 rfl dX6_foundDownTo_110 rfl ?_
    refine gt_ft_candidate hG l_411 dX6_foundDownTo_111 ?_
    refine aw_aload_n hG 0 rfl dX6_foundDownTo_114 rfl ?_
    refine gt_ft_number hG l_345 dX6_foundDownTo_115 ?_
    refine aw_iload_n hG 1 rfl dX6_foundDownTo_118 rfl ?_
    obtain ⟨v_7, hv_7, h⟩ := bd_o h
    refine aw_callVv (As := [.ref (wad (cxw g) (9 + 2 * 0)), .int x1]) (rest := []) hG (c_X4_takeDownTo (r0 := 3) (r1 := 0) (x2 := x1) (c := c) (by decide) (by decide) hv_7) l_412 wv_X4_takeDownTo (rv_X4 hG (by decide)) rfl rfl rfl (by decide) (Nat.zero_le _) (Nat.zero_le _) (Nat.le_of_ble_eq_true rfl) dX6_foundDownTo_119 ?_
    refine aw_sub (L' := [(4, .int x4), (6, .int x6)]) [2, 3] rfl ?_
    exact w_X6_foundDownTo_J122 (x4 := x4) (x6 := x6) (c := v_7) hG h hK
noncomputable def f_X6_foundDownTo_J83 (x1 : Int32) (x4 : Int32) (s0 : Int32) (c : CS) : Option (Int32 × CS) :=
  if x4 = 0 then
    f_X6_foundDownTo_J105 x1 x4 s0 c
  else
    if s0 = 0 then
      f_X6_foundDownTo_J105 x1 x4 s0 c
    else
      Option.bind (f_X6_roundAt x1 0 0 c) fun v_9 =>
      f_X6_foundDownTo_J122 x4 s0 v_9
set_option maxRecDepth 20000 in
theorem w_X6_foundDownTo_J83 {g : Cx} {mc ms : Nat} {c : CS} {m : MS} {z : Nat → Int64} {x1 : Int32} {x4 : Int32} {s0 : Int32} {s : (Int32 × CS)}  (hG : Gd g RX6 cX6_foundDownTo 7 6 mc ms) (h : f_X6_foundDownTo_J83 x1 x4 s0 c = some s) (hK : FinZ g cX6_foundDownTo mc ms s.1 (s.2, m, z)) : AW g 83 [(0, .ref (wad (cxw g) 0)), (1, .int x1), (4, .int x4)] [.int s0] (c, m, z) 0 0 := by
  unfold f_X6_foundDownTo_J83 at h
  refine aw_istore (L' := [(6, .int s0), (0, .ref (wad (cxw g) 0)), (1, .int x1), (4, .int x4)]) hG dX6_foundDownTo_83 (by decide) rfl ?_
  refine aw_iload hG 3 rfl dX6_foundDownTo_85 ?_
  refine aw_if_eq (t := 105) hG dX6_foundDownTo_87 rfl (fun hc => ?_) (fun hc => ?_)
  · replace h := it_p hc h
    refine aw_sub (L' := [(0, .ref (wad (cxw g) 0)), (1, .int x1), (4, .int x4), (6, .int s0)]) [1, 2, 3, 0] rfl ?_
    exact w_X6_foundDownTo_J105 (x1 := x1) (x4 := x4) (x6 := s0) (c := c) hG h hK
  · replace h := it_n hc h
    refine aw_iload hG 0 rfl dX6_foundDownTo_90 ?_
    refine aw_if_eq (t := 105) hG dX6_foundDownTo_92 rfl (fun hc => ?_) (fun hc => ?_)
    · replace h := it_p hc h
      refine aw_sub (L' := [(0, .ref (wad (cxw g) 0)), (1, .int x1), (4, .int x4), (6, .int s0)]) [1, 2, 3, 0] rfl ?_
      exact w_X6_foundDownTo_J105 (x1 := x1) (x4 := x4) (x6 := s0) (c := c) hG h hK
    · replace h := it_n hc h
      refine aw_aload_n hG 1 rfl dX6_foundDownTo_95 rfl ?_
      refine aw_iload_n hG 2 rfl dX6_foundDownTo_96 rfl ?_
      refine aw_iconst (v := 0) hG dX6_foundDownTo_97 rfl ?_
      refine aw_iconst (v := 0) hG dX6_foundDownTo_98 rfl ?_
      obtain ⟨v_9, hv_9, h⟩ := bd_o h
      refine aw_callVv (As := [.int x1, .int 0, .int 0]) (rest := []) hG (c_X6_roundAt (x1 := x1) (x2 := 0) (x3 := 0) (c := c)  hv_9) l_436 wv_X6_roundAt (rv_X6 hG) rfl rfl rfl (by decide) (Nat.zero_le _) (Nat.zero_le _) (Nat.le_of_ble_eq_true rfl) dX6_foundDownTo_99 ?_
      refine aw_goto (t := 122) hG dX6_foundDownTo_102 rfl ?_
      refine aw_sub (L' := [(4, .int x4), (6, .int s0)]) [3, 0] rfl ?_
      exact w_X6_foundDownTo_J122 (x4 := x4) (x6 := s0) (c := v_9) hG h hK
noncomputable def f_X6_foundDownTo_J41 (x1 : Int32) (x2 : Int32) (s0 : Int32) (c : CS) : Option (Int32 × CS) :=
  Option.bind (f_X4_addUnit 3 x1 c) fun v_3 =>
  Option.bind (f_X4_against 3 2 v_3) fun v_4 =>
  if v_4 < 0 then
    f_X6_foundDownTo_J83 x1 s0 1 v_3
  else
    if v_4 = 0 then
      if x2 = 0 then
        f_X6_foundDownTo_J83 x1 s0 0 v_3
      else
        f_X6_foundDownTo_J83 x1 s0 1 v_3
    else
      f_X6_foundDownTo_J83 x1 s0 0 v_3
set_option maxRecDepth 20000 in
theorem w_X6_foundDownTo_J41 {g : Cx} {mc ms : Nat} {c : CS} {m : MS} {z : Nat → Int64} {x1 : Int32} {x2 : Int32} {s0 : Int32} {s : (Int32 × CS)}  (hG : Gd g RX6 cX6_foundDownTo 7 6 mc ms) (h : f_X6_foundDownTo_J41 x1 x2 s0 c = some s) (hK : FinZ g cX6_foundDownTo mc ms s.1 (s.2, m, z)) : AW g 41 [(0, .ref (wad (cxw g) 0)), (1, .int x1), (2, .int x2)] [.int s0] (c, m, z) 0 0 := by
  unfold f_X6_foundDownTo_J41 at h
  refine aw_istore (L' := [(4, .int s0), (0, .ref (wad (cxw g) 0)), (1, .int x1), (2, .int x2)]) hG dX6_foundDownTo_41 (by decide) rfl ?_
  refine aw_aload_n hG 1 rfl dX6_foundDownTo_43 rfl ?_
  refine gt_ft_candidate hG l_411 dX6_foundDownTo_44 ?_
  refine aw_iload_n hG 2 rfl dX6_foundDownTo_47 rfl ?_
  obtain ⟨v_3, hv_3, h⟩ := bd_o h
  refine aw_callVv (As := [.int x1]) (rest := []) hG (c_X4_addUnit (r0 := 3) (x1 := x1) (c := c) (by decide) hv_3) l_424 wv_X4_addUnit (rv_X4 hG (by decide)) rfl rfl rfl (by decide) (Nat.zero_le _) (Nat.zero_le _) (Nat.le_of_ble_eq_true rfl) dX6_foundDownTo_48 ?_
  refine aw_aload_n hG 1 rfl dX6_foundDownTo_51 rfl ?_
  refine gt_ft_candidate hG l_411 dX6_foundDownTo_52 ?_
  refine aw_aload_n hG 1 rfl dX6_foundDownTo_55 rfl ?_
  refine gt_ft_high hG l_435 dX6_foundDownTo_56 ?_
  obtain ⟨v_4, hv_4, h⟩ := bd_o h
  refine aw_callVi (As := [.ref (wad (cxw g) (9 + 2 * 2))]) (rest := []) hG (c_X4_against (r0 := 3) (r1 := 2) (c := v_3) (by decide) (by decide) hv_4) l_430 wv_X4_against (rv_X4 hG (by decide)) rfl rfl rfl (by decide) (Nat.zero_le _) (Nat.zero_le _) (Nat.le_of_ble_eq_true rfl) dX6_foundDownTo_59 ?_
  refine aw_istore (L' := [(5, .int v_4), (4, .int s0), (0, .ref (wad (cxw g) 0)), (1, .int x1), (2, .int x2)]) hG dX6_foundDownTo_62 (by decide) rfl ?_
  refine aw_iload hG 0 rfl dX6_foundDownTo_64 ?_
  refine aw_if_lt (t := 78) hG dX6_foundDownTo_66 rfl (fun hc => ?_) (fun hc => ?_)
  · replace h := it_p hc h
    refine aw_iconst (v := 1) hG dX6_foundDownTo_78 rfl ?_
    refine aw_goto (t := 83) hG dX6_foundDownTo_79 rfl ?_
    refine aw_sub (L' := [(0, .ref (wad (cxw g) 0)), (1, .int x1), (4, .int s0)]) [2, 3, 1] rfl ?_
    exact w_X6_foundDownTo_J83 (x1 := x1) (x4 := s0) (s0 := 1) (c := v_3) hG h hK
  · replace h := it_n hc h
    refine aw_iload hG 0 rfl dX6_foundDownTo_69 ?_
    refine aw_if_ne (t := 82) hG dX6_foundDownTo_71 rfl (fun hc => ?_) (fun hc => ?_)
    · replace h := it_n hc h
      refine aw_iconst (v := 0) hG dX6_foundDownTo_82 rfl ?_
      refine aw_sub (L' := [(0, .ref (wad (cxw g) 0)), (1, .int x1), (4, .int s0)]) [2, 3, 1] rfl ?_
      exact w_X6_foundDownTo_J83 (x1 := x1) (x4 := s0) (s0 := 0) (c := v_3) hG h hK
    · replace h := it_p hc h
      refine aw_iload_n hG 4 rfl dX6_foundDownTo_74 rfl ?_
      refine aw_if_eq (t := 82) hG dX6_foundDownTo_75 rfl (fun hc => ?_) (fun hc => ?_)
      · replace h := it_p hc h
        refine aw_iconst (v := 0) hG dX6_foundDownTo_82 rfl ?_
        refine aw_sub (L' := [(0, .ref (wad (cxw g) 0)), (1, .int x1), (4, .int s0)]) [2, 3, 1] rfl ?_
        exact w_X6_foundDownTo_J83 (x1 := x1) (x4 := s0) (s0 := 0) (c := v_3) hG h hK
      · replace h := it_n hc h
        refine aw_iconst (v := 1) hG dX6_foundDownTo_78 rfl ?_
        refine aw_goto (t := 83) hG dX6_foundDownTo_79 rfl ?_
        refine aw_sub (L' := [(0, .ref (wad (cxw g) 0)), (1, .int x1), (4, .int s0)]) [2, 3, 1] rfl ?_
        exact w_X6_foundDownTo_J83 (x1 := x1) (x4 := s0) (s0 := 1) (c := v_3) hG h hK
noncomputable def f_X6_foundDownTo (x1 : Int32) (x2 : Int32) (c : CS) : Option (Int32 × CS) :=
  Option.bind (f_X4_takeDownTo 3 0 x1 c) fun v_1 =>
  Option.bind (f_X4_against 3 1 v_1) fun v_2 =>
  if 0 < v_2 then
    f_X6_foundDownTo_J41 x1 x2 1 v_1
  else
    if v_2 = 0 then
      if x2 = 0 then
        f_X6_foundDownTo_J41 x1 x2 0 v_1
      else
        f_X6_foundDownTo_J41 x1 x2 1 v_1
    else
      f_X6_foundDownTo_J41 x1 x2 0 v_1
set_option maxRecDepth 20000 in
theorem w_X6_foundDownTo {g : Cx} {mc ms : Nat} {c : CS} {m : MS} {z : Nat → Int64} {x1 : Int32} {x2 : Int32} {s : (Int32 × CS)}  (hG : Gd g RX6 cX6_foundDownTo 7 6 mc ms) (h : f_X6_foundDownTo x1 x2 c = some s) (hK : FinZ g cX6_foundDownTo mc ms s.1 (s.2, m, z)) : AW g 0 [(0, .ref (wad (cxw g) 0)), (1, .int x1), (2, .int x2)] [] (c, m, z) 0 0 := by
  unfold f_X6_foundDownTo at h
  refine aw_aload_n hG 0 rfl dX6_foundDownTo_0 rfl ?_
  refine gt_ft_candidate hG l_411 dX6_foundDownTo_1 ?_
  refine aw_aload_n hG 0 rfl dX6_foundDownTo_4 rfl ?_
  refine gt_ft_number hG l_345 dX6_foundDownTo_5 ?_
  refine aw_iload_n hG 1 rfl dX6_foundDownTo_8 rfl ?_
  obtain ⟨v_1, hv_1, h⟩ := bd_o h
  refine aw_callVv (As := [.ref (wad (cxw g) (9 + 2 * 0)), .int x1]) (rest := []) hG (c_X4_takeDownTo (r0 := 3) (r1 := 0) (x2 := x1) (c := c) (by decide) (by decide) hv_1) l_412 wv_X4_takeDownTo (rv_X4 hG (by decide)) rfl rfl rfl (by decide) (Nat.zero_le _) (Nat.zero_le _) (Nat.le_of_ble_eq_true rfl) dX6_foundDownTo_9 ?_
  refine aw_aload_n hG 0 rfl dX6_foundDownTo_12 rfl ?_
  refine gt_ft_candidate hG l_411 dX6_foundDownTo_13 ?_
  refine aw_aload_n hG 0 rfl dX6_foundDownTo_16 rfl ?_
  refine gt_ft_low hG l_429 dX6_foundDownTo_17 ?_
  obtain ⟨v_2, hv_2, h⟩ := bd_o h
  refine aw_callVi (As := [.ref (wad (cxw g) (9 + 2 * 1))]) (rest := []) hG (c_X4_against (r0 := 3) (r1 := 1) (c := v_1) (by decide) (by decide) hv_2) l_430 wv_X4_against (rv_X4 hG (by decide)) rfl rfl rfl (by decide) (Nat.zero_le _) (Nat.zero_le _) (Nat.le_of_ble_eq_true rfl) dX6_foundDownTo_20 ?_
  refine aw_istore_n (L' := [(3, .int v_2), (0, .ref (wad (cxw g) 0)), (1, .int x1), (2, .int x2)]) hG dX6_foundDownTo_23 rfl (by decide) rfl ?_
  refine aw_iload_n hG 0 rfl dX6_foundDownTo_24 rfl ?_
  refine aw_if_gt (t := 36) hG dX6_foundDownTo_25 rfl (fun hc => ?_) (fun hc => ?_)
  · replace h := it_p hc h
    refine aw_iconst (v := 1) hG dX6_foundDownTo_36 rfl ?_
    refine aw_goto (t := 41) hG dX6_foundDownTo_37 rfl ?_
    refine aw_sub (L' := [(0, .ref (wad (cxw g) 0)), (1, .int x1), (2, .int x2)]) [1, 2, 3] rfl ?_
    exact w_X6_foundDownTo_J41 (x1 := x1) (x2 := x2) (s0 := 1) (c := v_1) hG h hK
  · replace h := it_n hc h
    refine aw_iload_n hG 0 rfl dX6_foundDownTo_28 rfl ?_
    refine aw_if_ne (t := 40) hG dX6_foundDownTo_29 rfl (fun hc => ?_) (fun hc => ?_)
    · replace h := it_n hc h
      refine aw_iconst (v := 0) hG dX6_foundDownTo_40 rfl ?_
      refine aw_sub (L' := [(0, .ref (wad (cxw g) 0)), (1, .int x1), (2, .int x2)]) [1, 2, 3] rfl ?_
      exact w_X6_foundDownTo_J41 (x1 := x1) (x2 := x2) (s0 := 0) (c := v_1) hG h hK
    · replace h := it_p hc h
      refine aw_iload_n hG 3 rfl dX6_foundDownTo_32 rfl ?_
      refine aw_if_eq (t := 40) hG dX6_foundDownTo_33 rfl (fun hc => ?_) (fun hc => ?_)
      · replace h := it_p hc h
        refine aw_iconst (v := 0) hG dX6_foundDownTo_40 rfl ?_
        refine aw_sub (L' := [(0, .ref (wad (cxw g) 0)), (1, .int x1), (2, .int x2)]) [1, 2, 3] rfl ?_
        exact w_X6_foundDownTo_J41 (x1 := x1) (x2 := x2) (s0 := 0) (c := v_1) hG h hK
      · replace h := it_n hc h
        refine aw_iconst (v := 1) hG dX6_foundDownTo_36 rfl ?_
        refine aw_goto (t := 41) hG dX6_foundDownTo_37 rfl ?_
        refine aw_sub (L' := [(0, .ref (wad (cxw g) 0)), (1, .int x1), (2, .int x2)]) [1, 2, 3] rfl ?_
        exact w_X6_foundDownTo_J41 (x1 := x1) (x2 := x2) (s0 := 1) (c := v_1) hG h hK
theorem c_X6_foundDownTo {c : CS} {m : MS} {z : Nat → Int64} {x1 : Int32} {x2 : Int32} {s : Int32 × CS}  (h : f_X6_foundDownTo x1 x2 c = some s) : Ct yX6_foundDownTo cX6_foundDownTo 7 (some .boolean) 6 (fun w => [.ref (wad w 0), .int x1, .int x2]) (c, m, z) (fun _ => some (.int s.1)) (s.2, m, z) := Ct_ofZ (by decide +kernel) (fun _ => Nat.le_of_ble_eq_true rfl) (fun g hG hK => w_X6_foundDownTo hG h hK)
noncomputable def f_X6_setLowerMiddle (r0 : Nat) (f1 : Nat) (x2 : Int64) (c : CS) : Option CS :=
  if (f_X2_isNearBelow f1 x2) = 0 then
    Option.bind (f_X4_setWhole r0 ((2 * (f_X2_wholeOf f1 x2)) - 1) c) fun v_1 =>
    Option.bind (f_X4_scale r0 ((f_X2_unitOf f1 x2) - 1) v_1) fun v_2 =>
    some v_2
  else
    Option.bind (f_X4_setWhole r0 ((4 * (f_X2_wholeOf f1 x2)) - 1) c) fun v_3 =>
    Option.bind (f_X4_scale r0 ((f_X2_unitOf f1 x2) - 2) v_3) fun v_4 =>
    some v_4
set_option maxRecDepth 20000 in
theorem w_X6_setLowerMiddle {g : Cx} {mc ms : Nat} {c : CS} {m : MS} {z : Nat → Int64} {r0 : Nat} {f1 : Nat} {x2 : Int64} {s : CS} (hr0 : r0 < 4) (hf1 : f1 < 4) (hG : Gd g RX6 cX6_setLowerMiddle 4 5 mc ms) (h : f_X6_setLowerMiddle r0 f1 x2 c = some s) (hK : FinV g cX6_setLowerMiddle mc ms (s, m, z)) : AW g 0 [(0, .ref (wad (cxw g) (9 + 2 * r0))), (1, .ref (wad (cxw g) (30 + f1))), (2, .long x2)] [] (c, m, z) 0 0 := by
  unfold f_X6_setLowerMiddle at h
  refine aw_aload_n hG 1 rfl dX6_setLowerMiddle_0 rfl ?_
  refine aw_lload_n hG 2 rfl dX6_setLowerMiddle_1 rfl ?_
  refine aw_callNi (As := [.long x2]) (rest := []) hG (c_X2_isNearBelow (f0 := f1) (x1 := x2) (c := c) hf1) l_441 wf_X2_isNearBelow (rv_X2 hG hf1) rfl rfl rfl (by decide) (Nat.zero_le _) (Nat.zero_le _) (Nat.le_of_ble_eq_true rfl) dX6_setLowerMiddle_2 ?_
  refine aw_if_eq (t := 37) hG dX6_setLowerMiddle_5 rfl (fun hc => ?_) (fun hc => ?_)
  · replace h := it_p hc h
    refine aw_aload_n hG 0 rfl dX6_setLowerMiddle_37 rfl ?_
    refine aw_ldc2 hG l_445 dX6_setLowerMiddle_38 ?_
    refine aw_aload_n hG 1 rfl dX6_setLowerMiddle_41 rfl ?_
    refine aw_lload_n hG 2 rfl dX6_setLowerMiddle_42 rfl ?_
    refine aw_callNl (As := [.long x2]) (rest := [.long 2, .ref (wad (cxw g) (9 + 2 * r0))]) hG (c_X2_wholeOf (f0 := f1) (x1 := x2) (c := c) hf1) l_446 wf_X2_wholeOf (rv_X2 hG hf1) rfl rfl rfl (by decide) (Nat.zero_le _) (Nat.zero_le _) (Nat.le_of_ble_eq_true rfl) dX6_setLowerMiddle_43 ?_
    refine aw_lmul hG dX6_setLowerMiddle_46 ?_
    refine aw_lconst (v := 1) hG dX6_setLowerMiddle_47 rfl ?_
    refine aw_lsub hG dX6_setLowerMiddle_48 ?_
    obtain ⟨v_1, hv_1, h⟩ := bd_o h
    refine aw_callVv (As := [.long ((2 * (f_X2_wholeOf f1 x2)) - 1)]) (rest := []) hG (c_X4_setWhole (r0 := r0) (x1 := (2 * (f_X2_wholeOf f1 x2)) - 1) (c := c) hr0 hv_1) l_450 wv_X4_setWhole (rv_X4 hG hr0) rfl rfl rfl (by decide) (Nat.zero_le _) (Nat.zero_le _) (Nat.le_of_ble_eq_true rfl) dX6_setLowerMiddle_49 ?_
    refine aw_aload_n hG 0 rfl dX6_setLowerMiddle_52 rfl ?_
    refine aw_aload_n hG 1 rfl dX6_setLowerMiddle_53 rfl ?_
    refine aw_lload_n hG 2 rfl dX6_setLowerMiddle_54 rfl ?_
    refine aw_callNi (As := [.long x2]) (rest := [.ref (wad (cxw g) (9 + 2 * r0))]) hG (c_X2_unitOf (f0 := f1) (x1 := x2) (c := v_1) hf1) l_455 wf_X2_unitOf (rv_X2 hG hf1) rfl rfl rfl (by decide) (Nat.zero_le _) (Nat.zero_le _) (Nat.le_of_ble_eq_true rfl) dX6_setLowerMiddle_55 ?_
    refine aw_iconst (v := 1) hG dX6_setLowerMiddle_58 rfl ?_
    refine aw_isub hG dX6_setLowerMiddle_59 ?_
    obtain ⟨v_2, hv_2, h⟩ := bd_o h
    refine aw_callVv (As := [.int ((f_X2_unitOf f1 x2) - 1)]) (rest := []) hG (c_X4_scale (r0 := r0) (x1 := (f_X2_unitOf f1 x2) - 1) (c := v_1) hr0 hv_2) l_313 wv_X4_scale (rv_X4 hG hr0) rfl rfl rfl (by decide) (Nat.zero_le _) (Nat.zero_le _) (Nat.le_of_ble_eq_true rfl) dX6_setLowerMiddle_60 ?_
    obtain rfl := Option.some.inj h
    exact FinV.z hK dX6_setLowerMiddle_63
  · replace h := it_n hc h
    refine aw_aload_n hG 0 rfl dX6_setLowerMiddle_8 rfl ?_
    refine aw_ldc2 hG l_459 dX6_setLowerMiddle_9 ?_
    refine aw_aload_n hG 1 rfl dX6_setLowerMiddle_12 rfl ?_
    refine aw_lload_n hG 2 rfl dX6_setLowerMiddle_13 rfl ?_
    refine aw_callNl (As := [.long x2]) (rest := [.long 4, .ref (wad (cxw g) (9 + 2 * r0))]) hG (c_X2_wholeOf (f0 := f1) (x1 := x2) (c := c) hf1) l_446 wf_X2_wholeOf (rv_X2 hG hf1) rfl rfl rfl (by decide) (Nat.zero_le _) (Nat.zero_le _) (Nat.le_of_ble_eq_true rfl) dX6_setLowerMiddle_14 ?_
    refine aw_lmul hG dX6_setLowerMiddle_17 ?_
    refine aw_lconst (v := 1) hG dX6_setLowerMiddle_18 rfl ?_
    refine aw_lsub hG dX6_setLowerMiddle_19 ?_
    obtain ⟨v_3, hv_3, h⟩ := bd_o h
    refine aw_callVv (As := [.long ((4 * (f_X2_wholeOf f1 x2)) - 1)]) (rest := []) hG (c_X4_setWhole (r0 := r0) (x1 := (4 * (f_X2_wholeOf f1 x2)) - 1) (c := c) hr0 hv_3) l_450 wv_X4_setWhole (rv_X4 hG hr0) rfl rfl rfl (by decide) (Nat.zero_le _) (Nat.zero_le _) (Nat.le_of_ble_eq_true rfl) dX6_setLowerMiddle_20 ?_
    refine aw_aload_n hG 0 rfl dX6_setLowerMiddle_23 rfl ?_
    refine aw_aload_n hG 1 rfl dX6_setLowerMiddle_24 rfl ?_
    refine aw_lload_n hG 2 rfl dX6_setLowerMiddle_25 rfl ?_
    refine aw_callNi (As := [.long x2]) (rest := [.ref (wad (cxw g) (9 + 2 * r0))]) hG (c_X2_unitOf (f0 := f1) (x1 := x2) (c := v_3) hf1) l_455 wf_X2_unitOf (rv_X2 hG hf1) rfl rfl rfl (by decide) (Nat.zero_le _) (Nat.zero_le _) (Nat.le_of_ble_eq_true rfl) dX6_setLowerMiddle_26 ?_
    refine aw_iconst (v := 2) hG dX6_setLowerMiddle_29 rfl ?_
    refine aw_isub hG dX6_setLowerMiddle_30 ?_
    obtain ⟨v_4, hv_4, h⟩ := bd_o h
    refine aw_callVv (As := [.int ((f_X2_unitOf f1 x2) - 2)]) (rest := []) hG (c_X4_scale (r0 := r0) (x1 := (f_X2_unitOf f1 x2) - 2) (c := v_3) hr0 hv_4) l_313 wv_X4_scale (rv_X4 hG hr0) rfl rfl rfl (by decide) (Nat.zero_le _) (Nat.zero_le _) (Nat.le_of_ble_eq_true rfl) dX6_setLowerMiddle_31 ?_
    refine aw_goto (t := 63) hG dX6_setLowerMiddle_34 rfl ?_
    obtain rfl := Option.some.inj h
    exact FinV.z hK dX6_setLowerMiddle_63
theorem c_X6_setLowerMiddle {c : CS} {m : MS} {z : Nat → Int64} {r0 : Nat} {f1 : Nat} {x2 : Int64} {s : CS} (hr0 : r0 < 4) (hf1 : f1 < 4) (h : f_X6_setLowerMiddle r0 f1 x2 c = some s) : Ct yX6_setLowerMiddle cX6_setLowerMiddle 4 none 5 (fun w => [.ref (wad w (9 + 2 * r0)), .ref (wad w (30 + f1)), .long x2]) (c, m, z) (fun _ => none) (s, m, z) := Ct_ofV (by decide +kernel) (fun _ => Nat.le_of_ble_eq_true rfl) (fun g hG hK => w_X6_setLowerMiddle hr0 hf1 hG h hK)
noncomputable def f_X6_setMiddle (r0 : Nat) (f1 : Nat) (x2 : Int64) (c : CS) : Option CS :=
  Option.bind (f_X4_setWhole r0 ((2 * (f_X2_wholeOf f1 x2)) + 1) c) fun v_1 =>
  Option.bind (f_X4_scale r0 ((f_X2_unitOf f1 x2) - 1) v_1) fun v_2 =>
  some v_2
set_option maxRecDepth 20000 in
theorem w_X6_setMiddle {g : Cx} {mc ms : Nat} {c : CS} {m : MS} {z : Nat → Int64} {r0 : Nat} {f1 : Nat} {x2 : Int64} {s : CS} (hr0 : r0 < 4) (hf1 : f1 < 4) (hG : Gd g RX6 cX6_setMiddle 4 5 mc ms) (h : f_X6_setMiddle r0 f1 x2 c = some s) (hK : FinV g cX6_setMiddle mc ms (s, m, z)) : AW g 0 [(0, .ref (wad (cxw g) (9 + 2 * r0))), (1, .ref (wad (cxw g) (30 + f1))), (2, .long x2)] [] (c, m, z) 0 0 := by
  unfold f_X6_setMiddle at h
  refine aw_aload_n hG 0 rfl dX6_setMiddle_0 rfl ?_
  refine aw_ldc2 hG l_445 dX6_setMiddle_1 ?_
  refine aw_aload_n hG 1 rfl dX6_setMiddle_4 rfl ?_
  refine aw_lload_n hG 2 rfl dX6_setMiddle_5 rfl ?_
  refine aw_callNl (As := [.long x2]) (rest := [.long 2, .ref (wad (cxw g) (9 + 2 * r0))]) hG (c_X2_wholeOf (f0 := f1) (x1 := x2) (c := c) hf1) l_446 wf_X2_wholeOf (rv_X2 hG hf1) rfl rfl rfl (by decide) (Nat.zero_le _) (Nat.zero_le _) (Nat.le_of_ble_eq_true rfl) dX6_setMiddle_6 ?_
  refine aw_lmul hG dX6_setMiddle_9 ?_
  refine aw_lconst (v := 1) hG dX6_setMiddle_10 rfl ?_
  refine aw_ladd hG dX6_setMiddle_11 ?_
  obtain ⟨v_1, hv_1, h⟩ := bd_o h
  refine aw_callVv (As := [.long ((2 * (f_X2_wholeOf f1 x2)) + 1)]) (rest := []) hG (c_X4_setWhole (r0 := r0) (x1 := (2 * (f_X2_wholeOf f1 x2)) + 1) (c := c) hr0 hv_1) l_450 wv_X4_setWhole (rv_X4 hG hr0) rfl rfl rfl (by decide) (Nat.zero_le _) (Nat.zero_le _) (Nat.le_of_ble_eq_true rfl) dX6_setMiddle_12 ?_
  refine aw_aload_n hG 0 rfl dX6_setMiddle_15 rfl ?_
  refine aw_aload_n hG 1 rfl dX6_setMiddle_16 rfl ?_
  refine aw_lload_n hG 2 rfl dX6_setMiddle_17 rfl ?_
  refine aw_callNi (As := [.long x2]) (rest := [.ref (wad (cxw g) (9 + 2 * r0))]) hG (c_X2_unitOf (f0 := f1) (x1 := x2) (c := v_1) hf1) l_455 wf_X2_unitOf (rv_X2 hG hf1) rfl rfl rfl (by decide) (Nat.zero_le _) (Nat.zero_le _) (Nat.le_of_ble_eq_true rfl) dX6_setMiddle_18 ?_
  refine aw_iconst (v := 1) hG dX6_setMiddle_21 rfl ?_
  refine aw_isub hG dX6_setMiddle_22 ?_
  obtain ⟨v_2, hv_2, h⟩ := bd_o h
  refine aw_callVv (As := [.int ((f_X2_unitOf f1 x2) - 1)]) (rest := []) hG (c_X4_scale (r0 := r0) (x1 := (f_X2_unitOf f1 x2) - 1) (c := v_1) hr0 hv_2) l_313 wv_X4_scale (rv_X4 hG hr0) rfl rfl rfl (by decide) (Nat.zero_le _) (Nat.zero_le _) (Nat.le_of_ble_eq_true rfl) dX6_setMiddle_23 ?_
  obtain rfl := Option.some.inj h
  exact FinV.z hK dX6_setMiddle_26
theorem c_X6_setMiddle {c : CS} {m : MS} {z : Nat → Int64} {r0 : Nat} {f1 : Nat} {x2 : Int64} {s : CS} (hr0 : r0 < 4) (hf1 : f1 < 4) (h : f_X6_setMiddle r0 f1 x2 c = some s) : Ct yX6_setMiddle cX6_setMiddle 4 none 5 (fun w => [.ref (wad w (9 + 2 * r0)), .ref (wad w (30 + f1)), .long x2]) (c, m, z) (fun _ => none) (s, m, z) := Ct_ofV (by decide +kernel) (fun _ => Nat.le_of_ble_eq_true rfl) (fun g hG hK => w_X6_setMiddle hr0 hf1 hG h hK)
noncomputable def f_X6_setSize (r0 : Nat) (f1 : Nat) (x2 : Int64) (c : CS) : Option CS :=
  Option.bind (f_X4_setWhole r0 (f_X2_wholeOf f1 x2) c) fun v_1 =>
  Option.bind (f_X4_scale r0 (f_X2_unitOf f1 x2) v_1) fun v_2 =>
  some v_2
set_option maxRecDepth 20000 in
theorem w_X6_setSize {g : Cx} {mc ms : Nat} {c : CS} {m : MS} {z : Nat → Int64} {r0 : Nat} {f1 : Nat} {x2 : Int64} {s : CS} (hr0 : r0 < 4) (hf1 : f1 < 4) (hG : Gd g RX6 cX6_setSize 4 5 mc ms) (h : f_X6_setSize r0 f1 x2 c = some s) (hK : FinV g cX6_setSize mc ms (s, m, z)) : AW g 0 [(0, .ref (wad (cxw g) (9 + 2 * r0))), (1, .ref (wad (cxw g) (30 + f1))), (2, .long x2)] [] (c, m, z) 0 0 := by
  unfold f_X6_setSize at h
  refine aw_aload_n hG 0 rfl dX6_setSize_0 rfl ?_
  refine aw_aload_n hG 1 rfl dX6_setSize_1 rfl ?_
  refine aw_lload_n hG 2 rfl dX6_setSize_2 rfl ?_
  refine aw_callNl (As := [.long x2]) (rest := [.ref (wad (cxw g) (9 + 2 * r0))]) hG (c_X2_wholeOf (f0 := f1) (x1 := x2) (c := c) hf1) l_446 wf_X2_wholeOf (rv_X2 hG hf1) rfl rfl rfl (by decide) (Nat.zero_le _) (Nat.zero_le _) (Nat.le_of_ble_eq_true rfl) dX6_setSize_3 ?_
  obtain ⟨v_1, hv_1, h⟩ := bd_o h
  refine aw_callVv (As := [.long (f_X2_wholeOf f1 x2)]) (rest := []) hG (c_X4_setWhole (r0 := r0) (x1 := f_X2_wholeOf f1 x2) (c := c) hr0 hv_1) l_450 wv_X4_setWhole (rv_X4 hG hr0) rfl rfl rfl (by decide) (Nat.zero_le _) (Nat.zero_le _) (Nat.le_of_ble_eq_true rfl) dX6_setSize_6 ?_
  refine aw_aload_n hG 0 rfl dX6_setSize_9 rfl ?_
  refine aw_aload_n hG 1 rfl dX6_setSize_10 rfl ?_
  refine aw_lload_n hG 2 rfl dX6_setSize_11 rfl ?_
  refine aw_callNi (As := [.long x2]) (rest := [.ref (wad (cxw g) (9 + 2 * r0))]) hG (c_X2_unitOf (f0 := f1) (x1 := x2) (c := v_1) hf1) l_455 wf_X2_unitOf (rv_X2 hG hf1) rfl rfl rfl (by decide) (Nat.zero_le _) (Nat.zero_le _) (Nat.le_of_ble_eq_true rfl) dX6_setSize_12 ?_
  obtain ⟨v_2, hv_2, h⟩ := bd_o h
  refine aw_callVv (As := [.int (f_X2_unitOf f1 x2)]) (rest := []) hG (c_X4_scale (r0 := r0) (x1 := f_X2_unitOf f1 x2) (c := v_1) hr0 hv_2) l_313 wv_X4_scale (rv_X4 hG hr0) rfl rfl rfl (by decide) (Nat.zero_le _) (Nat.zero_le _) (Nat.le_of_ble_eq_true rfl) dX6_setSize_15 ?_
  obtain rfl := Option.some.inj h
  exact FinV.z hK dX6_setSize_18
theorem c_X6_setSize {c : CS} {m : MS} {z : Nat → Int64} {r0 : Nat} {f1 : Nat} {x2 : Int64} {s : CS} (hr0 : r0 < 4) (hf1 : f1 < 4) (h : f_X6_setSize r0 f1 x2 c = some s) : Ct yX6_setSize cX6_setSize 4 none 5 (fun w => [.ref (wad w (9 + 2 * r0)), .ref (wad w (30 + f1)), .long x2]) (c, m, z) (fun _ => none) (s, m, z) := Ct_ofV (by decide +kernel) (fun _ => Nat.le_of_ble_eq_true rfl) (fun g hG hK => w_X6_setSize hr0 hf1 hG h hK)
noncomputable def f_X6_findShortest_L54 (x4 : Int32) (x5 : Int32) (x6 : Int32) (c : CS) : Option ((Int32 × CS) ⊕ ((Int32 × CS) ⊕ CS)) :=
  if 20 ≤ x6 then
    some (.inr (.inr c))
  else
    Option.bind (f_X6_foundDownTo (x5 - x6) x4 c) fun v_5 =>
    if v_5.1 = 0 then
      lt (x6 + 1) fun x6_6 =>
      some (.inl (x6_6, v_5.2))
    else
      some (.inr (.inl (x6, v_5.2)))
set_option maxRecDepth 20000 in
theorem w_X6_findShortest_L54 {g : Cx} {mc ms : Nat} {c : CS} {m : MS} {z : Nat → Int64} {x4 : Int32} {x5 : Int32} {x6 : Int32} {s : ((Int32 × CS) ⊕ ((Int32 × CS) ⊕ CS))}  (hG : Gd g RX6 cX6_findShortest 7 7 mc ms) (h : f_X6_findShortest_L54 x4 x5 x6 c = some s) (hK : Sum.elim (fun a => AW g 54 [(0, .ref (wad (cxw g) 0)), (4, .int x4), (5, .int x5), (6, .int a.1)] [] (a.2, m, z) 0 0) (Sum.elim (fun e => AW g 75 [(6, .int e.1)] [] (e.2, m, z) 0 0) (fun e => AW g 84 [] [] (e, m, z) 0 0)) s) : AW g 54 [(0, .ref (wad (cxw g) 0)), (4, .int x4), (5, .int x5), (6, .int x6)] [] (c, m, z) 0 0 := by
  unfold f_X6_findShortest_L54 at h
  refine aw_iload hG 3 rfl dX6_findShortest_54 ?_
  refine aw_bipush (v := 20) hG dX6_findShortest_56 rfl ?_
  refine aw_icmp_ge (t := 84) hG dX6_findShortest_58 rfl (fun hc => ?_) (fun hc => ?_)
  · replace h := it_p hc h
    obtain rfl := Option.some.inj h
    refine aw_sub (L' := []) [] rfl ?_
    exact hK
  · replace h := it_n hc h
    refine aw_aload_n hG 0 rfl dX6_findShortest_61 rfl ?_
    refine aw_iload hG 2 rfl dX6_findShortest_62 ?_
    refine aw_iload hG 3 rfl dX6_findShortest_64 ?_
    refine aw_isub hG dX6_findShortest_66 ?_
    refine aw_iload hG 1 rfl dX6_findShortest_67 ?_
    obtain ⟨v_5, hv_5, h⟩ := bd_o h
    refine aw_callVi (As := [.int (x5 - x6), .int x4]) (rest := []) hG (c_X6_foundDownTo (x1 := x5 - x6) (x2 := x4) (c := c)  hv_5) l_472 wv_X6_foundDownTo (rv_X6 hG) rfl rfl rfl (by decide) (Nat.zero_le _) (Nat.zero_le _) (Nat.le_of_ble_eq_true rfl) dX6_findShortest_69 ?_
    refine aw_if_eq (t := 78) hG dX6_findShortest_72 rfl (fun hc => ?_) (fun hc => ?_)
    · replace h := it_p hc h
      obtain ⟨x6_6, hx6_6⟩ : ∃ y : Int32, y = x6 + 1 := ⟨_, rfl⟩
      replace h := lt_r hx6_6 h
      refine aw_iinc (v := x6_6) (L' := [(6, .int x6_6), (0, .ref (wad (cxw g) 0)), (4, .int x4), (5, .int x5)]) hG 3 rfl dX6_findShortest_78 (by rw [hx6_6]; rfl) (by decide) rfl ?_
      refine aw_goto (t := 54) hG dX6_findShortest_81 rfl ?_
      obtain rfl := Option.some.inj h
      refine aw_sub (L' := [(0, .ref (wad (cxw g) 0)), (4, .int x4), (5, .int x5), (6, .int x6_6)]) [1, 2, 3, 0] rfl ?_
      exact hK
    · replace h := it_n hc h
      obtain rfl := Option.some.inj h
      refine aw_sub (L' := [(6, .int x6)]) [3] rfl ?_
      exact hK
noncomputable def f_X6_findShortest_J40 (s0 : Int32) (c : CS) : Option (Int32 × CS) :=
  Option.bind (f_X4_point 0 c) fun v_4 =>
  Option.bind (Lp (fun a => f_X6_findShortest_L54 s0 v_4 a.1 a.2) (1, c)) fun e_9 =>
  Sum.elim (fun e_10 =>
    some (e_10.1, e_10.2)) (fun e_11 =>
    some (20, e_11)) e_9
set_option maxRecDepth 20000 in
theorem w_X6_findShortest_J40 {g : Cx} {mc ms : Nat} {c : CS} {m : MS} {z : Nat → Int64} {s0 : Int32} {s : (Int32 × CS)}  (hG : Gd g RX6 cX6_findShortest 7 7 mc ms) (h : f_X6_findShortest_J40 s0 c = some s) (hK : FinI g cX6_findShortest mc ms s.1 (s.2, m, z)) : AW g 40 [(0, .ref (wad (cxw g) 0))] [.int s0] (c, m, z) 0 0 := by
  unfold f_X6_findShortest_J40 at h
  refine aw_istore (L' := [(4, .int s0), (0, .ref (wad (cxw g) 0))]) hG dX6_findShortest_40 (by decide) rfl ?_
  refine aw_aload_n hG 1 rfl dX6_findShortest_42 rfl ?_
  refine gt_ft_number hG l_345 dX6_findShortest_43 ?_
  obtain ⟨v_4, hv_4, h⟩ := bd_o h
  refine aw_callVi (As := []) (rest := []) hG (c_X4_point (r0 := 0) (c := c) (by decide) hv_4) l_308 wv_X4_point (rv_X4 hG (by decide)) rfl rfl rfl (by decide) (Nat.zero_le _) (Nat.zero_le _) (Nat.le_of_ble_eq_true rfl) dX6_findShortest_46 ?_
  refine aw_istore (L' := [(5, .int v_4), (4, .int s0), (0, .ref (wad (cxw g) 0))]) hG dX6_findShortest_49 (by decide) rfl ?_
  refine aw_iconst (v := 1) hG dX6_findShortest_51 rfl ?_
  refine aw_istore (L' := [(6, .int 1), (5, .int v_4), (4, .int s0), (0, .ref (wad (cxw g) 0))]) hG dX6_findShortest_52 (by decide) rfl ?_
  obtain ⟨e_9, he, h⟩ := bd_o h
  refine aw_sub (L' := [(0, .ref (wad (cxw g) 0)), (4, .int s0), (5, .int v_4), (6, .int 1)]) [3, 2, 1, 0] rfl ?_
  refine Lp_w (F := (fun a => f_X6_findShortest_L54 s0 v_4 a.1 a.2)) (S := (fun a => AW g 54 [(0, .ref (wad (cxw g) 0)), (4, .int s0), (5, .int v_4), (6, .int a.1)] [] (a.2, m, z) 0 0)) (E := (Sum.elim (fun e => AW g 75 [(6, .int e.1)] [] (e.2, m, z) 0 0) (fun e => AW g 84 [] [] (e, m, z) 0 0))) (a := (1, c)) he (fun a s h hK => w_X6_findShortest_L54 (x4 := s0) (x5 := v_4) (x6 := a.1) (c := a.2) hG h hK) ?_
  rcases e_9 with e_10 | e_11
  · replace h := el_l h
    show AW g 75 _ _ _ 0 0
    refine aw_iload hG 0 rfl dX6_findShortest_75 ?_
    obtain rfl := Option.some.inj h
    exact FinI.z hK dX6_findShortest_77
  · replace h := el_r h
    show AW g 84 _ _ _ 0 0
    refine aw_bipush (v := 20) hG dX6_findShortest_84 rfl ?_
    obtain rfl := Option.some.inj h
    exact FinI.z hK dX6_findShortest_86
noncomputable def f_X6_findShortest (f1 : Nat) (x2 : Int64) (c : CS) : Option (Int32 × CS) :=
  Option.bind (f_X6_setSize 0 f1 x2 c) fun v_1 =>
  Option.bind (f_X6_setMiddle 2 f1 x2 v_1) fun v_2 =>
  Option.bind (f_X6_setLowerMiddle 1 f1 x2 v_2) fun v_3 =>
  if (x2 &&& 1) = 0 then
    f_X6_findShortest_J40 1 v_3
  else
    f_X6_findShortest_J40 0 v_3
set_option maxRecDepth 20000 in
theorem w_X6_findShortest {g : Cx} {mc ms : Nat} {c : CS} {m : MS} {z : Nat → Int64} {f1 : Nat} {x2 : Int64} {s : (Int32 × CS)} (hf1 : f1 < 4) (hG : Gd g RX6 cX6_findShortest 7 7 mc ms) (h : f_X6_findShortest f1 x2 c = some s) (hK : FinI g cX6_findShortest mc ms s.1 (s.2, m, z)) : AW g 0 [(0, .ref (wad (cxw g) 0)), (1, .ref (wad (cxw g) (30 + f1))), (2, .long x2)] [] (c, m, z) 0 0 := by
  unfold f_X6_findShortest at h
  refine aw_aload_n hG 0 rfl dX6_findShortest_0 rfl ?_
  refine gt_ft_number hG l_345 dX6_findShortest_1 ?_
  refine aw_aload_n hG 1 rfl dX6_findShortest_4 rfl ?_
  refine aw_lload_n hG 2 rfl dX6_findShortest_5 rfl ?_
  obtain ⟨v_1, hv_1, h⟩ := bd_o h
  refine aw_callSv (As := [.ref (wad (cxw g) (9 + 2 * 0)), .ref (wad (cxw g) (30 + f1)), .long x2]) (rest := []) hG (c_X6_setSize (r0 := 0) (f1 := f1) (x2 := x2) (c := c) (by decide) hf1 hv_1) l_460 ws_X6_setSize rfl rfl rfl (by decide) (Nat.zero_le _) (Nat.zero_le _) (Nat.le_of_ble_eq_true rfl) dX6_findShortest_6 ?_
  refine aw_aload_n hG 0 rfl dX6_findShortest_9 rfl ?_
  refine gt_ft_high hG l_435 dX6_findShortest_10 ?_
  refine aw_aload_n hG 1 rfl dX6_findShortest_13 rfl ?_
  refine aw_lload_n hG 2 rfl dX6_findShortest_14 rfl ?_
  obtain ⟨v_2, hv_2, h⟩ := bd_o h
  refine aw_callSv (As := [.ref (wad (cxw g) (9 + 2 * 2)), .ref (wad (cxw g) (30 + f1)), .long x2]) (rest := []) hG (c_X6_setMiddle (r0 := 2) (f1 := f1) (x2 := x2) (c := v_1) (by decide) hf1 hv_2) l_464 ws_X6_setMiddle rfl rfl rfl (by decide) (Nat.zero_le _) (Nat.zero_le _) (Nat.le_of_ble_eq_true rfl) dX6_findShortest_15 ?_
  refine aw_aload_n hG 0 rfl dX6_findShortest_18 rfl ?_
  refine gt_ft_low hG l_429 dX6_findShortest_19 ?_
  refine aw_aload_n hG 1 rfl dX6_findShortest_22 rfl ?_
  refine aw_lload_n hG 2 rfl dX6_findShortest_23 rfl ?_
  obtain ⟨v_3, hv_3, h⟩ := bd_o h
  refine aw_callSv (As := [.ref (wad (cxw g) (9 + 2 * 1)), .ref (wad (cxw g) (30 + f1)), .long x2]) (rest := []) hG (c_X6_setLowerMiddle (r0 := 1) (f1 := f1) (x2 := x2) (c := v_2) (by decide) hf1 hv_3) l_468 ws_X6_setLowerMiddle rfl rfl rfl (by decide) (Nat.zero_le _) (Nat.zero_le _) (Nat.le_of_ble_eq_true rfl) dX6_findShortest_24 ?_
  refine aw_lload_n hG 2 rfl dX6_findShortest_27 rfl ?_
  refine aw_lconst (v := 1) hG dX6_findShortest_28 rfl ?_
  refine aw_land hG dX6_findShortest_29 ?_
  refine aw_lconst (v := 0) hG dX6_findShortest_30 rfl ?_
  refine aw_lc_ne (t := 39) hG dX6_findShortest_31 rfl dX6_findShortest_32 rfl rfl (fun hc => ?_) (fun hc => ?_)
  · replace h := it_n hc h
    refine aw_iconst (v := 0) hG dX6_findShortest_39 rfl ?_
    refine aw_sub (L' := [(0, .ref (wad (cxw g) 0))]) [0] rfl ?_
    exact w_X6_findShortest_J40 (s0 := 0) (c := v_3) hG h hK
  · replace h := it_p hc h
    refine aw_iconst (v := 1) hG dX6_findShortest_35 rfl ?_
    refine aw_goto (t := 40) hG dX6_findShortest_36 rfl ?_
    refine aw_sub (L' := [(0, .ref (wad (cxw g) 0))]) [0] rfl ?_
    exact w_X6_findShortest_J40 (s0 := 1) (c := v_3) hG h hK
theorem c_X6_findShortest {c : CS} {m : MS} {z : Nat → Int64} {f1 : Nat} {x2 : Int64} {s : Int32 × CS} (hf1 : f1 < 4) (h : f_X6_findShortest f1 x2 c = some s) : Ct yX6_findShortest cX6_findShortest 7 (some .int) 7 (fun w => [.ref (wad w 0), .ref (wad w (30 + f1)), .long x2]) (c, m, z) (fun _ => some (.int s.1)) (s.2, m, z) := Ct_ofI (by decide +kernel) (fun _ => Nat.le_of_ble_eq_true rfl) (fun g hG hK => w_X6_findShortest hf1 hG h hK)
def f_X6_needForm (x0 : Int32) : Option (Unit ⊕ Unit) :=
  if x0 < 0 then
    some (.inl ())
  else
    if x0 ≤ 2 then
      some (.inr ())
    else
      some (.inl ())
set_option maxRecDepth 20000 in
theorem w_X6_needForm {g : Cx} {mc ms : Nat} {c : CS} {m : MS} {z : Nat → Int64} {x0 : Int32} {s : (Unit ⊕ Unit)}  (hG : Gd g RX6 cX6_needForm 1 7 mc ms) (h : f_X6_needForm x0 = some s) (hK : Sum.elim (fun _ : Unit => Gd g RX6 cX6_needForm 1 7 1 6 ∧ FinT g wIA (c, m, z)) (fun s => FinV g cX6_needForm mc ms (c, m, z)) s) : AW g 0 [(0, .int x0)] [] (c, m, z) 0 0 := by
  unfold f_X6_needForm at h
  refine aw_iload_n hG 0 rfl dX6_needForm_0 rfl ?_
  refine aw_if_lt (t := 9) hG dX6_needForm_1 rfl (fun hc => ?_) (fun hc => ?_)
  · replace h := it_p hc h
    obtain rfl := Option.some.inj h
    exact aw_throwIAW (j := 6) hK.1 (by decide) hK.2 rfl dX6_needForm_9 dX6_needForm_12 dX6_needForm_13 dX6_needForm_16 dX6_needForm_19
  · replace h := it_n hc h
    refine aw_iload_n hG 0 rfl dX6_needForm_4 rfl ?_
    refine aw_iconst (v := 2) hG dX6_needForm_5 rfl ?_
    refine aw_icmp_le (t := 20) hG dX6_needForm_6 rfl (fun hc => ?_) (fun hc => ?_)
    · replace h := it_p hc h
      obtain rfl := Option.some.inj h
      exact FinV.z hK dX6_needForm_20
    · replace h := it_n hc h
      obtain rfl := Option.some.inj h
      exact aw_throwIAW (j := 6) hK.1 (by decide) hK.2 rfl dX6_needForm_9 dX6_needForm_12 dX6_needForm_13 dX6_needForm_16 dX6_needForm_19
theorem c_X6_needForm {c : CS} {m : MS} {z : Nat → Int64} {x0 : Int32} {s : Unit}  (h : f_X6_needForm x0 = some (.inr s)) : Ct yX6_needForm cX6_needForm 1 none 7 (fun w => [.int x0]) (c, m, z) (fun _ => none) (c, m, z) := Ct_ofV (by decide +kernel) (fun _ => Nat.le_of_ble_eq_true rfl) (fun g hG hK => w_X6_needForm hG h hK)
theorem ct_X6_needForm {c : CS} {m : MS} {z : Nat → Int64} {x0 : Int32}  (h : f_X6_needForm x0 = some (.inl ())) : CtT yX6_needForm cX6_needForm 1 none 7 (fun w => [.int x0]) (c, m, z) wIA := CtT_of (by decide +kernel) (fun _ => Nat.le_of_ble_eq_true rfl) (fun g hG hK => w_X6_needForm hG h ⟨hG, hK⟩)
def f_X6_needPattern (f0 : Nat) (x1 : Int64) : Option (Unit ⊕ Unit) :=
  if (f_X2_owns f0 x1) = 0 then
    some (.inl ())
  else
    some (.inr ())
set_option maxRecDepth 20000 in
theorem w_X6_needPattern {g : Cx} {mc ms : Nat} {c : CS} {m : MS} {z : Nat → Int64} {f0 : Nat} {x1 : Int64} {s : (Unit ⊕ Unit)} (hf0 : f0 < 4) (hG : Gd g RX6 cX6_needPattern 3 7 mc ms) (h : f_X6_needPattern f0 x1 = some s) (hK : Sum.elim (fun _ : Unit => Gd g RX6 cX6_needPattern 3 7 1 6 ∧ FinT g wIA (c, m, z)) (fun s => FinV g cX6_needPattern mc ms (c, m, z)) s) : AW g 0 [(0, .ref (wad (cxw g) (30 + f0))), (1, .long x1)] [] (c, m, z) 0 0 := by
  unfold f_X6_needPattern at h
  refine aw_aload_n hG 0 rfl dX6_needPattern_0 rfl ?_
  refine aw_lload_n hG 1 rfl dX6_needPattern_1 rfl ?_
  refine aw_callNi (As := [.long x1]) (rest := []) hG (c_X2_owns (f0 := f0) (x1 := x1) (c := c) hf0) l_477 wf_X2_owns (rv_X2 hG hf0) rfl rfl rfl (by decide) (Nat.zero_le _) (Nat.zero_le _) (Nat.le_of_ble_eq_true rfl) dX6_needPattern_2 ?_
  refine aw_if_ne (t := 19) hG dX6_needPattern_5 rfl (fun hc => ?_) (fun hc => ?_)
  · replace h := it_n hc h
    obtain rfl := Option.some.inj h
    exact FinV.z hK dX6_needPattern_19
  · replace h := it_p hc h
    obtain rfl := Option.some.inj h
    exact aw_throwIAW (j := 5) hK.1 (by decide) hK.2 rfl dX6_needPattern_8 dX6_needPattern_11 dX6_needPattern_12 dX6_needPattern_15 dX6_needPattern_18
theorem c_X6_needPattern {c : CS} {m : MS} {z : Nat → Int64} {f0 : Nat} {x1 : Int64} {s : Unit} (hf0 : f0 < 4) (h : f_X6_needPattern f0 x1 = some (.inr s)) : Ct yX6_needPattern cX6_needPattern 3 none 7 (fun w => [.ref (wad w (30 + f0)), .long x1]) (c, m, z) (fun _ => none) (c, m, z) := Ct_ofV (by decide +kernel) (fun _ => Nat.le_of_ble_eq_true rfl) (fun g hG hK => w_X6_needPattern hf0 hG h hK)
theorem ct_X6_needPattern {c : CS} {m : MS} {z : Nat → Int64} {f0 : Nat} {x1 : Int64} (hf0 : f0 < 4) (h : f_X6_needPattern f0 x1 = some (.inl ())) : CtT yX6_needPattern cX6_needPattern 3 none 7 (fun w => [.ref (wad w (30 + f0)), .long x1]) (c, m, z) wIA := CtT_of (by decide +kernel) (fun _ => Nat.le_of_ble_eq_true rfl) (fun g hG hK => w_X6_needPattern hf0 hG h ⟨hG, hK⟩)
def f_X6_shapeOwning (x0 : Int32) (x1 : Int64) : Option (Unit ⊕ Nat) :=
  tbd (f_X6_shapeOf x0) fun v_1 =>
  tbd (f_X6_needPattern v_1 x1) fun v_2 =>
  some (.inr v_1)
set_option maxRecDepth 20000 in
theorem w_X6_shapeOwning {g : Cx} {mc ms : Nat} {c : CS} {m : MS} {z : Nat → Int64} {x0 : Int32} {x1 : Int64} {s : (Unit ⊕ Nat)}  (hG : Gd g RX6 cX6_shapeOwning 4 8 mc ms) (h : f_X6_shapeOwning x0 x1 = some s) (hK : Sum.elim (fun _ : Unit => Gd g RX6 cX6_shapeOwning 4 8 1 6 ∧ FinT g wIA (c, m, z)) (fun s => FinA g cX6_shapeOwning mc ms (wad (cxw g) (30 + s)) (c, m, z)) s) : AW g 0 [(0, .int x0), (1, .long x1)] [] (c, m, z) 0 0 := by
  unfold f_X6_shapeOwning at h
  refine aw_iload_n hG 0 rfl dX6_shapeOwning_0 rfl ?_
  rcases tb_o h with ⟨hv, rfl⟩ | ⟨v_1, hv_1, h⟩
  · exact aw_callST (As := [.int x0]) (rest := []) hK.1 (ct_X6_shapeOf (x0 := x0) (c := c)  hv) hK.2 l_388 ws_X6_shapeOf rfl rfl rfl (by decide) (Nat.le_of_ble_eq_true rfl) dX6_shapeOwning_1
  refine aw_callSa (As := [.int x0]) (rest := []) hG (c_X6_shapeOf (x0 := x0) (c := c)  hv_1) l_388 ws_X6_shapeOf rfl rfl rfl (by decide) (Nat.zero_le _) (Nat.zero_le _) (Nat.le_of_ble_eq_true rfl) dX6_shapeOwning_1 ?_
  have hhv_1 : v_1 < 4 := p_X6_shapeOf hv_1
  refine aw_astore_n (L' := [(3, .ref (wad (cxw g) (30 + v_1))), (0, .int x0), (1, .long x1)]) hG dX6_shapeOwning_4 rfl (by decide) rfl ?_
  refine aw_aload_n hG 0 rfl dX6_shapeOwning_5 rfl ?_
  refine aw_lload_n hG 2 rfl dX6_shapeOwning_6 rfl ?_
  rcases tb_o h with ⟨hv, rfl⟩ | ⟨v_2, hv_2, h⟩
  · exact aw_callST (As := [.ref (wad (cxw g) (30 + v_1)), .long x1]) (rest := []) hK.1 (ct_X6_needPattern (f0 := v_1) (x1 := x1) (c := c) hhv_1 hv) hK.2 l_481 ws_X6_needPattern rfl rfl rfl (by decide) (Nat.le_of_ble_eq_true rfl) dX6_shapeOwning_7
  refine aw_callSv (As := [.ref (wad (cxw g) (30 + v_1)), .long x1]) (rest := []) hG (c_X6_needPattern (f0 := v_1) (x1 := x1) (c := c) hhv_1 hv_2) l_481 ws_X6_needPattern rfl rfl rfl (by decide) (Nat.zero_le _) (Nat.zero_le _) (Nat.le_of_ble_eq_true rfl) dX6_shapeOwning_7 ?_
  refine aw_aload_n hG 0 rfl dX6_shapeOwning_10 rfl ?_
  obtain rfl := Option.some.inj h
  exact FinA.z hK dX6_shapeOwning_11
theorem c_X6_shapeOwning {c : CS} {m : MS} {z : Nat → Int64} {x0 : Int32} {x1 : Int64} {s : Nat}  (h : f_X6_shapeOwning x0 x1 = some (.inr s)) : Ct yX6_shapeOwning cX6_shapeOwning 4 (some (.object "FloatTexts$Format")) 8 (fun w => [.int x0, .long x1]) (c, m, z) (fun w => some (.ref (wad w (30 + s)))) (c, m, z) := Ct_ofA (by decide +kernel) (fun _ => Nat.le_of_ble_eq_true rfl) (fun g hG hK => w_X6_shapeOwning hG h hK)
theorem ct_X6_shapeOwning {c : CS} {m : MS} {z : Nat → Int64} {x0 : Int32} {x1 : Int64}  (h : f_X6_shapeOwning x0 x1 = some (.inl ())) : CtT yX6_shapeOwning cX6_shapeOwning 4 (some (.object "FloatTexts$Format")) 8 (fun w => [.int x0, .long x1]) (c, m, z) wIA := CtT_of (by decide +kernel) (fun _ => Nat.le_of_ble_eq_true rfl) (fun g hG hK => w_X6_shapeOwning hG h ⟨hG, hK⟩)
theorem p_X6_shapeOwning {x0 : Int32} {x1 : Int64} {s : Nat} (h : f_X6_shapeOwning x0 x1 = some (.inr s)) : s < 4 := by
  unfold f_X6_shapeOwning at h
  rcases tb_o h with ⟨_, h2⟩ | ⟨v, hv, h⟩
  · cases h2
  · rcases tb_o h with ⟨_, h2⟩ | ⟨u, hu, h⟩
    · cases h2
    · cases h
      exact p_X6_shapeOf hv
noncomputable def f_X6_tellName_J45 (q0 : Nat) (q1 : Nat) (c : CS) : Option (Int32 × CS) :=
  Option.bind (f_X0_addWord q1 q0 c) fun v_3 =>
  some (brN v_3 1, v_3)
set_option maxRecDepth 20000 in
theorem w_X6_tellName_J45 {g : Cx} {mc ms : Nat} {c : CS} {m : MS} {z : Nat → Int64} {q0 : Nat} {q1 : Nat} {s : (Int32 × CS)} (hq0 : q0 < 27) (hq1 : q1 < 2) (hG : Gd g RX6 cX6_tellName 4 6 mc ms) (h : f_X6_tellName_J45 q0 q1 c = some s) (hK : FinI g cX6_tellName mc ms s.1 (s.2, m, z)) : AW g 45 [(0, .ref (wad (cxw g) 0))] [.ref (wad (cxw g) (40 + q0)), .ref (wad (cxw g) (1 + 2 * q1))] (c, m, z) 0 0 := by
  unfold f_X6_tellName_J45 at h
  obtain ⟨v_3, hv_3, h⟩ := bd_o h
  refine aw_callVv (As := [.ref (wad (cxw g) (40 + q0))]) (rest := []) hG (c_X0_addWord (t0 := q1) (j1 := q0) (c := c) hq1 hq0 hv_3) l_501 wv_X0_addWord (rv_X0 hG hq1) rfl rfl rfl (by decide) (Nat.zero_le _) (Nat.zero_le _) (Nat.le_of_ble_eq_true rfl) dX6_tellName_45 ?_
  refine aw_aload_n hG 0 rfl dX6_tellName_48 rfl ?_
  refine gt_ft_made hG l_301 dX6_tellName_49 ?_
  refine gt_brN hG (by decide) l_300 dX6_tellName_52 ?_
  obtain rfl := Option.some.inj h
  exact FinI.z hK dX6_tellName_55
noncomputable def f_X6_tellName (f1 : Nat) (x2 : Int64) (c : CS) : Option (Int32 × CS) :=
  Option.bind (f_X1_takeNone (f_X2_isMinus f1 x2) c) fun v_1 =>
  lt (f_X0_startWith 1 (f_X2_isMinus f1 x2) v_1) fun v_2 =>
  if (f_X2_isNan f1 x2) = 0 then
    f_X6_tellName_J45 8 1 v_2
  else
    f_X6_tellName_J45 7 1 v_2
set_option maxRecDepth 20000 in
theorem w_X6_tellName {g : Cx} {mc ms : Nat} {c : CS} {m : MS} {z : Nat → Int64} {f1 : Nat} {x2 : Int64} {s : (Int32 × CS)} (hf1 : f1 < 4) (hG : Gd g RX6 cX6_tellName 4 6 mc ms) (h : f_X6_tellName f1 x2 c = some s) (hK : FinI g cX6_tellName mc ms s.1 (s.2, m, z)) : AW g 0 [(0, .ref (wad (cxw g) 0)), (1, .ref (wad (cxw g) (30 + f1))), (2, .long x2)] [] (c, m, z) 0 0 := by
  unfold f_X6_tellName at h
  refine aw_aload_n hG 0 rfl dX6_tellName_0 rfl ?_
  refine gt_ft_told hG l_485 dX6_tellName_1 ?_
  refine aw_aload_n hG 1 rfl dX6_tellName_4 rfl ?_
  refine aw_lload_n hG 2 rfl dX6_tellName_5 rfl ?_
  refine aw_callNi (As := [.long x2]) (rest := [.ref (wad (cxw g) 5)]) hG (c_X2_isMinus (f0 := f1) (x1 := x2) (c := c) hf1) l_486 wf_X2_isMinus (rv_X2 hG hf1) rfl rfl rfl (by decide) (Nat.zero_le _) (Nat.zero_le _) (Nat.le_of_ble_eq_true rfl) dX6_tellName_6 ?_
  obtain ⟨v_1, hv_1, h⟩ := bd_o h
  refine aw_callVv (As := [.int (f_X2_isMinus f1 x2)]) (rest := []) hG (c_X1_takeNone (x1 := f_X2_isMinus f1 x2) (c := c)  hv_1) l_487 wv_X1_takeNone (rv_X1 hG) rfl rfl rfl (by decide) (Nat.zero_le _) (Nat.zero_le _) (Nat.le_of_ble_eq_true rfl) dX6_tellName_9 ?_
  refine aw_aload_n hG 0 rfl dX6_tellName_12 rfl ?_
  refine gt_ft_made hG l_301 dX6_tellName_13 ?_
  refine aw_aload_n hG 1 rfl dX6_tellName_16 rfl ?_
  refine aw_lload_n hG 2 rfl dX6_tellName_17 rfl ?_
  refine aw_callNi (As := [.long x2]) (rest := [.ref (wad (cxw g) (1 + 2 * 1))]) hG (c_X2_isMinus (f0 := f1) (x1 := x2) (c := v_1) hf1) l_486 wf_X2_isMinus (rv_X2 hG hf1) rfl rfl rfl (by decide) (Nat.zero_le _) (Nat.zero_le _) (Nat.le_of_ble_eq_true rfl) dX6_tellName_18 ?_
  obtain ⟨v_2, hv_2⟩ : ∃ y, y = f_X0_startWith 1 (f_X2_isMinus f1 x2) v_1 := ⟨_, rfl⟩
  replace h := lt_r hv_2 h
  refine aw_callVv (As := [.int (f_X2_isMinus f1 x2)]) (rest := []) hG (c_X0_startWith (t0 := 1) (x1 := f_X2_isMinus f1 x2) (c := v_1) (by decide) hv_2.symm) l_492 wv_X0_startWith (rv_X0 hG (by decide)) rfl rfl rfl (by decide) (Nat.zero_le _) (Nat.zero_le _) (Nat.le_of_ble_eq_true rfl) dX6_tellName_21 ?_
  refine aw_aload_n hG 0 rfl dX6_tellName_24 rfl ?_
  refine gt_ft_made hG l_301 dX6_tellName_25 ?_
  refine aw_aload_n hG 1 rfl dX6_tellName_28 rfl ?_
  refine aw_lload_n hG 2 rfl dX6_tellName_29 rfl ?_
  refine aw_callNi (As := [.long x2]) (rest := [.ref (wad (cxw g) (1 + 2 * 1))]) hG (c_X2_isNan (f0 := f1) (x1 := x2) (c := v_2) hf1) l_497 wf_X2_isNan (rv_X2 hG hf1) rfl rfl rfl (by decide) (Nat.zero_le _) (Nat.zero_le _) (Nat.le_of_ble_eq_true rfl) dX6_tellName_30 ?_
  refine aw_if_eq (t := 42) hG dX6_tellName_33 rfl (fun hc => ?_) (fun hc => ?_)
  · replace h := it_p hc h
    refine aw_ldcSW (j := 8) hG rfl dX6_tellName_42 ?_
    refine aw_sub (L' := [(0, .ref (wad (cxw g) 0))]) [0] rfl ?_
    exact w_X6_tellName_J45 (q0 := 8) (q1 := 1) (c := v_2) (by decide) (by decide) hG h hK
  · replace h := it_n hc h
    refine aw_ldcSW (j := 7) hG rfl dX6_tellName_36 ?_
    refine aw_goto (t := 45) hG dX6_tellName_39 rfl ?_
    refine aw_sub (L' := [(0, .ref (wad (cxw g) 0))]) [0] rfl ?_
    exact w_X6_tellName_J45 (q0 := 7) (q1 := 1) (c := v_2) (by decide) (by decide) hG h hK
theorem c_X6_tellName {c : CS} {m : MS} {z : Nat → Int64} {f1 : Nat} {x2 : Int64} {s : Int32 × CS} (hf1 : f1 < 4) (h : f_X6_tellName f1 x2 c = some s) : Ct yX6_tellName cX6_tellName 4 (some .int) 6 (fun w => [.ref (wad w 0), .ref (wad w (30 + f1)), .long x2]) (c, m, z) (fun _ => some (.int s.1)) (s.2, m, z) := Ct_ofI (by decide +kernel) (fun _ => Nat.le_of_ble_eq_true rfl) (fun g hG hK => w_X6_tellName hf1 hG h hK)
noncomputable def f_X6_tellRow_J55 (c : CS) : Option (Int32 × CS) :=
  Option.bind (f_X0_addPlain 1 c) fun v_4 =>
  some (brN v_4 1, v_4)
set_option maxRecDepth 20000 in
theorem w_X6_tellRow_J55 {g : Cx} {mc ms : Nat} {c : CS} {m : MS} {z : Nat → Int64}  {s : (Int32 × CS)}  (hG : Gd g RX6 cX6_tellRow 6 7 mc ms) (h : f_X6_tellRow_J55 c = some s) (hK : FinI g cX6_tellRow mc ms s.1 (s.2, m, z)) : AW g 55 [(0, .ref (wad (cxw g) 0))] [] (c, m, z) 0 0 := by
  unfold f_X6_tellRow_J55 at h
  refine aw_aload_n hG 0 rfl dX6_tellRow_55 rfl ?_
  refine gt_ft_made hG l_301 dX6_tellRow_56 ?_
  refine aw_aload_n hG 0 rfl dX6_tellRow_59 rfl ?_
  refine gt_ft_told hG l_485 dX6_tellRow_60 ?_
  obtain ⟨v_4, hv_4, h⟩ := bd_o h
  refine aw_callVv (As := [.ref (wad (cxw g) 5)]) (rest := []) hG (c_X0_addPlain (t0 := 1) (c := c) (by decide) hv_4) l_508 wv_X0_addPlain (rv_X0 hG (by decide)) rfl rfl rfl (by decide) (Nat.zero_le _) (Nat.zero_le _) (Nat.le_of_ble_eq_true rfl) dX6_tellRow_63 ?_
  refine aw_goto (t := 80) hG dX6_tellRow_66 rfl ?_
  refine aw_aload_n hG 0 rfl dX6_tellRow_80 rfl ?_
  refine gt_ft_made hG l_301 dX6_tellRow_81 ?_
  refine gt_brN hG (by decide) l_300 dX6_tellRow_84 ?_
  obtain rfl := Option.some.inj h
  exact FinI.z hK dX6_tellRow_87
noncomputable def f_X6_tellRow_J69 (c : CS) : Option (Int32 × CS) :=
  Option.bind (f_X0_addScientific 1 c) fun v_5 =>
  some (brN v_5 1, v_5)
set_option maxRecDepth 20000 in
theorem w_X6_tellRow_J69 {g : Cx} {mc ms : Nat} {c : CS} {m : MS} {z : Nat → Int64}  {s : (Int32 × CS)}  (hG : Gd g RX6 cX6_tellRow 6 7 mc ms) (h : f_X6_tellRow_J69 c = some s) (hK : FinI g cX6_tellRow mc ms s.1 (s.2, m, z)) : AW g 69 [(0, .ref (wad (cxw g) 0))] [] (c, m, z) 0 0 := by
  unfold f_X6_tellRow_J69 at h
  refine aw_aload_n hG 0 rfl dX6_tellRow_69 rfl ?_
  refine gt_ft_made hG l_301 dX6_tellRow_70 ?_
  refine aw_aload_n hG 0 rfl dX6_tellRow_73 rfl ?_
  refine gt_ft_told hG l_485 dX6_tellRow_74 ?_
  obtain ⟨v_5, hv_5, h⟩ := bd_o h
  refine aw_callVv (As := [.ref (wad (cxw g) 5)]) (rest := []) hG (c_X0_addScientific (t0 := 1) (c := c) (by decide) hv_5) l_513 wv_X0_addScientific (rv_X0 hG (by decide)) rfl rfl rfl (by decide) (Nat.zero_le _) (Nat.zero_le _) (Nat.le_of_ble_eq_true rfl) dX6_tellRow_77 ?_
  refine aw_aload_n hG 0 rfl dX6_tellRow_80 rfl ?_
  refine gt_ft_made hG l_301 dX6_tellRow_81 ?_
  refine gt_brN hG (by decide) l_300 dX6_tellRow_84 ?_
  obtain rfl := Option.some.inj h
  exact FinI.z hK dX6_tellRow_87
noncomputable def f_X6_tellRow (r1 : Nat) (x2 : Int32) (x3 : Int32) (x4 : Int32) (c : CS) : Option (Int32 × CS) :=
  Option.bind (f_X1_take r1 x2 x3 c) fun v_1 =>
  lt (f_X0_startWith 1 x2 v_1) fun v_2 =>
  lt ((dcP v_2) - 1) fun x5_3 =>
  if x4 = 1 then
    f_X6_tellRow_J55 v_2
  else
    if x4 = 2 then
      if x5_3 < (-6) then
        f_X6_tellRow_J69 v_2
      else
        if 20 < x5_3 then
          f_X6_tellRow_J69 v_2
        else
          f_X6_tellRow_J55 v_2
    else
      f_X6_tellRow_J69 v_2
set_option maxRecDepth 20000 in
theorem w_X6_tellRow {g : Cx} {mc ms : Nat} {c : CS} {m : MS} {z : Nat → Int64} {r1 : Nat} {x2 : Int32} {x3 : Int32} {x4 : Int32} {s : (Int32 × CS)} (hr1 : r1 < 4) (hG : Gd g RX6 cX6_tellRow 6 7 mc ms) (h : f_X6_tellRow r1 x2 x3 x4 c = some s) (hK : FinI g cX6_tellRow mc ms s.1 (s.2, m, z)) : AW g 0 [(0, .ref (wad (cxw g) 0)), (1, .ref (wad (cxw g) (9 + 2 * r1))), (2, .int x2), (3, .int x3), (4, .int x4)] [] (c, m, z) 0 0 := by
  unfold f_X6_tellRow at h
  refine aw_aload_n hG 0 rfl dX6_tellRow_0 rfl ?_
  refine gt_ft_told hG l_485 dX6_tellRow_1 ?_
  refine aw_aload_n hG 1 rfl dX6_tellRow_4 rfl ?_
  refine aw_iload_n hG 2 rfl dX6_tellRow_5 rfl ?_
  refine aw_iload_n hG 3 rfl dX6_tellRow_6 rfl ?_
  obtain ⟨v_1, hv_1, h⟩ := bd_o h
  refine aw_callVv (As := [.ref (wad (cxw g) (9 + 2 * r1)), .int x2, .int x3]) (rest := []) hG (c_X1_take (r1 := r1) (x2 := x2) (x3 := x3) (c := c) hr1 hv_1) l_502 wv_X1_take (rv_X1 hG) rfl rfl rfl (by decide) (Nat.zero_le _) (Nat.zero_le _) (Nat.le_of_ble_eq_true rfl) dX6_tellRow_7 ?_
  refine aw_aload_n hG 0 rfl dX6_tellRow_10 rfl ?_
  refine gt_ft_made hG l_301 dX6_tellRow_11 ?_
  refine aw_iload_n hG 2 rfl dX6_tellRow_14 rfl ?_
  obtain ⟨v_2, hv_2⟩ : ∃ y, y = f_X0_startWith 1 x2 v_1 := ⟨_, rfl⟩
  replace h := lt_r hv_2 h
  refine aw_callVv (As := [.int x2]) (rest := []) hG (c_X0_startWith (t0 := 1) (x1 := x2) (c := v_1) (by decide) hv_2.symm) l_492 wv_X0_startWith (rv_X0 hG (by decide)) rfl rfl rfl (by decide) (Nat.zero_le _) (Nat.zero_le _) (Nat.le_of_ble_eq_true rfl) dX6_tellRow_15 ?_
  refine aw_aload_n hG 0 rfl dX6_tellRow_18 rfl ?_
  refine gt_ft_told hG l_485 dX6_tellRow_19 ?_
  refine gt_dcP hG l_507 dX6_tellRow_22 ?_
  refine aw_iconst (v := 1) hG dX6_tellRow_25 rfl ?_
  refine aw_isub hG dX6_tellRow_26 ?_
  refine aw_topi (fun x5_3 hx5_3 => ?_)
  replace h := lt_r hx5_3 h
  refine aw_istore (L' := [(5, .int x5_3), (0, .ref (wad (cxw g) 0)), (1, .ref (wad (cxw g) (9 + 2 * r1))), (2, .int x2), (3, .int x3), (4, .int x4)]) hG dX6_tellRow_27 (by decide) rfl ?_
  refine aw_iload hG 5 rfl dX6_tellRow_29 ?_
  refine aw_iconst (v := 1) hG dX6_tellRow_31 rfl ?_
  refine aw_icmp_eq (t := 55) hG dX6_tellRow_32 rfl (fun hc => ?_) (fun hc => ?_)
  · replace h := it_p hc h
    refine aw_sub (L' := [(0, .ref (wad (cxw g) 0))]) [1] rfl ?_
    exact w_X6_tellRow_J55 (c := v_2) hG h hK
  · replace h := it_n hc h
    refine aw_iload hG 5 rfl dX6_tellRow_35 ?_
    refine aw_iconst (v := 2) hG dX6_tellRow_37 rfl ?_
    refine aw_icmp_ne (t := 69) hG dX6_tellRow_38 rfl (fun hc => ?_) (fun hc => ?_)
    · replace h := it_n hc h
      refine aw_sub (L' := [(0, .ref (wad (cxw g) 0))]) [1] rfl ?_
      exact w_X6_tellRow_J69 (c := v_2) hG h hK
    · replace h := it_p hc h
      refine aw_iload hG 0 rfl dX6_tellRow_41 ?_
      refine aw_bipush (v := (-6)) hG dX6_tellRow_43 rfl ?_
      refine aw_icmp_lt (t := 69) hG dX6_tellRow_45 rfl (fun hc => ?_) (fun hc => ?_)
      · replace h := it_p hc h
        refine aw_sub (L' := [(0, .ref (wad (cxw g) 0))]) [1] rfl ?_
        exact w_X6_tellRow_J69 (c := v_2) hG h hK
      · replace h := it_n hc h
        refine aw_iload hG 0 rfl dX6_tellRow_48 ?_
        refine aw_bipush (v := 20) hG dX6_tellRow_50 rfl ?_
        refine aw_icmp_gt (t := 69) hG dX6_tellRow_52 rfl (fun hc => ?_) (fun hc => ?_)
        · replace h := it_p hc h
          refine aw_sub (L' := [(0, .ref (wad (cxw g) 0))]) [1] rfl ?_
          exact w_X6_tellRow_J69 (c := v_2) hG h hK
        · replace h := it_n hc h
          refine aw_sub (L' := [(0, .ref (wad (cxw g) 0))]) [1] rfl ?_
          exact w_X6_tellRow_J55 (c := v_2) hG h hK
theorem c_X6_tellRow {c : CS} {m : MS} {z : Nat → Int64} {r1 : Nat} {x2 : Int32} {x3 : Int32} {x4 : Int32} {s : Int32 × CS} (hr1 : r1 < 4) (h : f_X6_tellRow r1 x2 x3 x4 c = some s) : Ct yX6_tellRow cX6_tellRow 6 (some .int) 7 (fun w => [.ref (wad w 0), .ref (wad w (9 + 2 * r1)), .int x2, .int x3, .int x4]) (c, m, z) (fun _ => some (.int s.1)) (s.2, m, z) := Ct_ofI (by decide +kernel) (fun _ => Nat.le_of_ble_eq_true rfl) (fun g hG hK => w_X6_tellRow hr1 hG h hK)
noncomputable def f_X6_shortest_J57 (x2 : Int64) (x4 : Int32) (f5 : Nat) (x6 : Int32) (c : CS) : Option (Unit ⊕ (Int32 × CS)) :=
  Option.bind (f_X6_tellRow 3 (f_X2_isMinus f5 x2) x6 x4 c) fun v_4 =>
  some (.inr (v_4.1, v_4.2))
set_option maxRecDepth 20000 in
theorem w_X6_shortest_J57 {g : Cx} {mc ms : Nat} {c : CS} {m : MS} {z : Nat → Int64} {c0 : CS} {x2 : Int64} {x4 : Int32} {f5 : Nat} {x6 : Int32} {s : (Unit ⊕ (Int32 × CS))} (hf5 : f5 < 4) (hG : Gd g RX6 cX6_shortest 7 9 mc ms) (h : f_X6_shortest_J57 x2 x4 f5 x6 c = some s) (hK : Sum.elim (fun _ : Unit => Gd g RX6 cX6_shortest 7 9 1 6 ∧ FinT g wIA (c0, m, z)) (fun s => FinI g cX6_shortest mc ms s.1 (s.2, m, z)) s) : AW g 57 [(0, .ref (wad (cxw g) 0)), (2, .long x2), (4, .int x4), (5, .ref (wad (cxw g) (30 + f5))), (6, .int x6)] [] (c, m, z) 0 0 := by
  unfold f_X6_shortest_J57 at h
  refine aw_aload_n hG 0 rfl dX6_shortest_57 rfl ?_
  refine aw_aload_n hG 0 rfl dX6_shortest_58 rfl ?_
  refine gt_ft_candidate hG l_411 dX6_shortest_59 ?_
  refine aw_aload hG 3 rfl dX6_shortest_62 ?_
  refine aw_lload_n hG 1 rfl dX6_shortest_64 rfl ?_
  refine aw_callNi (As := [.long x2]) (rest := [.ref (wad (cxw g) (9 + 2 * 3)), .ref (wad (cxw g) 0)]) hG (c_X2_isMinus (f0 := f5) (x1 := x2) (c := c) hf5) l_486 wf_X2_isMinus (rv_X2 hG hf5) rfl rfl rfl (by decide) (Nat.zero_le _) (Nat.zero_le _) (Nat.le_of_ble_eq_true rfl) dX6_shortest_65 ?_
  refine aw_iload hG 4 rfl dX6_shortest_68 ?_
  refine aw_iload hG 2 rfl dX6_shortest_70 ?_
  obtain ⟨v_4, hv_4, h⟩ := bd_o h
  refine aw_callVi (As := [.ref (wad (cxw g) (9 + 2 * 3)), .int (f_X2_isMinus f5 x2), .int x6, .int x4]) (rest := []) hG (c_X6_tellRow (r1 := 3) (x2 := f_X2_isMinus f5 x2) (x3 := x6) (x4 := x4) (c := c) (by decide) hv_4) l_535 wv_X6_tellRow (rv_X6 hG) rfl rfl rfl (by decide) (Nat.zero_le _) (Nat.zero_le _) (Nat.le_of_ble_eq_true rfl) dX6_shortest_72 ?_
  obtain rfl := Option.some.inj h
  exact FinI.z hK dX6_shortest_75
noncomputable def f_X6_shortest (x1 : Int32) (x2 : Int64) (x4 : Int32) (c : CS) : Option (Unit ⊕ (Int32 × CS)) :=
  tbd (f_X6_shapeOwning x1 x2) fun v_1 =>
  tbd (f_X6_needForm x4) fun v_2 =>
  if (f_X2_isFinite v_1 x2) = 0 then
    Option.bind (f_X6_tellName v_1 x2 c) fun v_7 =>
    some (.inr (v_7.1, v_7.2))
  else
    Option.bind (f_X4_empty 3 c) fun v_3 =>
    if (f_X2_isZero v_1 x2) = 0 then
      Option.bind (f_X6_findShortest v_1 x2 v_3) fun v_5 =>
      f_X6_shortest_J57 x2 x4 v_1 v_5.1 v_5.2
    else
      f_X6_shortest_J57 x2 x4 v_1 1 v_3
set_option maxRecDepth 20000 in
theorem w_X6_shortest {g : Cx} {mc ms : Nat} {c : CS} {m : MS} {z : Nat → Int64} {x1 : Int32} {x2 : Int64} {x4 : Int32} {s : (Unit ⊕ (Int32 × CS))}  (hG : Gd g RX6 cX6_shortest 7 9 mc ms) (h : f_X6_shortest x1 x2 x4 c = some s) (hK : Sum.elim (fun _ : Unit => Gd g RX6 cX6_shortest 7 9 1 6 ∧ FinT g wIA (c, m, z)) (fun s => FinI g cX6_shortest mc ms s.1 (s.2, m, z)) s) : AW g 0 [(0, .ref (wad (cxw g) 0)), (1, .int x1), (2, .long x2), (4, .int x4)] [] (c, m, z) 0 0 := by
  unfold f_X6_shortest at h
  refine aw_iload_n hG 1 rfl dX6_shortest_0 rfl ?_
  refine aw_lload_n hG 2 rfl dX6_shortest_1 rfl ?_
  rcases tb_o h with ⟨hv, rfl⟩ | ⟨v_1, hv_1, h⟩
  · exact aw_callST (As := [.int x1, .long x2]) (rest := []) hK.1 (ct_X6_shapeOwning (x0 := x1) (x1 := x2) (c := c)  hv) hK.2 l_518 ws_X6_shapeOwning rfl rfl rfl (by decide) (Nat.le_of_ble_eq_true rfl) dX6_shortest_2
  refine aw_callSa (As := [.int x1, .long x2]) (rest := []) hG (c_X6_shapeOwning (x0 := x1) (x1 := x2) (c := c)  hv_1) l_518 ws_X6_shapeOwning rfl rfl rfl (by decide) (Nat.zero_le _) (Nat.zero_le _) (Nat.le_of_ble_eq_true rfl) dX6_shortest_2 ?_
  have hhv_1 : v_1 < 4 := p_X6_shapeOwning hv_1
  refine aw_astore (L' := [(5, .ref (wad (cxw g) (30 + v_1))), (0, .ref (wad (cxw g) 0)), (1, .int x1), (2, .long x2), (4, .int x4)]) hG dX6_shortest_5 (by decide) rfl ?_
  refine aw_iload hG 4 rfl dX6_shortest_7 ?_
  rcases tb_o h with ⟨hv, rfl⟩ | ⟨v_2, hv_2, h⟩
  · exact aw_callST (As := [.int x4]) (rest := []) hK.1 (ct_X6_needForm (x0 := x4) (c := c)  hv) hK.2 l_522 ws_X6_needForm rfl rfl rfl (by decide) (Nat.le_of_ble_eq_true rfl) dX6_shortest_9
  refine aw_callSv (As := [.int x4]) (rest := []) hG (c_X6_needForm (x0 := x4) (c := c)  hv_2) l_522 ws_X6_needForm rfl rfl rfl (by decide) (Nat.zero_le _) (Nat.zero_le _) (Nat.le_of_ble_eq_true rfl) dX6_shortest_9 ?_
  refine aw_aload hG 0 rfl dX6_shortest_12 ?_
  refine aw_lload_n hG 3 rfl dX6_shortest_14 rfl ?_
  refine aw_callNi (As := [.long x2]) (rest := []) hG (c_X2_isFinite (f0 := v_1) (x1 := x2) (c := c) hhv_1) l_526 wf_X2_isFinite (rv_X2 hG hhv_1) rfl rfl rfl (by decide) (Nat.zero_le _) (Nat.zero_le _) (Nat.le_of_ble_eq_true rfl) dX6_shortest_15 ?_
  refine aw_if_ne (t := 29) hG dX6_shortest_18 rfl (fun hc => ?_) (fun hc => ?_)
  · replace h := it_n hc h
    refine aw_iconst (v := 1) hG dX6_shortest_29 rfl ?_
    refine aw_istore (L' := [(6, .int 1), (5, .ref (wad (cxw g) (30 + v_1))), (0, .ref (wad (cxw g) 0)), (1, .int x1), (2, .long x2), (4, .int x4)]) hG dX6_shortest_30 (by decide) rfl ?_
    refine aw_aload_n hG 2 rfl dX6_shortest_32 rfl ?_
    refine gt_ft_candidate hG l_411 dX6_shortest_33 ?_
    obtain ⟨v_3, hv_3, h⟩ := bd_o h
    refine aw_callVv (As := []) (rest := []) hG (c_X4_empty (r0 := 3) (c := c) (by decide) hv_3) l_530 wv_X4_empty (rv_X4 hG (by decide)) rfl rfl rfl (by decide) (Nat.zero_le _) (Nat.zero_le _) (Nat.le_of_ble_eq_true rfl) dX6_shortest_36 ?_
    refine aw_aload hG 1 rfl dX6_shortest_39 ?_
    refine aw_lload_n hG 4 rfl dX6_shortest_41 rfl ?_
    refine aw_callNi (As := [.long x2]) (rest := []) hG (c_X2_isZero (f0 := v_1) (x1 := x2) (c := v_3) hhv_1) l_531 wf_X2_isZero (rv_X2 hG hhv_1) rfl rfl rfl (by decide) (Nat.zero_le _) (Nat.zero_le _) (Nat.le_of_ble_eq_true rfl) dX6_shortest_42 ?_
    refine aw_if_ne (t := 57) hG dX6_shortest_45 rfl (fun hc => ?_) (fun hc => ?_)
    · replace h := it_n hc h
      refine aw_sub (L' := [(0, .ref (wad (cxw g) 0)), (2, .long x2), (4, .int x4), (5, .ref (wad (cxw g) (30 + v_1))), (6, .int 1)]) [2, 4, 5, 1, 0] rfl ?_
      exact w_X6_shortest_J57 (x2 := x2) (x4 := x4) (f5 := v_1) (x6 := 1) (c := v_3) hhv_1 hG h hK
    · replace h := it_p hc h
      refine aw_aload_n hG 2 rfl dX6_shortest_48 rfl ?_
      refine aw_aload hG 1 rfl dX6_shortest_49 ?_
      refine aw_lload_n hG 4 rfl dX6_shortest_51 rfl ?_
      obtain ⟨v_5, hv_5, h⟩ := bd_o h
      refine aw_callVi (As := [.ref (wad (cxw g) (30 + v_1)), .long x2]) (rest := []) hG (c_X6_findShortest (f1 := v_1) (x2 := x2) (c := v_3) hhv_1 hv_5) l_540 wv_X6_findShortest (rv_X6 hG) rfl rfl rfl (by decide) (Nat.zero_le _) (Nat.zero_le _) (Nat.le_of_ble_eq_true rfl) dX6_shortest_52 ?_
      refine aw_istore (L' := [(6, .int v_5.1), (5, .ref (wad (cxw g) (30 + v_1))), (0, .ref (wad (cxw g) 0)), (1, .int x1), (2, .long x2), (4, .int x4)]) hG dX6_shortest_55 (by decide) rfl ?_
      refine aw_sub (L' := [(0, .ref (wad (cxw g) 0)), (2, .long x2), (4, .int x4), (5, .ref (wad (cxw g) (30 + v_1))), (6, .int v_5.1)]) [2, 4, 5, 1, 0] rfl ?_
      exact w_X6_shortest_J57 (x2 := x2) (x4 := x4) (f5 := v_1) (x6 := v_5.1) (c := v_5.2) hhv_1 hG h hK
  · replace h := it_p hc h
    refine aw_aload_n hG 1 rfl dX6_shortest_21 rfl ?_
    refine aw_aload hG 0 rfl dX6_shortest_22 ?_
    refine aw_lload_n hG 3 rfl dX6_shortest_24 rfl ?_
    obtain ⟨v_7, hv_7, h⟩ := bd_o h
    refine aw_callVi (As := [.ref (wad (cxw g) (30 + v_1)), .long x2]) (rest := []) hG (c_X6_tellName (f1 := v_1) (x2 := x2) (c := c) hhv_1 hv_7) l_545 wv_X6_tellName (rv_X6 hG) rfl rfl rfl (by decide) (Nat.zero_le _) (Nat.zero_le _) (Nat.le_of_ble_eq_true rfl) dX6_shortest_25 ?_
    obtain rfl := Option.some.inj h
    exact FinI.z hK dX6_shortest_28
theorem c_X6_shortest {c : CS} {m : MS} {z : Nat → Int64} {x1 : Int32} {x2 : Int64} {x4 : Int32} {s : Int32 × CS}  (h : f_X6_shortest x1 x2 x4 c = some (.inr s)) : Ct yX6_shortest cX6_shortest 7 (some .int) 9 (fun w => [.ref (wad w 0), .int x1, .long x2, .int x4]) (c, m, z) (fun _ => some (.int s.1)) (s.2, m, z) := Ct_ofI (by decide +kernel) (fun _ => Nat.le_of_ble_eq_true rfl) (fun g hG hK => w_X6_shortest hG h hK)
theorem ct_X6_shortest {c : CS} {m : MS} {z : Nat → Int64} {x1 : Int32} {x2 : Int64} {x4 : Int32}  (h : f_X6_shortest x1 x2 x4 c = some (.inl ())) : CtT yX6_shortest cX6_shortest 7 (some .int) 9 (fun w => [.ref (wad w 0), .int x1, .long x2, .int x4]) (c, m, z) wIA := CtT_of (by decide +kernel) (fun _ => Nat.le_of_ble_eq_true rfl) (fun g hG hK => w_X6_shortest hG h ⟨hG, hK⟩)
noncomputable def f_X6_exact (x1 : Int32) (x2 : Int64) (x4 : Int32) (c : CS) : Option (Unit ⊕ (Int32 × CS)) :=
  tbd (f_X6_shapeOwning x1 x2) fun v_1 =>
  tbd (f_X6_needForm x4) fun v_2 =>
  if (f_X2_isFinite v_1 x2) = 0 then
    Option.bind (f_X6_tellName v_1 x2 c) fun v_6 =>
    some (.inr (v_6.1, v_6.2))
  else
    Option.bind (f_X6_setSize 0 v_1 x2 c) fun v_3 =>
    Option.bind (f_X4_significant 0 v_3) fun v_4 =>
    Option.bind (f_X6_tellRow 0 (f_X2_isMinus v_1 x2) v_4 x4 v_3) fun v_5 =>
    some (.inr (v_5.1, v_5.2))
set_option maxRecDepth 20000 in
theorem w_X6_exact {g : Cx} {mc ms : Nat} {c : CS} {m : MS} {z : Nat → Int64} {x1 : Int32} {x2 : Int64} {x4 : Int32} {s : (Unit ⊕ (Int32 × CS))}  (hG : Gd g RX6 cX6_exact 6 9 mc ms) (h : f_X6_exact x1 x2 x4 c = some s) (hK : Sum.elim (fun _ : Unit => Gd g RX6 cX6_exact 6 9 1 6 ∧ FinT g wIA (c, m, z)) (fun s => FinI g cX6_exact mc ms s.1 (s.2, m, z)) s) : AW g 0 [(0, .ref (wad (cxw g) 0)), (1, .int x1), (2, .long x2), (4, .int x4)] [] (c, m, z) 0 0 := by
  unfold f_X6_exact at h
  refine aw_iload_n hG 1 rfl dX6_exact_0 rfl ?_
  refine aw_lload_n hG 2 rfl dX6_exact_1 rfl ?_
  rcases tb_o h with ⟨hv, rfl⟩ | ⟨v_1, hv_1, h⟩
  · exact aw_callST (As := [.int x1, .long x2]) (rest := []) hK.1 (ct_X6_shapeOwning (x0 := x1) (x1 := x2) (c := c)  hv) hK.2 l_518 ws_X6_shapeOwning rfl rfl rfl (by decide) (Nat.le_of_ble_eq_true rfl) dX6_exact_2
  refine aw_callSa (As := [.int x1, .long x2]) (rest := []) hG (c_X6_shapeOwning (x0 := x1) (x1 := x2) (c := c)  hv_1) l_518 ws_X6_shapeOwning rfl rfl rfl (by decide) (Nat.zero_le _) (Nat.zero_le _) (Nat.le_of_ble_eq_true rfl) dX6_exact_2 ?_
  have hhv_1 : v_1 < 4 := p_X6_shapeOwning hv_1
  refine aw_astore (L' := [(5, .ref (wad (cxw g) (30 + v_1))), (0, .ref (wad (cxw g) 0)), (1, .int x1), (2, .long x2), (4, .int x4)]) hG dX6_exact_5 (by decide) rfl ?_
  refine aw_iload hG 4 rfl dX6_exact_7 ?_
  rcases tb_o h with ⟨hv, rfl⟩ | ⟨v_2, hv_2, h⟩
  · exact aw_callST (As := [.int x4]) (rest := []) hK.1 (ct_X6_needForm (x0 := x4) (c := c)  hv) hK.2 l_522 ws_X6_needForm rfl rfl rfl (by decide) (Nat.le_of_ble_eq_true rfl) dX6_exact_9
  refine aw_callSv (As := [.int x4]) (rest := []) hG (c_X6_needForm (x0 := x4) (c := c)  hv_2) l_522 ws_X6_needForm rfl rfl rfl (by decide) (Nat.zero_le _) (Nat.zero_le _) (Nat.le_of_ble_eq_true rfl) dX6_exact_9 ?_
  refine aw_aload hG 0 rfl dX6_exact_12 ?_
  refine aw_lload_n hG 3 rfl dX6_exact_14 rfl ?_
  refine aw_callNi (As := [.long x2]) (rest := []) hG (c_X2_isFinite (f0 := v_1) (x1 := x2) (c := c) hhv_1) l_526 wf_X2_isFinite (rv_X2 hG hhv_1) rfl rfl rfl (by decide) (Nat.zero_le _) (Nat.zero_le _) (Nat.le_of_ble_eq_true rfl) dX6_exact_15 ?_
  refine aw_if_ne (t := 29) hG dX6_exact_18 rfl (fun hc => ?_) (fun hc => ?_)
  · replace h := it_n hc h
    refine aw_aload_n hG 1 rfl dX6_exact_29 rfl ?_
    refine gt_ft_number hG l_345 dX6_exact_30 ?_
    refine aw_aload hG 0 rfl dX6_exact_33 ?_
    refine aw_lload_n hG 3 rfl dX6_exact_35 rfl ?_
    obtain ⟨v_3, hv_3, h⟩ := bd_o h
    refine aw_callSv (As := [.ref (wad (cxw g) (9 + 2 * 0)), .ref (wad (cxw g) (30 + v_1)), .long x2]) (rest := []) hG (c_X6_setSize (r0 := 0) (f1 := v_1) (x2 := x2) (c := c) (by decide) hhv_1 hv_3) l_460 ws_X6_setSize rfl rfl rfl (by decide) (Nat.zero_le _) (Nat.zero_le _) (Nat.le_of_ble_eq_true rfl) dX6_exact_36 ?_
    refine aw_aload_n hG 1 rfl dX6_exact_39 rfl ?_
    refine aw_aload_n hG 1 rfl dX6_exact_40 rfl ?_
    refine gt_ft_number hG l_345 dX6_exact_41 ?_
    refine aw_aload hG 0 rfl dX6_exact_44 ?_
    refine aw_lload_n hG 3 rfl dX6_exact_46 rfl ?_
    refine aw_callNi (As := [.long x2]) (rest := [.ref (wad (cxw g) (9 + 2 * 0)), .ref (wad (cxw g) 0)]) hG (c_X2_isMinus (f0 := v_1) (x1 := x2) (c := v_3) hhv_1) l_486 wf_X2_isMinus (rv_X2 hG hhv_1) rfl rfl rfl (by decide) (Nat.zero_le _) (Nat.zero_le _) (Nat.le_of_ble_eq_true rfl) dX6_exact_47 ?_
    refine aw_aload_n hG 1 rfl dX6_exact_50 rfl ?_
    refine gt_ft_number hG l_345 dX6_exact_51 ?_
    obtain ⟨v_4, hv_4, h⟩ := bd_o h
    refine aw_callVi (As := []) (rest := [.int (f_X2_isMinus v_1 x2), .ref (wad (cxw g) (9 + 2 * 0)), .ref (wad (cxw g) 0)]) hG (c_X4_significant (r0 := 0) (c := v_3) (by decide) hv_4) l_550 wv_X4_significant (rv_X4 hG (by decide)) rfl rfl rfl (by decide) (Nat.zero_le _) (Nat.zero_le _) (Nat.le_of_ble_eq_true rfl) dX6_exact_54 ?_
    refine aw_iload hG 4 rfl dX6_exact_57 ?_
    obtain ⟨v_5, hv_5, h⟩ := bd_o h
    refine aw_callVi (As := [.ref (wad (cxw g) (9 + 2 * 0)), .int (f_X2_isMinus v_1 x2), .int v_4, .int x4]) (rest := []) hG (c_X6_tellRow (r1 := 0) (x2 := f_X2_isMinus v_1 x2) (x3 := v_4) (x4 := x4) (c := v_3) (by decide) hv_5) l_535 wv_X6_tellRow (rv_X6 hG) rfl rfl rfl (by decide) (Nat.zero_le _) (Nat.zero_le _) (Nat.le_of_ble_eq_true rfl) dX6_exact_59 ?_
    obtain rfl := Option.some.inj h
    exact FinI.z hK dX6_exact_62
  · replace h := it_p hc h
    refine aw_aload_n hG 1 rfl dX6_exact_21 rfl ?_
    refine aw_aload hG 0 rfl dX6_exact_22 ?_
    refine aw_lload_n hG 3 rfl dX6_exact_24 rfl ?_
    obtain ⟨v_6, hv_6, h⟩ := bd_o h
    refine aw_callVi (As := [.ref (wad (cxw g) (30 + v_1)), .long x2]) (rest := []) hG (c_X6_tellName (f1 := v_1) (x2 := x2) (c := c) hhv_1 hv_6) l_545 wv_X6_tellName (rv_X6 hG) rfl rfl rfl (by decide) (Nat.zero_le _) (Nat.zero_le _) (Nat.le_of_ble_eq_true rfl) dX6_exact_25 ?_
    obtain rfl := Option.some.inj h
    exact FinI.z hK dX6_exact_28
theorem c_X6_exact {c : CS} {m : MS} {z : Nat → Int64} {x1 : Int32} {x2 : Int64} {x4 : Int32} {s : Int32 × CS}  (h : f_X6_exact x1 x2 x4 c = some (.inr s)) : Ct yX6_exact cX6_exact 6 (some .int) 9 (fun w => [.ref (wad w 0), .int x1, .long x2, .int x4]) (c, m, z) (fun _ => some (.int s.1)) (s.2, m, z) := Ct_ofI (by decide +kernel) (fun _ => Nat.le_of_ble_eq_true rfl) (fun g hG hK => w_X6_exact hG h hK)
theorem ct_X6_exact {c : CS} {m : MS} {z : Nat → Int64} {x1 : Int32} {x2 : Int64} {x4 : Int32}  (h : f_X6_exact x1 x2 x4 c = some (.inl ())) : CtT yX6_exact cX6_exact 6 (some .int) 9 (fun w => [.ref (wad w 0), .int x1, .long x2, .int x4]) (c, m, z) wIA := CtT_of (by decide +kernel) (fun _ => Nat.le_of_ble_eq_true rfl) (fun g hG hK => w_X6_exact hG h ⟨hG, hK⟩)
def f_X6_needFinite (f0 : Nat) (x1 : Int64) : Option (Unit ⊕ Unit) :=
  if (f_X2_isFinite f0 x1) = 0 then
    some (.inl ())
  else
    some (.inr ())
set_option maxRecDepth 20000 in
theorem w_X6_needFinite {g : Cx} {mc ms : Nat} {c : CS} {m : MS} {z : Nat → Int64} {f0 : Nat} {x1 : Int64} {s : (Unit ⊕ Unit)} (hf0 : f0 < 4) (hG : Gd g RX6 cX6_needFinite 3 7 mc ms) (h : f_X6_needFinite f0 x1 = some s) (hK : Sum.elim (fun _ : Unit => Gd g RX6 cX6_needFinite 3 7 1 6 ∧ FinT g wIA (c, m, z)) (fun s => FinV g cX6_needFinite mc ms (c, m, z)) s) : AW g 0 [(0, .ref (wad (cxw g) (30 + f0))), (1, .long x1)] [] (c, m, z) 0 0 := by
  unfold f_X6_needFinite at h
  refine aw_aload_n hG 0 rfl dX6_needFinite_0 rfl ?_
  refine aw_lload_n hG 1 rfl dX6_needFinite_1 rfl ?_
  refine aw_callNi (As := [.long x1]) (rest := []) hG (c_X2_isFinite (f0 := f0) (x1 := x1) (c := c) hf0) l_526 wf_X2_isFinite (rv_X2 hG hf0) rfl rfl rfl (by decide) (Nat.zero_le _) (Nat.zero_le _) (Nat.le_of_ble_eq_true rfl) dX6_needFinite_2 ?_
  refine aw_if_ne (t := 19) hG dX6_needFinite_5 rfl (fun hc => ?_) (fun hc => ?_)
  · replace h := it_n hc h
    obtain rfl := Option.some.inj h
    exact FinV.z hK dX6_needFinite_19
  · replace h := it_p hc h
    obtain rfl := Option.some.inj h
    exact aw_throwIAW (j := 10) hK.1 (by decide) hK.2 rfl dX6_needFinite_8 dX6_needFinite_11 dX6_needFinite_12 dX6_needFinite_15 dX6_needFinite_18
theorem c_X6_needFinite {c : CS} {m : MS} {z : Nat → Int64} {f0 : Nat} {x1 : Int64} {s : Unit} (hf0 : f0 < 4) (h : f_X6_needFinite f0 x1 = some (.inr s)) : Ct yX6_needFinite cX6_needFinite 3 none 7 (fun w => [.ref (wad w (30 + f0)), .long x1]) (c, m, z) (fun _ => none) (c, m, z) := Ct_ofV (by decide +kernel) (fun _ => Nat.le_of_ble_eq_true rfl) (fun g hG hK => w_X6_needFinite hf0 hG h hK)
theorem ct_X6_needFinite {c : CS} {m : MS} {z : Nat → Int64} {f0 : Nat} {x1 : Int64} (hf0 : f0 < 4) (h : f_X6_needFinite f0 x1 = some (.inl ())) : CtT yX6_needFinite cX6_needFinite 3 none 7 (fun w => [.ref (wad w (30 + f0)), .long x1]) (c, m, z) wIA := CtT_of (by decide +kernel) (fun _ => Nat.le_of_ble_eq_true rfl) (fun g hG hK => w_X6_needFinite hf0 hG h ⟨hG, hK⟩)
noncomputable def f_X6_middle (x1 : Int32) (x2 : Int64) (x4 : Int32) (c : CS) : Option (Unit ⊕ (Int32 × CS)) :=
  tbd (f_X6_shapeOwning x1 x2) fun v_1 =>
  tbd (f_X6_needForm x4) fun v_2 =>
  tbd (f_X6_needFinite v_1 x2) fun v_3 =>
  Option.bind (f_X6_setMiddle 0 v_1 x2 c) fun v_4 =>
  Option.bind (f_X4_significant 0 v_4) fun v_5 =>
  Option.bind (f_X6_tellRow 0 (f_X2_isMinus v_1 x2) v_5 x4 v_4) fun v_6 =>
  some (.inr (v_6.1, v_6.2))
set_option maxRecDepth 20000 in
theorem w_X6_middle {g : Cx} {mc ms : Nat} {c : CS} {m : MS} {z : Nat → Int64} {x1 : Int32} {x2 : Int64} {x4 : Int32} {s : (Unit ⊕ (Int32 × CS))}  (hG : Gd g RX6 cX6_middle 6 9 mc ms) (h : f_X6_middle x1 x2 x4 c = some s) (hK : Sum.elim (fun _ : Unit => Gd g RX6 cX6_middle 6 9 1 6 ∧ FinT g wIA (c, m, z)) (fun s => FinI g cX6_middle mc ms s.1 (s.2, m, z)) s) : AW g 0 [(0, .ref (wad (cxw g) 0)), (1, .int x1), (2, .long x2), (4, .int x4)] [] (c, m, z) 0 0 := by
  unfold f_X6_middle at h
  refine aw_iload_n hG 1 rfl dX6_middle_0 rfl ?_
  refine aw_lload_n hG 2 rfl dX6_middle_1 rfl ?_
  rcases tb_o h with ⟨hv, rfl⟩ | ⟨v_1, hv_1, h⟩
  · exact aw_callST (As := [.int x1, .long x2]) (rest := []) hK.1 (ct_X6_shapeOwning (x0 := x1) (x1 := x2) (c := c)  hv) hK.2 l_518 ws_X6_shapeOwning rfl rfl rfl (by decide) (Nat.le_of_ble_eq_true rfl) dX6_middle_2
  refine aw_callSa (As := [.int x1, .long x2]) (rest := []) hG (c_X6_shapeOwning (x0 := x1) (x1 := x2) (c := c)  hv_1) l_518 ws_X6_shapeOwning rfl rfl rfl (by decide) (Nat.zero_le _) (Nat.zero_le _) (Nat.le_of_ble_eq_true rfl) dX6_middle_2 ?_
  have hhv_1 : v_1 < 4 := p_X6_shapeOwning hv_1
  refine aw_astore (L' := [(5, .ref (wad (cxw g) (30 + v_1))), (0, .ref (wad (cxw g) 0)), (1, .int x1), (2, .long x2), (4, .int x4)]) hG dX6_middle_5 (by decide) rfl ?_
  refine aw_iload hG 4 rfl dX6_middle_7 ?_
  rcases tb_o h with ⟨hv, rfl⟩ | ⟨v_2, hv_2, h⟩
  · exact aw_callST (As := [.int x4]) (rest := []) hK.1 (ct_X6_needForm (x0 := x4) (c := c)  hv) hK.2 l_522 ws_X6_needForm rfl rfl rfl (by decide) (Nat.le_of_ble_eq_true rfl) dX6_middle_9
  refine aw_callSv (As := [.int x4]) (rest := []) hG (c_X6_needForm (x0 := x4) (c := c)  hv_2) l_522 ws_X6_needForm rfl rfl rfl (by decide) (Nat.zero_le _) (Nat.zero_le _) (Nat.le_of_ble_eq_true rfl) dX6_middle_9 ?_
  refine aw_aload hG 0 rfl dX6_middle_12 ?_
  refine aw_lload_n hG 3 rfl dX6_middle_14 rfl ?_
  rcases tb_o h with ⟨hv, rfl⟩ | ⟨v_3, hv_3, h⟩
  · exact aw_callST (As := [.ref (wad (cxw g) (30 + v_1)), .long x2]) (rest := []) hK.1 (ct_X6_needFinite (f0 := v_1) (x1 := x2) (c := c) hhv_1 hv) hK.2 l_555 ws_X6_needFinite rfl rfl rfl (by decide) (Nat.le_of_ble_eq_true rfl) dX6_middle_15
  refine aw_callSv (As := [.ref (wad (cxw g) (30 + v_1)), .long x2]) (rest := []) hG (c_X6_needFinite (f0 := v_1) (x1 := x2) (c := c) hhv_1 hv_3) l_555 ws_X6_needFinite rfl rfl rfl (by decide) (Nat.zero_le _) (Nat.zero_le _) (Nat.le_of_ble_eq_true rfl) dX6_middle_15 ?_
  refine aw_aload_n hG 1 rfl dX6_middle_18 rfl ?_
  refine gt_ft_number hG l_345 dX6_middle_19 ?_
  refine aw_aload hG 0 rfl dX6_middle_22 ?_
  refine aw_lload_n hG 3 rfl dX6_middle_24 rfl ?_
  obtain ⟨v_4, hv_4, h⟩ := bd_o h
  refine aw_callSv (As := [.ref (wad (cxw g) (9 + 2 * 0)), .ref (wad (cxw g) (30 + v_1)), .long x2]) (rest := []) hG (c_X6_setMiddle (r0 := 0) (f1 := v_1) (x2 := x2) (c := c) (by decide) hhv_1 hv_4) l_464 ws_X6_setMiddle rfl rfl rfl (by decide) (Nat.zero_le _) (Nat.zero_le _) (Nat.le_of_ble_eq_true rfl) dX6_middle_25 ?_
  refine aw_aload_n hG 1 rfl dX6_middle_28 rfl ?_
  refine aw_aload_n hG 1 rfl dX6_middle_29 rfl ?_
  refine gt_ft_number hG l_345 dX6_middle_30 ?_
  refine aw_aload hG 0 rfl dX6_middle_33 ?_
  refine aw_lload_n hG 3 rfl dX6_middle_35 rfl ?_
  refine aw_callNi (As := [.long x2]) (rest := [.ref (wad (cxw g) (9 + 2 * 0)), .ref (wad (cxw g) 0)]) hG (c_X2_isMinus (f0 := v_1) (x1 := x2) (c := v_4) hhv_1) l_486 wf_X2_isMinus (rv_X2 hG hhv_1) rfl rfl rfl (by decide) (Nat.zero_le _) (Nat.zero_le _) (Nat.le_of_ble_eq_true rfl) dX6_middle_36 ?_
  refine aw_aload_n hG 1 rfl dX6_middle_39 rfl ?_
  refine gt_ft_number hG l_345 dX6_middle_40 ?_
  obtain ⟨v_5, hv_5, h⟩ := bd_o h
  refine aw_callVi (As := []) (rest := [.int (f_X2_isMinus v_1 x2), .ref (wad (cxw g) (9 + 2 * 0)), .ref (wad (cxw g) 0)]) hG (c_X4_significant (r0 := 0) (c := v_4) (by decide) hv_5) l_550 wv_X4_significant (rv_X4 hG (by decide)) rfl rfl rfl (by decide) (Nat.zero_le _) (Nat.zero_le _) (Nat.le_of_ble_eq_true rfl) dX6_middle_43 ?_
  refine aw_iload hG 4 rfl dX6_middle_46 ?_
  obtain ⟨v_6, hv_6, h⟩ := bd_o h
  refine aw_callVi (As := [.ref (wad (cxw g) (9 + 2 * 0)), .int (f_X2_isMinus v_1 x2), .int v_5, .int x4]) (rest := []) hG (c_X6_tellRow (r1 := 0) (x2 := f_X2_isMinus v_1 x2) (x3 := v_5) (x4 := x4) (c := v_4) (by decide) hv_6) l_535 wv_X6_tellRow (rv_X6 hG) rfl rfl rfl (by decide) (Nat.zero_le _) (Nat.zero_le _) (Nat.le_of_ble_eq_true rfl) dX6_middle_48 ?_
  obtain rfl := Option.some.inj h
  exact FinI.z hK dX6_middle_51
theorem c_X6_middle {c : CS} {m : MS} {z : Nat → Int64} {x1 : Int32} {x2 : Int64} {x4 : Int32} {s : Int32 × CS}  (h : f_X6_middle x1 x2 x4 c = some (.inr s)) : Ct yX6_middle cX6_middle 6 (some .int) 9 (fun w => [.ref (wad w 0), .int x1, .long x2, .int x4]) (c, m, z) (fun _ => some (.int s.1)) (s.2, m, z) := Ct_ofI (by decide +kernel) (fun _ => Nat.le_of_ble_eq_true rfl) (fun g hG hK => w_X6_middle hG h hK)
theorem ct_X6_middle {c : CS} {m : MS} {z : Nat → Int64} {x1 : Int32} {x2 : Int64} {x4 : Int32}  (h : f_X6_middle x1 x2 x4 c = some (.inl ())) : CtT yX6_middle cX6_middle 6 (some .int) 9 (fun w => [.ref (wad w 0), .int x1, .long x2, .int x4]) (c, m, z) wIA := CtT_of (by decide +kernel) (fun _ => Nat.le_of_ble_eq_true rfl) (fun g hG hK => w_X6_middle hG h ⟨hG, hK⟩)
noncomputable def f_X6_digits (x1 : Int32) (x2 : Int64) (x4 : Int32) (x5 : Int32) (x6 : Int32) (c : CS) : Option (Unit ⊕ (Int32 × CS)) :=
  tbd (f_X6_shapeOwning x1 x2) fun v_1 =>
  tbd (f_X6_needWay x5) fun v_2 =>
  tbd (f_X6_needForm x6) fun v_3 =>
  if x4 < 1 then
    some (.inl ())
  else
    if x4 ≤ 800 then
      if (f_X2_isFinite v_1 x2) = 0 then
        Option.bind (f_X6_tellName v_1 x2 c) fun v_8 =>
        some (.inr (v_8.1, v_8.2))
      else
        Option.bind (f_X6_setSize 0 v_1 x2 c) fun v_4 =>
        Option.bind (f_X4_point 0 v_4) fun v_5 =>
        Option.bind (f_X6_roundAt (v_5 - x4) (f_X2_isMinus v_1 x2) x5 v_4) fun v_6 =>
        Option.bind (f_X6_tellRow 3 (f_X2_isMinus v_1 x2) x4 x6 v_6) fun v_7 =>
        some (.inr (v_7.1, v_7.2))
    else
      some (.inl ())
set_option maxRecDepth 20000 in
theorem w_X6_digits {g : Cx} {mc ms : Nat} {c : CS} {m : MS} {z : Nat → Int64} {x1 : Int32} {x2 : Int64} {x4 : Int32} {x5 : Int32} {x6 : Int32} {s : (Unit ⊕ (Int32 × CS))}  (hG : Gd g RX6 cX6_digits 8 9 mc ms) (h : f_X6_digits x1 x2 x4 x5 x6 c = some s) (hK : Sum.elim (fun _ : Unit => Gd g RX6 cX6_digits 8 9 1 6 ∧ FinT g wIA (c, m, z)) (fun s => FinI g cX6_digits mc ms s.1 (s.2, m, z)) s) : AW g 0 [(0, .ref (wad (cxw g) 0)), (1, .int x1), (2, .long x2), (4, .int x4), (5, .int x5), (6, .int x6)] [] (c, m, z) 0 0 := by
  unfold f_X6_digits at h
  refine aw_iload_n hG 1 rfl dX6_digits_0 rfl ?_
  refine aw_lload_n hG 2 rfl dX6_digits_1 rfl ?_
  rcases tb_o h with ⟨hv, rfl⟩ | ⟨v_1, hv_1, h⟩
  · exact aw_callST (As := [.int x1, .long x2]) (rest := []) hK.1 (ct_X6_shapeOwning (x0 := x1) (x1 := x2) (c := c)  hv) hK.2 l_518 ws_X6_shapeOwning rfl rfl rfl (by decide) (Nat.le_of_ble_eq_true rfl) dX6_digits_2
  refine aw_callSa (As := [.int x1, .long x2]) (rest := []) hG (c_X6_shapeOwning (x0 := x1) (x1 := x2) (c := c)  hv_1) l_518 ws_X6_shapeOwning rfl rfl rfl (by decide) (Nat.zero_le _) (Nat.zero_le _) (Nat.le_of_ble_eq_true rfl) dX6_digits_2 ?_
  have hhv_1 : v_1 < 4 := p_X6_shapeOwning hv_1
  refine aw_astore (L' := [(7, .ref (wad (cxw g) (30 + v_1))), (0, .ref (wad (cxw g) 0)), (1, .int x1), (2, .long x2), (4, .int x4), (5, .int x5), (6, .int x6)]) hG dX6_digits_5 (by decide) rfl ?_
  refine aw_iload hG 5 rfl dX6_digits_7 ?_
  rcases tb_o h with ⟨hv, rfl⟩ | ⟨v_2, hv_2, h⟩
  · exact aw_callST (As := [.int x5]) (rest := []) hK.1 (ct_X6_needWay (x0 := x5) (c := c)  hv) hK.2 l_392 ws_X6_needWay rfl rfl rfl (by decide) (Nat.le_of_ble_eq_true rfl) dX6_digits_9
  refine aw_callSv (As := [.int x5]) (rest := []) hG (c_X6_needWay (x0 := x5) (c := c)  hv_2) l_392 ws_X6_needWay rfl rfl rfl (by decide) (Nat.zero_le _) (Nat.zero_le _) (Nat.le_of_ble_eq_true rfl) dX6_digits_9 ?_
  refine aw_iload hG 6 rfl dX6_digits_12 ?_
  rcases tb_o h with ⟨hv, rfl⟩ | ⟨v_3, hv_3, h⟩
  · exact aw_callST (As := [.int x6]) (rest := []) hK.1 (ct_X6_needForm (x0 := x6) (c := c)  hv) hK.2 l_522 ws_X6_needForm rfl rfl rfl (by decide) (Nat.le_of_ble_eq_true rfl) dX6_digits_14
  refine aw_callSv (As := [.int x6]) (rest := []) hG (c_X6_needForm (x0 := x6) (c := c)  hv_3) l_522 ws_X6_needForm rfl rfl rfl (by decide) (Nat.zero_le _) (Nat.zero_le _) (Nat.le_of_ble_eq_true rfl) dX6_digits_14 ?_
  refine aw_iload hG 4 rfl dX6_digits_17 ?_
  refine aw_iconst (v := 1) hG dX6_digits_19 rfl ?_
  refine aw_icmp_lt (t := 31) hG dX6_digits_20 rfl (fun hc => ?_) (fun hc => ?_)
  · replace h := it_p hc h
    obtain rfl := Option.some.inj h
    exact aw_throwIA (j := 11) hK.1 (by decide) hK.2 rfl dX6_digits_31 dX6_digits_34 dX6_digits_35 dX6_digits_37 dX6_digits_40
  · replace h := it_n hc h
    refine aw_iload hG 4 rfl dX6_digits_23 ?_
    refine aw_sipush (v := 800) hG dX6_digits_25 rfl ?_
    refine aw_icmp_le (t := 41) hG dX6_digits_28 rfl (fun hc => ?_) (fun hc => ?_)
    · replace h := it_p hc h
      refine aw_aload hG 0 rfl dX6_digits_41 ?_
      refine aw_lload_n hG 3 rfl dX6_digits_43 rfl ?_
      refine aw_callNi (As := [.long x2]) (rest := []) hG (c_X2_isFinite (f0 := v_1) (x1 := x2) (c := c) hhv_1) l_526 wf_X2_isFinite (rv_X2 hG hhv_1) rfl rfl rfl (by decide) (Nat.zero_le _) (Nat.zero_le _) (Nat.le_of_ble_eq_true rfl) dX6_digits_44 ?_
      refine aw_if_ne (t := 58) hG dX6_digits_47 rfl (fun hc => ?_) (fun hc => ?_)
      · replace h := it_n hc h
        refine aw_aload_n hG 1 rfl dX6_digits_58 rfl ?_
        refine gt_ft_number hG l_345 dX6_digits_59 ?_
        refine aw_aload hG 0 rfl dX6_digits_62 ?_
        refine aw_lload_n hG 3 rfl dX6_digits_64 rfl ?_
        obtain ⟨v_4, hv_4, h⟩ := bd_o h
        refine aw_callSv (As := [.ref (wad (cxw g) (9 + 2 * 0)), .ref (wad (cxw g) (30 + v_1)), .long x2]) (rest := []) hG (c_X6_setSize (r0 := 0) (f1 := v_1) (x2 := x2) (c := c) (by decide) hhv_1 hv_4) l_460 ws_X6_setSize rfl rfl rfl (by decide) (Nat.zero_le _) (Nat.zero_le _) (Nat.le_of_ble_eq_true rfl) dX6_digits_65 ?_
        refine aw_aload_n hG 1 rfl dX6_digits_68 rfl ?_
        refine aw_aload_n hG 1 rfl dX6_digits_69 rfl ?_
        refine gt_ft_number hG l_345 dX6_digits_70 ?_
        obtain ⟨v_5, hv_5, h⟩ := bd_o h
        refine aw_callVi (As := []) (rest := [.ref (wad (cxw g) 0)]) hG (c_X4_point (r0 := 0) (c := v_4) (by decide) hv_5) l_308 wv_X4_point (rv_X4 hG (by decide)) rfl rfl rfl (by decide) (Nat.zero_le _) (Nat.zero_le _) (Nat.le_of_ble_eq_true rfl) dX6_digits_73 ?_
        refine aw_iload hG 4 rfl dX6_digits_76 ?_
        refine aw_isub hG dX6_digits_78 ?_
        refine aw_aload hG 0 rfl dX6_digits_79 ?_
        refine aw_lload_n hG 3 rfl dX6_digits_81 rfl ?_
        refine aw_callNi (As := [.long x2]) (rest := [.int (v_5 - x4), .ref (wad (cxw g) 0)]) hG (c_X2_isMinus (f0 := v_1) (x1 := x2) (c := v_4) hhv_1) l_486 wf_X2_isMinus (rv_X2 hG hhv_1) rfl rfl rfl (by decide) (Nat.zero_le _) (Nat.zero_le _) (Nat.le_of_ble_eq_true rfl) dX6_digits_82 ?_
        refine aw_iload hG 5 rfl dX6_digits_85 ?_
        obtain ⟨v_6, hv_6, h⟩ := bd_o h
        refine aw_callVv (As := [.int (v_5 - x4), .int (f_X2_isMinus v_1 x2), .int x5]) (rest := []) hG (c_X6_roundAt (x1 := v_5 - x4) (x2 := f_X2_isMinus v_1 x2) (x3 := x5) (c := v_4)  hv_6) l_436 wv_X6_roundAt (rv_X6 hG) rfl rfl rfl (by decide) (Nat.zero_le _) (Nat.zero_le _) (Nat.le_of_ble_eq_true rfl) dX6_digits_87 ?_
        refine aw_aload_n hG 1 rfl dX6_digits_90 rfl ?_
        refine aw_aload_n hG 1 rfl dX6_digits_91 rfl ?_
        refine gt_ft_candidate hG l_411 dX6_digits_92 ?_
        refine aw_aload hG 0 rfl dX6_digits_95 ?_
        refine aw_lload_n hG 3 rfl dX6_digits_97 rfl ?_
        refine aw_callNi (As := [.long x2]) (rest := [.ref (wad (cxw g) (9 + 2 * 3)), .ref (wad (cxw g) 0)]) hG (c_X2_isMinus (f0 := v_1) (x1 := x2) (c := v_6) hhv_1) l_486 wf_X2_isMinus (rv_X2 hG hhv_1) rfl rfl rfl (by decide) (Nat.zero_le _) (Nat.zero_le _) (Nat.le_of_ble_eq_true rfl) dX6_digits_98 ?_
        refine aw_iload hG 4 rfl dX6_digits_101 ?_
        refine aw_iload hG 6 rfl dX6_digits_103 ?_
        obtain ⟨v_7, hv_7, h⟩ := bd_o h
        refine aw_callVi (As := [.ref (wad (cxw g) (9 + 2 * 3)), .int (f_X2_isMinus v_1 x2), .int x4, .int x6]) (rest := []) hG (c_X6_tellRow (r1 := 3) (x2 := f_X2_isMinus v_1 x2) (x3 := x4) (x4 := x6) (c := v_6) (by decide) hv_7) l_535 wv_X6_tellRow (rv_X6 hG) rfl rfl rfl (by decide) (Nat.zero_le _) (Nat.zero_le _) (Nat.le_of_ble_eq_true rfl) dX6_digits_105 ?_
        obtain rfl := Option.some.inj h
        exact FinI.z hK dX6_digits_108
      · replace h := it_p hc h
        refine aw_aload_n hG 1 rfl dX6_digits_50 rfl ?_
        refine aw_aload hG 0 rfl dX6_digits_51 ?_
        refine aw_lload_n hG 3 rfl dX6_digits_53 rfl ?_
        obtain ⟨v_8, hv_8, h⟩ := bd_o h
        refine aw_callVi (As := [.ref (wad (cxw g) (30 + v_1)), .long x2]) (rest := []) hG (c_X6_tellName (f1 := v_1) (x2 := x2) (c := c) hhv_1 hv_8) l_545 wv_X6_tellName (rv_X6 hG) rfl rfl rfl (by decide) (Nat.zero_le _) (Nat.zero_le _) (Nat.le_of_ble_eq_true rfl) dX6_digits_54 ?_
        obtain rfl := Option.some.inj h
        exact FinI.z hK dX6_digits_57
    · replace h := it_n hc h
      obtain rfl := Option.some.inj h
      exact aw_throwIA (j := 11) hK.1 (by decide) hK.2 rfl dX6_digits_31 dX6_digits_34 dX6_digits_35 dX6_digits_37 dX6_digits_40
theorem c_X6_digits {c : CS} {m : MS} {z : Nat → Int64} {x1 : Int32} {x2 : Int64} {x4 : Int32} {x5 : Int32} {x6 : Int32} {s : Int32 × CS}  (h : f_X6_digits x1 x2 x4 x5 x6 c = some (.inr s)) : Ct yX6_digits cX6_digits 8 (some .int) 9 (fun w => [.ref (wad w 0), .int x1, .long x2, .int x4, .int x5, .int x6]) (c, m, z) (fun _ => some (.int s.1)) (s.2, m, z) := Ct_ofI (by decide +kernel) (fun _ => Nat.le_of_ble_eq_true rfl) (fun g hG hK => w_X6_digits hG h hK)
theorem ct_X6_digits {c : CS} {m : MS} {z : Nat → Int64} {x1 : Int32} {x2 : Int64} {x4 : Int32} {x5 : Int32} {x6 : Int32}  (h : f_X6_digits x1 x2 x4 x5 x6 c = some (.inl ())) : CtT yX6_digits cX6_digits 8 (some .int) 9 (fun w => [.ref (wad w 0), .int x1, .long x2, .int x4, .int x5, .int x6]) (c, m, z) wIA := CtT_of (by decide +kernel) (fun _ => Nat.le_of_ble_eq_true rfl) (fun g hG hK => w_X6_digits hG h ⟨hG, hK⟩)
noncomputable def f_X6_fixed (x1 : Int32) (x2 : Int64) (x4 : Int32) (x5 : Int32) (c : CS) : Option (Unit ⊕ (Int32 × CS)) :=
  tbd (f_X6_shapeOwning x1 x2) fun v_1 =>
  tbd (f_X6_needWay x5) fun v_2 =>
  if x4 < 0 then
    some (.inl ())
  else
    if x4 ≤ 1100 then
      if (f_X2_isFinite v_1 x2) = 0 then
        Option.bind (f_X6_tellName v_1 x2 c) fun v_7 =>
        some (.inr (v_7.1, v_7.2))
      else
        Option.bind (f_X6_setSize 0 v_1 x2 c) fun v_3 =>
        Option.bind (f_X6_roundAt (-x4) (f_X2_isMinus v_1 x2) x5 v_3) fun v_4 =>
        Option.bind (f_X4_point 3 v_4) fun v_5 =>
        Option.bind (f_X6_tellRow 3 (f_X2_isMinus v_1 x2) (v_5 + x4) 1 v_4) fun v_6 =>
        some (.inr (v_6.1, v_6.2))
    else
      some (.inl ())
set_option maxRecDepth 20000 in
theorem w_X6_fixed {g : Cx} {mc ms : Nat} {c : CS} {m : MS} {z : Nat → Int64} {x1 : Int32} {x2 : Int64} {x4 : Int32} {x5 : Int32} {s : (Unit ⊕ (Int32 × CS))}  (hG : Gd g RX6 cX6_fixed 7 9 mc ms) (h : f_X6_fixed x1 x2 x4 x5 c = some s) (hK : Sum.elim (fun _ : Unit => Gd g RX6 cX6_fixed 7 9 1 6 ∧ FinT g wIA (c, m, z)) (fun s => FinI g cX6_fixed mc ms s.1 (s.2, m, z)) s) : AW g 0 [(0, .ref (wad (cxw g) 0)), (1, .int x1), (2, .long x2), (4, .int x4), (5, .int x5)] [] (c, m, z) 0 0 := by
  unfold f_X6_fixed at h
  refine aw_iload_n hG 1 rfl dX6_fixed_0 rfl ?_
  refine aw_lload_n hG 2 rfl dX6_fixed_1 rfl ?_
  rcases tb_o h with ⟨hv, rfl⟩ | ⟨v_1, hv_1, h⟩
  · exact aw_callST (As := [.int x1, .long x2]) (rest := []) hK.1 (ct_X6_shapeOwning (x0 := x1) (x1 := x2) (c := c)  hv) hK.2 l_518 ws_X6_shapeOwning rfl rfl rfl (by decide) (Nat.le_of_ble_eq_true rfl) dX6_fixed_2
  refine aw_callSa (As := [.int x1, .long x2]) (rest := []) hG (c_X6_shapeOwning (x0 := x1) (x1 := x2) (c := c)  hv_1) l_518 ws_X6_shapeOwning rfl rfl rfl (by decide) (Nat.zero_le _) (Nat.zero_le _) (Nat.le_of_ble_eq_true rfl) dX6_fixed_2 ?_
  have hhv_1 : v_1 < 4 := p_X6_shapeOwning hv_1
  refine aw_astore (L' := [(6, .ref (wad (cxw g) (30 + v_1))), (0, .ref (wad (cxw g) 0)), (1, .int x1), (2, .long x2), (4, .int x4), (5, .int x5)]) hG dX6_fixed_5 (by decide) rfl ?_
  refine aw_iload hG 5 rfl dX6_fixed_7 ?_
  rcases tb_o h with ⟨hv, rfl⟩ | ⟨v_2, hv_2, h⟩
  · exact aw_callST (As := [.int x5]) (rest := []) hK.1 (ct_X6_needWay (x0 := x5) (c := c)  hv) hK.2 l_392 ws_X6_needWay rfl rfl rfl (by decide) (Nat.le_of_ble_eq_true rfl) dX6_fixed_9
  refine aw_callSv (As := [.int x5]) (rest := []) hG (c_X6_needWay (x0 := x5) (c := c)  hv_2) l_392 ws_X6_needWay rfl rfl rfl (by decide) (Nat.zero_le _) (Nat.zero_le _) (Nat.le_of_ble_eq_true rfl) dX6_fixed_9 ?_
  refine aw_iload hG 4 rfl dX6_fixed_12 ?_
  refine aw_if_lt (t := 25) hG dX6_fixed_14 rfl (fun hc => ?_) (fun hc => ?_)
  · replace h := it_p hc h
    obtain rfl := Option.some.inj h
    exact aw_throwIA (j := 12) hK.1 (by decide) hK.2 rfl dX6_fixed_25 dX6_fixed_28 dX6_fixed_29 dX6_fixed_31 dX6_fixed_34
  · replace h := it_n hc h
    refine aw_iload hG 4 rfl dX6_fixed_17 ?_
    refine aw_sipush (v := 1100) hG dX6_fixed_19 rfl ?_
    refine aw_icmp_le (t := 35) hG dX6_fixed_22 rfl (fun hc => ?_) (fun hc => ?_)
    · replace h := it_p hc h
      refine aw_aload hG 0 rfl dX6_fixed_35 ?_
      refine aw_lload_n hG 3 rfl dX6_fixed_37 rfl ?_
      refine aw_callNi (As := [.long x2]) (rest := []) hG (c_X2_isFinite (f0 := v_1) (x1 := x2) (c := c) hhv_1) l_526 wf_X2_isFinite (rv_X2 hG hhv_1) rfl rfl rfl (by decide) (Nat.zero_le _) (Nat.zero_le _) (Nat.le_of_ble_eq_true rfl) dX6_fixed_38 ?_
      refine aw_if_ne (t := 52) hG dX6_fixed_41 rfl (fun hc => ?_) (fun hc => ?_)
      · replace h := it_n hc h
        refine aw_aload_n hG 1 rfl dX6_fixed_52 rfl ?_
        refine gt_ft_number hG l_345 dX6_fixed_53 ?_
        refine aw_aload hG 0 rfl dX6_fixed_56 ?_
        refine aw_lload_n hG 3 rfl dX6_fixed_58 rfl ?_
        obtain ⟨v_3, hv_3, h⟩ := bd_o h
        refine aw_callSv (As := [.ref (wad (cxw g) (9 + 2 * 0)), .ref (wad (cxw g) (30 + v_1)), .long x2]) (rest := []) hG (c_X6_setSize (r0 := 0) (f1 := v_1) (x2 := x2) (c := c) (by decide) hhv_1 hv_3) l_460 ws_X6_setSize rfl rfl rfl (by decide) (Nat.zero_le _) (Nat.zero_le _) (Nat.le_of_ble_eq_true rfl) dX6_fixed_59 ?_
        refine aw_aload_n hG 1 rfl dX6_fixed_62 rfl ?_
        refine aw_iload hG 4 rfl dX6_fixed_63 ?_
        refine aw_ineg hG dX6_fixed_65 ?_
        refine aw_aload hG 0 rfl dX6_fixed_66 ?_
        refine aw_lload_n hG 3 rfl dX6_fixed_68 rfl ?_
        refine aw_callNi (As := [.long x2]) (rest := [.int (-x4), .ref (wad (cxw g) 0)]) hG (c_X2_isMinus (f0 := v_1) (x1 := x2) (c := v_3) hhv_1) l_486 wf_X2_isMinus (rv_X2 hG hhv_1) rfl rfl rfl (by decide) (Nat.zero_le _) (Nat.zero_le _) (Nat.le_of_ble_eq_true rfl) dX6_fixed_69 ?_
        refine aw_iload hG 5 rfl dX6_fixed_72 ?_
        obtain ⟨v_4, hv_4, h⟩ := bd_o h
        refine aw_callVv (As := [.int (-x4), .int (f_X2_isMinus v_1 x2), .int x5]) (rest := []) hG (c_X6_roundAt (x1 := -x4) (x2 := f_X2_isMinus v_1 x2) (x3 := x5) (c := v_3)  hv_4) l_436 wv_X6_roundAt (rv_X6 hG) rfl rfl rfl (by decide) (Nat.zero_le _) (Nat.zero_le _) (Nat.le_of_ble_eq_true rfl) dX6_fixed_74 ?_
        refine aw_aload_n hG 1 rfl dX6_fixed_77 rfl ?_
        refine aw_aload_n hG 1 rfl dX6_fixed_78 rfl ?_
        refine gt_ft_candidate hG l_411 dX6_fixed_79 ?_
        refine aw_aload hG 0 rfl dX6_fixed_82 ?_
        refine aw_lload_n hG 3 rfl dX6_fixed_84 rfl ?_
        refine aw_callNi (As := [.long x2]) (rest := [.ref (wad (cxw g) (9 + 2 * 3)), .ref (wad (cxw g) 0)]) hG (c_X2_isMinus (f0 := v_1) (x1 := x2) (c := v_4) hhv_1) l_486 wf_X2_isMinus (rv_X2 hG hhv_1) rfl rfl rfl (by decide) (Nat.zero_le _) (Nat.zero_le _) (Nat.le_of_ble_eq_true rfl) dX6_fixed_85 ?_
        refine aw_aload_n hG 1 rfl dX6_fixed_88 rfl ?_
        refine gt_ft_candidate hG l_411 dX6_fixed_89 ?_
        obtain ⟨v_5, hv_5, h⟩ := bd_o h
        refine aw_callVi (As := []) (rest := [.int (f_X2_isMinus v_1 x2), .ref (wad (cxw g) (9 + 2 * 3)), .ref (wad (cxw g) 0)]) hG (c_X4_point (r0 := 3) (c := v_4) (by decide) hv_5) l_308 wv_X4_point (rv_X4 hG (by decide)) rfl rfl rfl (by decide) (Nat.zero_le _) (Nat.zero_le _) (Nat.le_of_ble_eq_true rfl) dX6_fixed_92 ?_
        refine aw_iload hG 4 rfl dX6_fixed_95 ?_
        refine aw_iadd hG dX6_fixed_97 ?_
        refine aw_iconst (v := 1) hG dX6_fixed_98 rfl ?_
        obtain ⟨v_6, hv_6, h⟩ := bd_o h
        refine aw_callVi (As := [.ref (wad (cxw g) (9 + 2 * 3)), .int (f_X2_isMinus v_1 x2), .int (v_5 + x4), .int 1]) (rest := []) hG (c_X6_tellRow (r1 := 3) (x2 := f_X2_isMinus v_1 x2) (x3 := v_5 + x4) (x4 := 1) (c := v_4) (by decide) hv_6) l_535 wv_X6_tellRow (rv_X6 hG) rfl rfl rfl (by decide) (Nat.zero_le _) (Nat.zero_le _) (Nat.le_of_ble_eq_true rfl) dX6_fixed_99 ?_
        obtain rfl := Option.some.inj h
        exact FinI.z hK dX6_fixed_102
      · replace h := it_p hc h
        refine aw_aload_n hG 1 rfl dX6_fixed_44 rfl ?_
        refine aw_aload hG 0 rfl dX6_fixed_45 ?_
        refine aw_lload_n hG 3 rfl dX6_fixed_47 rfl ?_
        obtain ⟨v_7, hv_7, h⟩ := bd_o h
        refine aw_callVi (As := [.ref (wad (cxw g) (30 + v_1)), .long x2]) (rest := []) hG (c_X6_tellName (f1 := v_1) (x2 := x2) (c := c) hhv_1 hv_7) l_545 wv_X6_tellName (rv_X6 hG) rfl rfl rfl (by decide) (Nat.zero_le _) (Nat.zero_le _) (Nat.le_of_ble_eq_true rfl) dX6_fixed_48 ?_
        obtain rfl := Option.some.inj h
        exact FinI.z hK dX6_fixed_51
    · replace h := it_n hc h
      obtain rfl := Option.some.inj h
      exact aw_throwIA (j := 12) hK.1 (by decide) hK.2 rfl dX6_fixed_25 dX6_fixed_28 dX6_fixed_29 dX6_fixed_31 dX6_fixed_34
theorem c_X6_fixed {c : CS} {m : MS} {z : Nat → Int64} {x1 : Int32} {x2 : Int64} {x4 : Int32} {x5 : Int32} {s : Int32 × CS}  (h : f_X6_fixed x1 x2 x4 x5 c = some (.inr s)) : Ct yX6_fixed cX6_fixed 7 (some .int) 9 (fun w => [.ref (wad w 0), .int x1, .long x2, .int x4, .int x5]) (c, m, z) (fun _ => some (.int s.1)) (s.2, m, z) := Ct_ofI (by decide +kernel) (fun _ => Nat.le_of_ble_eq_true rfl) (fun g hG hK => w_X6_fixed hG h hK)
theorem ct_X6_fixed {c : CS} {m : MS} {z : Nat → Int64} {x1 : Int32} {x2 : Int64} {x4 : Int32} {x5 : Int32}  (h : f_X6_fixed x1 x2 x4 x5 c = some (.inl ())) : CtT yX6_fixed cX6_fixed 7 (some .int) 9 (fun w => [.ref (wad w 0), .int x1, .long x2, .int x4, .int x5]) (c, m, z) wIA := CtT_of (by decide +kernel) (fun _ => Nat.le_of_ble_eq_true rfl) (fun g hG hK => w_X6_fixed hG h ⟨hG, hK⟩)
noncomputable def f_X6_hex (x1 : Int32) (x2 : Int64) (c : CS) : Option (Unit ⊕ (Int32 × CS)) :=
  tbd (f_X6_shapeOwning x1 x2) fun v_1 =>
  if (f_X2_isFinite v_1 x2) = 0 then
    Option.bind (f_X6_tellName v_1 x2 c) fun v_5 =>
    some (.inr (v_5.1, v_5.2))
  else
    Option.bind (f_X1_takeNone (f_X2_isMinus v_1 x2) c) fun v_2 =>
    lt (f_X0_startWith 1 (f_X2_isMinus v_1 x2) v_2) fun v_3 =>
    Option.bind (f_X0_addHexadecimal 1 (f_X2_wholeOf v_1 x2) (f_X2_unitOf v_1 x2) v_3) fun v_4 =>
    some (.inr (brN v_4 1, v_4))
set_option maxRecDepth 20000 in
theorem w_X6_hex {g : Cx} {mc ms : Nat} {c : CS} {m : MS} {z : Nat → Int64} {x1 : Int32} {x2 : Int64} {s : (Unit ⊕ (Int32 × CS))}  (hG : Gd g RX6 cX6_hex 5 9 mc ms) (h : f_X6_hex x1 x2 c = some s) (hK : Sum.elim (fun _ : Unit => Gd g RX6 cX6_hex 5 9 1 6 ∧ FinT g wIA (c, m, z)) (fun s => FinI g cX6_hex mc ms s.1 (s.2, m, z)) s) : AW g 0 [(0, .ref (wad (cxw g) 0)), (1, .int x1), (2, .long x2)] [] (c, m, z) 0 0 := by
  unfold f_X6_hex at h
  refine aw_iload_n hG 1 rfl dX6_hex_0 rfl ?_
  refine aw_lload_n hG 2 rfl dX6_hex_1 rfl ?_
  rcases tb_o h with ⟨hv, rfl⟩ | ⟨v_1, hv_1, h⟩
  · exact aw_callST (As := [.int x1, .long x2]) (rest := []) hK.1 (ct_X6_shapeOwning (x0 := x1) (x1 := x2) (c := c)  hv) hK.2 l_518 ws_X6_shapeOwning rfl rfl rfl (by decide) (Nat.le_of_ble_eq_true rfl) dX6_hex_2
  refine aw_callSa (As := [.int x1, .long x2]) (rest := []) hG (c_X6_shapeOwning (x0 := x1) (x1 := x2) (c := c)  hv_1) l_518 ws_X6_shapeOwning rfl rfl rfl (by decide) (Nat.zero_le _) (Nat.zero_le _) (Nat.le_of_ble_eq_true rfl) dX6_hex_2 ?_
  have hhv_1 : v_1 < 4 := p_X6_shapeOwning hv_1
  refine aw_astore (L' := [(4, .ref (wad (cxw g) (30 + v_1))), (0, .ref (wad (cxw g) 0)), (1, .int x1), (2, .long x2)]) hG dX6_hex_5 (by decide) rfl ?_
  refine aw_aload hG 0 rfl dX6_hex_7 ?_
  refine aw_lload_n hG 3 rfl dX6_hex_9 rfl ?_
  refine aw_callNi (As := [.long x2]) (rest := []) hG (c_X2_isFinite (f0 := v_1) (x1 := x2) (c := c) hhv_1) l_526 wf_X2_isFinite (rv_X2 hG hhv_1) rfl rfl rfl (by decide) (Nat.zero_le _) (Nat.zero_le _) (Nat.le_of_ble_eq_true rfl) dX6_hex_10 ?_
  refine aw_if_ne (t := 24) hG dX6_hex_13 rfl (fun hc => ?_) (fun hc => ?_)
  · replace h := it_n hc h
    refine aw_aload_n hG 1 rfl dX6_hex_24 rfl ?_
    refine gt_ft_told hG l_485 dX6_hex_25 ?_
    refine aw_aload hG 0 rfl dX6_hex_28 ?_
    refine aw_lload_n hG 3 rfl dX6_hex_30 rfl ?_
    refine aw_callNi (As := [.long x2]) (rest := [.ref (wad (cxw g) 5)]) hG (c_X2_isMinus (f0 := v_1) (x1 := x2) (c := c) hhv_1) l_486 wf_X2_isMinus (rv_X2 hG hhv_1) rfl rfl rfl (by decide) (Nat.zero_le _) (Nat.zero_le _) (Nat.le_of_ble_eq_true rfl) dX6_hex_31 ?_
    obtain ⟨v_2, hv_2, h⟩ := bd_o h
    refine aw_callVv (As := [.int (f_X2_isMinus v_1 x2)]) (rest := []) hG (c_X1_takeNone (x1 := f_X2_isMinus v_1 x2) (c := c)  hv_2) l_487 wv_X1_takeNone (rv_X1 hG) rfl rfl rfl (by decide) (Nat.zero_le _) (Nat.zero_le _) (Nat.le_of_ble_eq_true rfl) dX6_hex_34 ?_
    refine aw_aload_n hG 1 rfl dX6_hex_37 rfl ?_
    refine gt_ft_made hG l_301 dX6_hex_38 ?_
    refine aw_aload hG 0 rfl dX6_hex_41 ?_
    refine aw_lload_n hG 3 rfl dX6_hex_43 rfl ?_
    refine aw_callNi (As := [.long x2]) (rest := [.ref (wad (cxw g) (1 + 2 * 1))]) hG (c_X2_isMinus (f0 := v_1) (x1 := x2) (c := v_2) hhv_1) l_486 wf_X2_isMinus (rv_X2 hG hhv_1) rfl rfl rfl (by decide) (Nat.zero_le _) (Nat.zero_le _) (Nat.le_of_ble_eq_true rfl) dX6_hex_44 ?_
    obtain ⟨v_3, hv_3⟩ : ∃ y, y = f_X0_startWith 1 (f_X2_isMinus v_1 x2) v_2 := ⟨_, rfl⟩
    replace h := lt_r hv_3 h
    refine aw_callVv (As := [.int (f_X2_isMinus v_1 x2)]) (rest := []) hG (c_X0_startWith (t0 := 1) (x1 := f_X2_isMinus v_1 x2) (c := v_2) (by decide) hv_3.symm) l_492 wv_X0_startWith (rv_X0 hG (by decide)) rfl rfl rfl (by decide) (Nat.zero_le _) (Nat.zero_le _) (Nat.le_of_ble_eq_true rfl) dX6_hex_47 ?_
    refine aw_aload_n hG 1 rfl dX6_hex_50 rfl ?_
    refine gt_ft_made hG l_301 dX6_hex_51 ?_
    refine aw_aload hG 0 rfl dX6_hex_54 ?_
    refine aw_lload_n hG 3 rfl dX6_hex_56 rfl ?_
    refine aw_callNl (As := [.long x2]) (rest := [.ref (wad (cxw g) (1 + 2 * 1))]) hG (c_X2_wholeOf (f0 := v_1) (x1 := x2) (c := v_3) hhv_1) l_446 wf_X2_wholeOf (rv_X2 hG hhv_1) rfl rfl rfl (by decide) (Nat.zero_le _) (Nat.zero_le _) (Nat.le_of_ble_eq_true rfl) dX6_hex_57 ?_
    refine aw_aload hG 0 rfl dX6_hex_60 ?_
    refine aw_lload_n hG 3 rfl dX6_hex_62 rfl ?_
    refine aw_callNi (As := [.long x2]) (rest := [.long (f_X2_wholeOf v_1 x2), .ref (wad (cxw g) (1 + 2 * 1))]) hG (c_X2_unitOf (f0 := v_1) (x1 := x2) (c := v_3) hhv_1) l_455 wf_X2_unitOf (rv_X2 hG hhv_1) rfl rfl rfl (by decide) (Nat.zero_le _) (Nat.zero_le _) (Nat.le_of_ble_eq_true rfl) dX6_hex_63 ?_
    obtain ⟨v_4, hv_4, h⟩ := bd_o h
    refine aw_callVv (As := [.long (f_X2_wholeOf v_1 x2), .int (f_X2_unitOf v_1 x2)]) (rest := []) hG (c_X0_addHexadecimal (t0 := 1) (x1 := f_X2_wholeOf v_1 x2) (x3 := f_X2_unitOf v_1 x2) (c := v_3) (by decide) hv_4) l_559 wv_X0_addHexadecimal (rv_X0 hG (by decide)) rfl rfl rfl (by decide) (Nat.zero_le _) (Nat.zero_le _) (Nat.le_of_ble_eq_true rfl) dX6_hex_66 ?_
    refine aw_aload_n hG 1 rfl dX6_hex_69 rfl ?_
    refine gt_ft_made hG l_301 dX6_hex_70 ?_
    refine gt_brN hG (by decide) l_300 dX6_hex_73 ?_
    obtain rfl := Option.some.inj h
    exact FinI.z hK dX6_hex_76
  · replace h := it_p hc h
    refine aw_aload_n hG 1 rfl dX6_hex_16 rfl ?_
    refine aw_aload hG 0 rfl dX6_hex_17 ?_
    refine aw_lload_n hG 3 rfl dX6_hex_19 rfl ?_
    obtain ⟨v_5, hv_5, h⟩ := bd_o h
    refine aw_callVi (As := [.ref (wad (cxw g) (30 + v_1)), .long x2]) (rest := []) hG (c_X6_tellName (f1 := v_1) (x2 := x2) (c := c) hhv_1 hv_5) l_545 wv_X6_tellName (rv_X6 hG) rfl rfl rfl (by decide) (Nat.zero_le _) (Nat.zero_le _) (Nat.le_of_ble_eq_true rfl) dX6_hex_20 ?_
    obtain rfl := Option.some.inj h
    exact FinI.z hK dX6_hex_23
theorem c_X6_hex {c : CS} {m : MS} {z : Nat → Int64} {x1 : Int32} {x2 : Int64} {s : Int32 × CS}  (h : f_X6_hex x1 x2 c = some (.inr s)) : Ct yX6_hex cX6_hex 5 (some .int) 9 (fun w => [.ref (wad w 0), .int x1, .long x2]) (c, m, z) (fun _ => some (.int s.1)) (s.2, m, z) := Ct_ofI (by decide +kernel) (fun _ => Nat.le_of_ble_eq_true rfl) (fun g hG hK => w_X6_hex hG h hK)
theorem ct_X6_hex {c : CS} {m : MS} {z : Nat → Int64} {x1 : Int32} {x2 : Int64}  (h : f_X6_hex x1 x2 c = some (.inl ())) : CtT yX6_hex cX6_hex 5 (some .int) 9 (fun w => [.ref (wad w 0), .int x1, .long x2]) (c, m, z) wIA := CtT_of (by decide +kernel) (fun _ => Nat.le_of_ble_eq_true rfl) (fun g hG hK => w_X6_hex hG h ⟨hG, hK⟩)
def f_X6_out (x1 : Int32) (c : CS) : Option (Unit ⊕ Int32) :=
  if x1 < 0 then
    some (.inl ())
  else
    if x1 < (brN c 1) then
      some (.inr (f_X0_at 1 x1 c))
    else
      some (.inl ())
set_option maxRecDepth 20000 in
theorem w_X6_out {g : Cx} {mc ms : Nat} {c : CS} {m : MS} {z : Nat → Int64} {x1 : Int32} {s : (Unit ⊕ Int32)}  (hG : Gd g RX6 cX6_out 2 7 mc ms) (h : f_X6_out x1 c = some s) (hK : Sum.elim (fun _ : Unit => Gd g RX6 cX6_out 2 7 1 6 ∧ FinT g wIO (c, m, z)) (fun s => FinI g cX6_out mc ms s (c, m, z)) s) : AW g 0 [(0, .ref (wad (cxw g) 0)), (1, .int x1)] [] (c, m, z) 0 0 := by
  unfold f_X6_out at h
  refine aw_iload_n hG 1 rfl dX6_out_0 rfl ?_
  refine aw_if_lt (t := 15) hG dX6_out_1 rfl (fun hc => ?_) (fun hc => ?_)
  · replace h := it_p hc h
    obtain rfl := Option.some.inj h
    exact aw_throwIO (j := 15) hK.1 (by decide) hK.2 rfl dX6_out_15 dX6_out_18 dX6_out_19 dX6_out_21 dX6_out_24
  · replace h := it_n hc h
    refine aw_iload_n hG 1 rfl dX6_out_4 rfl ?_
    refine aw_aload_n hG 0 rfl dX6_out_5 rfl ?_
    refine gt_ft_made hG l_301 dX6_out_6 ?_
    refine gt_brN hG (by decide) l_300 dX6_out_9 ?_
    refine aw_icmp_lt (t := 25) hG dX6_out_12 rfl (fun hc => ?_) (fun hc => ?_)
    · replace h := it_p hc h
      refine aw_aload_n hG 0 rfl dX6_out_25 rfl ?_
      refine gt_ft_made hG l_301 dX6_out_26 ?_
      refine aw_iload_n hG 1 rfl dX6_out_29 rfl ?_
      refine aw_callVi (As := [.int x1]) (rest := []) hG (c_X0_at (t0 := 1) (x1 := x1) (c := c) (by decide)) l_302 wv_X0_at (rv_X0 hG (by decide)) rfl rfl rfl (by decide) (Nat.zero_le _) (Nat.zero_le _) (Nat.le_of_ble_eq_true rfl) dX6_out_30 ?_
      obtain rfl := Option.some.inj h
      exact FinI.z hK dX6_out_33
    · replace h := it_n hc h
      obtain rfl := Option.some.inj h
      exact aw_throwIO (j := 15) hK.1 (by decide) hK.2 rfl dX6_out_15 dX6_out_18 dX6_out_19 dX6_out_21 dX6_out_24
theorem c_X6_out {c : CS} {m : MS} {z : Nat → Int64} {x1 : Int32} {s : Int32}  (h : f_X6_out x1 c = some (.inr s)) : Ct yX6_out cX6_out 2 (some .int) 7 (fun w => [.ref (wad w 0), .int x1]) (c, m, z) (fun _ => some (.int s)) (c, m, z) := Ct_ofI (by decide +kernel) (fun _ => Nat.le_of_ble_eq_true rfl) (fun g hG hK => w_X6_out hG h hK)
theorem ct_X6_out {c : CS} {m : MS} {z : Nat → Int64} {x1 : Int32}  (h : f_X6_out x1 c = some (.inl ())) : CtT yX6_out cX6_out 2 (some .int) 7 (fun w => [.ref (wad w 0), .int x1]) (c, m, z) wIO := CtT_of (by decide +kernel) (fun _ => Nat.le_of_ble_eq_true rfl) (fun g hG hK => w_X6_out hG h ⟨hG, hK⟩)
def f_X6_decimal (x1 : Int32) (c : CS) : Option (Unit ⊕ Int32) :=
  if x1 = 0 then
    some (.inr (dcC c))
  else
    if x1 = 1 then
      some (.inr (dcP c))
    else
      if x1 = 2 then
        if (dcM c) = 0 then
          some (.inr 0)
        else
          some (.inr 1)
      else
        some (.inl ())
set_option maxRecDepth 20000 in
theorem w_X6_decimal {g : Cx} {mc ms : Nat} {c : CS} {m : MS} {z : Nat → Int64} {x1 : Int32} {s : (Unit ⊕ Int32)}  (hG : Gd g RX6 cX6_decimal 2 7 mc ms) (h : f_X6_decimal x1 c = some s) (hK : Sum.elim (fun _ : Unit => Gd g RX6 cX6_decimal 2 7 1 6 ∧ FinT g wIA (c, m, z)) (fun s => FinI g cX6_decimal mc ms s (c, m, z)) s) : AW g 0 [(0, .ref (wad (cxw g) 0)), (1, .int x1)] [] (c, m, z) 0 0 := by
  unfold f_X6_decimal at h
  refine aw_iload_n hG 1 rfl dX6_decimal_0 rfl ?_
  by_cases hs0 : x1 = 0
  · replace h := it_p hs0 h
    refine aw_tableIn (off := 27) (t := 28) hG dX6_decimal_1 (by rw [hs0]; decide) (by rw [hs0]; decide) (by rw [hs0]; rfl) rfl ?_
    refine aw_aload_n hG 0 rfl dX6_decimal_28 rfl ?_
    refine gt_ft_told hG l_485 dX6_decimal_29 ?_
    refine gt_dcC hG l_564 dX6_decimal_32 ?_
    obtain rfl := Option.some.inj h
    exact FinI.z hK dX6_decimal_35
  · replace h := it_n hs0 h
    by_cases hs1 : x1 = 1
    · replace h := it_p hs1 h
      refine aw_tableIn (off := 35) (t := 36) hG dX6_decimal_1 (by rw [hs1]; decide) (by rw [hs1]; decide) (by rw [hs1]; rfl) rfl ?_
      refine aw_aload_n hG 0 rfl dX6_decimal_36 rfl ?_
      refine gt_ft_told hG l_485 dX6_decimal_37 ?_
      refine gt_dcP hG l_507 dX6_decimal_40 ?_
      obtain rfl := Option.some.inj h
      exact FinI.z hK dX6_decimal_43
    · replace h := it_n hs1 h
      by_cases hs2 : x1 = 2
      · replace h := it_p hs2 h
        refine aw_tableIn (off := 43) (t := 44) hG dX6_decimal_1 (by rw [hs2]; decide) (by rw [hs2]; decide) (by rw [hs2]; rfl) rfl ?_
        refine aw_aload_n hG 0 rfl dX6_decimal_44 rfl ?_
        refine gt_ft_told hG l_485 dX6_decimal_45 ?_
        refine gt_dcM hG l_565 dX6_decimal_48 ?_
        refine aw_if_eq (t := 58) hG dX6_decimal_51 rfl (fun hc => ?_) (fun hc => ?_)
        · replace h := it_p hc h
          refine aw_iconst (v := 0) hG dX6_decimal_58 rfl ?_
          obtain rfl := Option.some.inj h
          exact FinI.z hK dX6_decimal_59
        · replace h := it_n hc h
          refine aw_iconst (v := 1) hG dX6_decimal_54 rfl ?_
          refine aw_goto (t := 59) hG dX6_decimal_55 rfl ?_
          obtain rfl := Option.some.inj h
          exact FinI.z hK dX6_decimal_59
      · replace h := it_n hs2 h
        refine aw_tableOut (t := 60) hG dX6_decimal_1 (sw3 hs0 hs1 hs2) rfl ?_
        obtain rfl := Option.some.inj h
        exact aw_throwIA (j := 16) hK.1 (by decide) hK.2 rfl dX6_decimal_60 dX6_decimal_63 dX6_decimal_64 dX6_decimal_66 dX6_decimal_69
theorem c_X6_decimal {c : CS} {m : MS} {z : Nat → Int64} {x1 : Int32} {s : Int32}  (h : f_X6_decimal x1 c = some (.inr s)) : Ct yX6_decimal cX6_decimal 2 (some .int) 7 (fun w => [.ref (wad w 0), .int x1]) (c, m, z) (fun _ => some (.int s)) (c, m, z) := Ct_ofI (by decide +kernel) (fun _ => Nat.le_of_ble_eq_true rfl) (fun g hG hK => w_X6_decimal hG h hK)
theorem ct_X6_decimal {c : CS} {m : MS} {z : Nat → Int64} {x1 : Int32}  (h : f_X6_decimal x1 c = some (.inl ())) : CtT yX6_decimal cX6_decimal 2 (some .int) 7 (fun w => [.ref (wad w 0), .int x1]) (c, m, z) wIA := CtT_of (by decide +kernel) (fun _ => Nat.le_of_ble_eq_true rfl) (fun g hG hK => w_X6_decimal hG h ⟨hG, hK⟩)
def f_X6_digit (x1 : Int32) (c : CS) : Option (Unit ⊕ Int32) :=
  if x1 < 0 then
    some (.inl ())
  else
    if x1 < (dcC c) then
      some (.inr (f_X1_digitAt x1 c))
    else
      some (.inl ())
set_option maxRecDepth 20000 in
theorem w_X6_digit {g : Cx} {mc ms : Nat} {c : CS} {m : MS} {z : Nat → Int64} {x1 : Int32} {s : (Unit ⊕ Int32)}  (hG : Gd g RX6 cX6_digit 2 7 mc ms) (h : f_X6_digit x1 c = some s) (hK : Sum.elim (fun _ : Unit => Gd g RX6 cX6_digit 2 7 1 6 ∧ FinT g wIO (c, m, z)) (fun s => FinI g cX6_digit mc ms s (c, m, z)) s) : AW g 0 [(0, .ref (wad (cxw g) 0)), (1, .int x1)] [] (c, m, z) 0 0 := by
  unfold f_X6_digit at h
  refine aw_iload_n hG 1 rfl dX6_digit_0 rfl ?_
  refine aw_if_lt (t := 15) hG dX6_digit_1 rfl (fun hc => ?_) (fun hc => ?_)
  · replace h := it_p hc h
    obtain rfl := Option.some.inj h
    exact aw_throwIO (j := 17) hK.1 (by decide) hK.2 rfl dX6_digit_15 dX6_digit_18 dX6_digit_19 dX6_digit_21 dX6_digit_24
  · replace h := it_n hc h
    refine aw_iload_n hG 1 rfl dX6_digit_4 rfl ?_
    refine aw_aload_n hG 0 rfl dX6_digit_5 rfl ?_
    refine gt_ft_told hG l_485 dX6_digit_6 ?_
    refine gt_dcC hG l_564 dX6_digit_9 ?_
    refine aw_icmp_lt (t := 25) hG dX6_digit_12 rfl (fun hc => ?_) (fun hc => ?_)
    · replace h := it_p hc h
      refine aw_aload_n hG 0 rfl dX6_digit_25 rfl ?_
      refine gt_ft_told hG l_485 dX6_digit_26 ?_
      refine aw_iload_n hG 1 rfl dX6_digit_29 rfl ?_
      refine aw_callVi (As := [.int x1]) (rest := []) hG (c_X1_digitAt (x1 := x1) (c := c) ) l_566 wv_X1_digitAt (rv_X1 hG) rfl rfl rfl (by decide) (Nat.zero_le _) (Nat.zero_le _) (Nat.le_of_ble_eq_true rfl) dX6_digit_30 ?_
      obtain rfl := Option.some.inj h
      exact FinI.z hK dX6_digit_33
    · replace h := it_n hc h
      obtain rfl := Option.some.inj h
      exact aw_throwIO (j := 17) hK.1 (by decide) hK.2 rfl dX6_digit_15 dX6_digit_18 dX6_digit_19 dX6_digit_21 dX6_digit_24
theorem c_X6_digit {c : CS} {m : MS} {z : Nat → Int64} {x1 : Int32} {s : Int32}  (h : f_X6_digit x1 c = some (.inr s)) : Ct yX6_digit cX6_digit 2 (some .int) 7 (fun w => [.ref (wad w 0), .int x1]) (c, m, z) (fun _ => some (.int s)) (c, m, z) := Ct_ofI (by decide +kernel) (fun _ => Nat.le_of_ble_eq_true rfl) (fun g hG hK => w_X6_digit hG h hK)
theorem ct_X6_digit {c : CS} {m : MS} {z : Nat → Int64} {x1 : Int32}  (h : f_X6_digit x1 c = some (.inl ())) : CtT yX6_digit cX6_digit 2 (some .int) 7 (fun w => [.ref (wad w 0), .int x1]) (c, m, z) wIO := CtT_of (by decide +kernel) (fun _ => Nat.le_of_ble_eq_true rfl) (fun g hG hK => w_X6_digit hG h ⟨hG, hK⟩)
def f_X6_needTens (x0 : Int32) : Option (Unit ⊕ Unit) :=
  if x0 < (-5000) then
    some (.inl ())
  else
    if x0 ≤ 5000 then
      some (.inr ())
    else
      some (.inl ())
set_option maxRecDepth 20000 in
theorem w_X6_needTens {g : Cx} {mc ms : Nat} {c : CS} {m : MS} {z : Nat → Int64} {x0 : Int32} {s : (Unit ⊕ Unit)}  (hG : Gd g RX6 cX6_needTens 1 7 mc ms) (h : f_X6_needTens x0 = some s) (hK : Sum.elim (fun _ : Unit => Gd g RX6 cX6_needTens 1 7 1 6 ∧ FinT g wIA (c, m, z)) (fun s => FinV g cX6_needTens mc ms (c, m, z)) s) : AW g 0 [(0, .int x0)] [] (c, m, z) 0 0 := by
  unfold f_X6_needTens at h
  refine aw_iload_n hG 0 rfl dX6_needTens_0 rfl ?_
  refine aw_sipush (v := (-5000)) hG dX6_needTens_1 rfl ?_
  refine aw_icmp_lt (t := 14) hG dX6_needTens_4 rfl (fun hc => ?_) (fun hc => ?_)
  · replace h := it_p hc h
    obtain rfl := Option.some.inj h
    exact aw_throwIAW (j := 18) hK.1 (by decide) hK.2 rfl dX6_needTens_14 dX6_needTens_17 dX6_needTens_18 dX6_needTens_21 dX6_needTens_24
  · replace h := it_n hc h
    refine aw_iload_n hG 0 rfl dX6_needTens_7 rfl ?_
    refine aw_sipush (v := 5000) hG dX6_needTens_8 rfl ?_
    refine aw_icmp_le (t := 25) hG dX6_needTens_11 rfl (fun hc => ?_) (fun hc => ?_)
    · replace h := it_p hc h
      obtain rfl := Option.some.inj h
      exact FinV.z hK dX6_needTens_25
    · replace h := it_n hc h
      obtain rfl := Option.some.inj h
      exact aw_throwIAW (j := 18) hK.1 (by decide) hK.2 rfl dX6_needTens_14 dX6_needTens_17 dX6_needTens_18 dX6_needTens_21 dX6_needTens_24
theorem c_X6_needTens {c : CS} {m : MS} {z : Nat → Int64} {x0 : Int32} {s : Unit}  (h : f_X6_needTens x0 = some (.inr s)) : Ct yX6_needTens cX6_needTens 1 none 7 (fun w => [.int x0]) (c, m, z) (fun _ => none) (c, m, z) := Ct_ofV (by decide +kernel) (fun _ => Nat.le_of_ble_eq_true rfl) (fun g hG hK => w_X6_needTens hG h hK)
theorem ct_X6_needTens {c : CS} {m : MS} {z : Nat → Int64} {x0 : Int32}  (h : f_X6_needTens x0 = some (.inl ())) : CtT yX6_needTens cX6_needTens 1 none 7 (fun w => [.int x0]) (c, m, z) wIA := CtT_of (by decide +kernel) (fun _ => Nat.le_of_ble_eq_true rfl) (fun g hG hK => w_X6_needTens hG h ⟨hG, hK⟩)
def f_X6_digitsOf_L4 (x2 : Int32) (x3 : Int64) : Option ((Int32 × Int64) ⊕ (Int32)) :=
  if x3 = 0 then
    some (.inr x2)
  else
    if 19 ≤ x2 then
      some (.inr x2)
    else
      lt (x2 + 1) fun x2_1 =>
      lt (x3 / 10) fun x3_2 =>
      some (.inl (x2_1, x3_2))
set_option maxRecDepth 20000 in
theorem w_X6_digitsOf_L4 {g : Cx} {mc ms : Nat} {c : CS} {m : MS} {z : Nat → Int64} {x2 : Int32} {x3 : Int64} {s : ((Int32 × Int64) ⊕ (Int32))}  (hG : Gd g RX6 cX6_digitsOf 5 1 mc ms) (h : f_X6_digitsOf_L4 x2 x3 = some s) (hK : Sum.elim (fun a => AW g 4 [(2, .int a.1), (3, .long a.2)] [] (c, m, z) 0 0) (fun e => AW g 28 [(2, .int e)] [] (c, m, z) 0 0) s) : AW g 4 [(2, .int x2), (3, .long x3)] [] (c, m, z) 0 0 := by
  unfold f_X6_digitsOf_L4 at h
  refine aw_lload_n hG 1 rfl dX6_digitsOf_4 rfl ?_
  refine aw_lconst (v := 0) hG dX6_digitsOf_5 rfl ?_
  refine aw_lc_eq (t := 28) hG dX6_digitsOf_6 rfl dX6_digitsOf_7 rfl rfl (fun hc => ?_) (fun hc => ?_)
  · replace h := it_p hc h
    obtain rfl := Option.some.inj h
    refine aw_sub (L' := [(2, .int x2)]) [0] rfl ?_
    exact hK
  · replace h := it_n hc h
    refine aw_iload_n hG 0 rfl dX6_digitsOf_10 rfl ?_
    refine aw_bipush (v := 19) hG dX6_digitsOf_11 rfl ?_
    refine aw_icmp_ge (t := 28) hG dX6_digitsOf_13 rfl (fun hc => ?_) (fun hc => ?_)
    · replace h := it_p hc h
      obtain rfl := Option.some.inj h
      refine aw_sub (L' := [(2, .int x2)]) [0] rfl ?_
      exact hK
    · replace h := it_n hc h
      obtain ⟨x2_1, hx2_1⟩ : ∃ y : Int32, y = x2 + 1 := ⟨_, rfl⟩
      replace h := lt_r hx2_1 h
      refine aw_iinc (v := x2_1) (L' := [(2, .int x2_1), (3, .long x3)]) hG 0 rfl dX6_digitsOf_16 (by rw [hx2_1]; rfl) (by decide) rfl ?_
      refine aw_lload_n hG 1 rfl dX6_digitsOf_19 rfl ?_
      refine aw_ldc2 hG l_567 dX6_digitsOf_20 ?_
      refine aw_ldiv hG dX6_digitsOf_23 (by decide) ?_
      refine aw_topl (fun x3_2 hx3_2 => ?_)
      replace h := lt_r hx3_2 h
      refine aw_lstore_n (L' := [(3, .long x3_2), (2, .int x2_1)]) hG dX6_digitsOf_24 rfl (by decide) rfl ?_
      refine aw_goto (t := 4) hG dX6_digitsOf_25 rfl ?_
      obtain rfl := Option.some.inj h
      refine aw_sub (L' := [(2, .int x2_1), (3, .long x3_2)]) [1, 0] rfl ?_
      exact hK
noncomputable def f_X6_digitsOf (x0 : Int64) : Option Int32 :=
  Option.bind (Lp (fun a => f_X6_digitsOf_L4 a.1 a.2) (0, x0)) fun e_5 =>
  some e_5
set_option maxRecDepth 20000 in
theorem w_X6_digitsOf {g : Cx} {mc ms : Nat} {c : CS} {m : MS} {z : Nat → Int64} {x0 : Int64} {s : Int32}  (hG : Gd g RX6 cX6_digitsOf 5 1 mc ms) (h : f_X6_digitsOf x0 = some s) (hK : FinI g cX6_digitsOf mc ms s (c, m, z)) : AW g 0 [(0, .long x0)] [] (c, m, z) 0 0 := by
  unfold f_X6_digitsOf at h
  refine aw_iconst (v := 0) hG dX6_digitsOf_0 rfl ?_
  refine aw_istore_n (L' := [(2, .int 0), (0, .long x0)]) hG dX6_digitsOf_1 rfl (by decide) rfl ?_
  refine aw_lload_n hG 1 rfl dX6_digitsOf_2 rfl ?_
  refine aw_lstore_n (L' := [(3, .long x0), (2, .int 0), (0, .long x0)]) hG dX6_digitsOf_3 rfl (by decide) rfl ?_
  obtain ⟨e_5, he, h⟩ := bd_o h
  refine aw_sub (L' := [(2, .int 0), (3, .long x0)]) [1, 0] rfl ?_
  refine Lp_w (F := (fun a => f_X6_digitsOf_L4 a.1 a.2)) (S := (fun a => AW g 4 [(2, .int a.1), (3, .long a.2)] [] (c, m, z) 0 0)) (E := (fun e => AW g 28 [(2, .int e)] [] (c, m, z) 0 0)) (a := (0, x0)) he (fun a s h hK => w_X6_digitsOf_L4 (x2 := a.1) (x3 := a.2) hG h hK) ?_
  show AW g 28 _ _ _ 0 0
  refine aw_iload_n hG 0 rfl dX6_digitsOf_28 rfl ?_
  obtain rfl := Option.some.inj h
  exact FinI.z hK dX6_digitsOf_29
theorem c_X6_digitsOf {c : CS} {m : MS} {z : Nat → Int64} {x0 : Int64} {s : Int32}  (h : f_X6_digitsOf x0 = some s) : Ct yX6_digitsOf cX6_digitsOf 5 (some .int) 1 (fun w => [.long x0]) (c, m, z) (fun _ => some (.int s)) (c, m, z) := Ct_ofI (by decide +kernel) (fun _ => Nat.le_of_ble_eq_true rfl) (fun g hG hK => w_X6_digitsOf hG h hK)
def f_X6_roundTens_L73 (f1 : Nat) (x2 : Int64) (x4 : Int32) (x5 : Int32) (x6 : Int64) (x8 : Int32) (x9 : Int32) (c : CS) : Option ((Int64 × Int32 × CS) ⊕ (CS)) :=
  if x8 ≤ x9 then
    some (.inr c)
  else
    lt (f_X4_addDigit 0 ((-(lrm x6 10)).toInt32) (x4 + x9) c) fun v_4 =>
    lt (x6 / 10) fun x6_5 =>
    lt (x9 + 1) fun x9_6 =>
    some (.inl (x6_5, x9_6, v_4))
set_option maxRecDepth 20000 in
theorem w_X6_roundTens_L73 {g : Cx} {mc ms : Nat} {c : CS} {m : MS} {z : Nat → Int64} {f1 : Nat} {x2 : Int64} {x4 : Int32} {x5 : Int32} {x6 : Int64} {x8 : Int32} {x9 : Int32} {s : ((Int64 × Int32 × CS) ⊕ (CS))} (hf1 : f1 < 4) (hG : Gd g RX6 cX6_roundTens 10 6 mc ms) (h : f_X6_roundTens_L73 f1 x2 x4 x5 x6 x8 x9 c = some s) (hK : Sum.elim (fun a => AW g 73 [(0, .ref (wad (cxw g) 0)), (1, .ref (wad (cxw g) (30 + f1))), (2, .long x2), (4, .int x4), (5, .int x5), (6, .long a.1), (8, .int x8), (9, .int a.2.1)] [] (a.2.2, m, z) 0 0) (fun e => AW g 114 [(0, .ref (wad (cxw g) 0)), (1, .ref (wad (cxw g) (30 + f1))), (2, .long x2), (5, .int x5)] [] (e, m, z) 0 0) s) : AW g 73 [(0, .ref (wad (cxw g) 0)), (1, .ref (wad (cxw g) (30 + f1))), (2, .long x2), (4, .int x4), (5, .int x5), (6, .long x6), (8, .int x8), (9, .int x9)] [] (c, m, z) 0 0 := by
  unfold f_X6_roundTens_L73 at h
  refine aw_iload hG 7 rfl dX6_roundTens_73 ?_
  refine aw_iload hG 6 rfl dX6_roundTens_75 ?_
  refine aw_icmp_ge (t := 114) hG dX6_roundTens_77 rfl (fun hc => ?_) (fun hc => ?_)
  · replace h := it_p hc h
    obtain rfl := Option.some.inj h
    refine aw_sub (L' := [(0, .ref (wad (cxw g) 0)), (1, .ref (wad (cxw g) (30 + f1))), (2, .long x2), (5, .int x5)]) [0, 1, 2, 4] rfl ?_
    exact hK
  · replace h := it_n hc h
    refine aw_aload_n hG 0 rfl dX6_roundTens_80 rfl ?_
    refine gt_ft_number hG l_345 dX6_roundTens_81 ?_
    refine aw_lload hG 5 rfl dX6_roundTens_84 ?_
    refine aw_ldc2 hG l_567 dX6_roundTens_86 ?_
    refine aw_lremJ hG dX6_roundTens_89 (by decide) ?_
    refine aw_lneg hG dX6_roundTens_90 ?_
    refine aw_l2i hG dX6_roundTens_91 ?_
    refine aw_iload hG 3 rfl dX6_roundTens_92 ?_
    refine aw_iload hG 7 rfl dX6_roundTens_94 ?_
    refine aw_iadd hG dX6_roundTens_96 ?_
    obtain ⟨v_4, hv_4⟩ : ∃ y, y = f_X4_addDigit 0 ((-(lrm x6 10)).toInt32) (x4 + x9) c := ⟨_, rfl⟩
    replace h := lt_r hv_4 h
    refine aw_callVv (As := [.int ((-(lrm x6 10)).toInt32), .int (x4 + x9)]) (rest := []) hG (c_X4_addDigit (r0 := 0) (x1 := (-(lrm x6 10)).toInt32) (x2 := x4 + x9) (c := c) (by decide) hv_4.symm) l_572 wv_X4_addDigit (rv_X4 hG (by decide)) rfl rfl rfl (by decide) (Nat.zero_le _) (Nat.zero_le _) (Nat.le_of_ble_eq_true rfl) dX6_roundTens_97 ?_
    refine aw_lload hG 5 rfl dX6_roundTens_100 ?_
    refine aw_ldc2 hG l_567 dX6_roundTens_102 ?_
    refine aw_ldiv hG dX6_roundTens_105 (by decide) ?_
    refine aw_topl (fun x6_5 hx6_5 => ?_)
    replace h := lt_r hx6_5 h
    refine aw_lstore (L' := [(6, .long x6_5), (0, .ref (wad (cxw g) 0)), (1, .ref (wad (cxw g) (30 + f1))), (2, .long x2), (4, .int x4), (5, .int x5), (8, .int x8), (9, .int x9)]) hG dX6_roundTens_106 (by decide) rfl ?_
    obtain ⟨x9_6, hx9_6⟩ : ∃ y : Int32, y = x9 + 1 := ⟨_, rfl⟩
    replace h := lt_r hx9_6 h
    refine aw_iinc (v := x9_6) (L' := [(9, .int x9_6), (6, .long x6_5), (0, .ref (wad (cxw g) 0)), (1, .ref (wad (cxw g) (30 + f1))), (2, .long x2), (4, .int x4), (5, .int x5), (8, .int x8)]) hG 7 rfl dX6_roundTens_108 (by rw [hx9_6]; rfl) (by decide) rfl ?_
    refine aw_goto (t := 73) hG dX6_roundTens_111 rfl ?_
    obtain rfl := Option.some.inj h
    refine aw_sub (L' := [(0, .ref (wad (cxw g) 0)), (1, .ref (wad (cxw g) (30 + f1))), (2, .long x2), (4, .int x4), (5, .int x5), (6, .long x6_5), (8, .int x8), (9, .int x9_6)]) [2, 3, 4, 5, 6, 1, 7, 0] rfl ?_
    exact hK
noncomputable def f_X6_roundTens_J131 (x5 : Int32) (s0 : Int32) (q1 : Nat) (q2 : Nat) (c : CS) : Option CS :=
  Option.bind (f_X6_roundRow q2 q1 s0 x5 c) fun v_9 =>
  some v_9
set_option maxRecDepth 20000 in
theorem w_X6_roundTens_J131 {g : Cx} {mc ms : Nat} {c : CS} {m : MS} {z : Nat → Int64} {x5 : Int32} {s0 : Int32} {q1 : Nat} {q2 : Nat} {s : CS} (hq1 : q1 < 4) (hq2 : q2 < 4) (hG : Gd g RX6 cX6_roundTens 10 6 mc ms) (h : f_X6_roundTens_J131 x5 s0 q1 q2 c = some s) (hK : FinV g cX6_roundTens mc ms (s, m, z)) : AW g 131 [(5, .int x5)] [.int s0, .ref (wad (cxw g) (30 + q1)), .ref (wad (cxw g) (9 + 2 * q2)), .ref (wad (cxw g) 0)] (c, m, z) 0 0 := by
  unfold f_X6_roundTens_J131 at h
  refine aw_iload hG 0 rfl dX6_roundTens_131 ?_
  obtain ⟨v_9, hv_9, h⟩ := bd_o h
  refine aw_callVv (As := [.ref (wad (cxw g) (9 + 2 * q2)), .ref (wad (cxw g) (30 + q1)), .int s0, .int x5]) (rest := []) hG (c_X6_roundRow (r1 := q2) (f2 := q1) (x3 := s0) (x4 := x5) (c := c) hq2 hq1 hv_9) l_353 wv_X6_roundRow (rv_X6 hG) rfl rfl rfl (by decide) (Nat.zero_le _) (Nat.zero_le _) (Nat.le_of_ble_eq_true rfl) dX6_roundTens_133 ?_
  obtain rfl := Option.some.inj h
  exact FinV.z hK dX6_roundTens_136
noncomputable def f_X6_roundTens_J49 (f1 : Nat) (x2 : Int64) (x4 : Int32) (x5 : Int32) (x6 : Int64) (x8 : Int32) (s0 : Int32) (q1 : Nat) (c : CS) : Option CS :=
  Option.bind (f_X6_roundedFar q1 s0 (x8 + x4) x5 c) fun v_2 =>
  if v_2.1 = 0 then
    Option.bind (f_X4_empty 0 v_2.2) fun v_3 =>
    Option.bind (Lp (fun a => f_X6_roundTens_L73 f1 x2 x4 x5 a.1 x8 a.2.1 a.2.2) (x6, 0, v_3)) fun e_8 =>
    if 0 ≤ x2 then
      f_X6_roundTens_J131 x5 0 f1 0 e_8
    else
      f_X6_roundTens_J131 x5 1 f1 0 e_8
  else
    some v_2.2
set_option maxRecDepth 20000 in
theorem w_X6_roundTens_J49 {g : Cx} {mc ms : Nat} {c : CS} {m : MS} {z : Nat → Int64} {f1 : Nat} {x2 : Int64} {x4 : Int32} {x5 : Int32} {x6 : Int64} {x8 : Int32} {s0 : Int32} {q1 : Nat} {s : CS} (hf1 : f1 < 4) (hq1 : q1 < 4) (hG : Gd g RX6 cX6_roundTens 10 6 mc ms) (h : f_X6_roundTens_J49 f1 x2 x4 x5 x6 x8 s0 q1 c = some s) (hK : FinV g cX6_roundTens mc ms (s, m, z)) : AW g 49 [(0, .ref (wad (cxw g) 0)), (1, .ref (wad (cxw g) (30 + f1))), (2, .long x2), (4, .int x4), (5, .int x5), (6, .long x6), (8, .int x8)] [.int s0, .ref (wad (cxw g) (30 + q1)), .ref (wad (cxw g) 0)] (c, m, z) 0 0 := by
  unfold f_X6_roundTens_J49 at h
  refine aw_iload hG 6 rfl dX6_roundTens_49 ?_
  refine aw_iload hG 3 rfl dX6_roundTens_51 ?_
  refine aw_iadd hG dX6_roundTens_53 ?_
  refine aw_iload hG 4 rfl dX6_roundTens_54 ?_
  obtain ⟨v_2, hv_2, h⟩ := bd_o h
  refine aw_callVi (As := [.ref (wad (cxw g) (30 + q1)), .int s0, .int (x8 + x4), .int x5]) (rest := []) hG (c_X6_roundedFar (f1 := q1) (x2 := s0) (x3 := x8 + x4) (x4 := x5) (c := c) hq1 hv_2) l_340 wv_X6_roundedFar (rv_X6 hG) rfl rfl rfl (by decide) (Nat.zero_le _) (Nat.zero_le _) (Nat.le_of_ble_eq_true rfl) dX6_roundTens_56 ?_
  refine aw_if_eq (t := 63) hG dX6_roundTens_59 rfl (fun hc => ?_) (fun hc => ?_)
  · replace h := it_p hc h
    refine aw_aload_n hG 0 rfl dX6_roundTens_63 rfl ?_
    refine gt_ft_number hG l_345 dX6_roundTens_64 ?_
    obtain ⟨v_3, hv_3, h⟩ := bd_o h
    refine aw_callVv (As := []) (rest := []) hG (c_X4_empty (r0 := 0) (c := v_2.2) (by decide) hv_3) l_530 wv_X4_empty (rv_X4 hG (by decide)) rfl rfl rfl (by decide) (Nat.zero_le _) (Nat.zero_le _) (Nat.le_of_ble_eq_true rfl) dX6_roundTens_67 ?_
    refine aw_iconst (v := 0) hG dX6_roundTens_70 rfl ?_
    refine aw_istore (L' := [(9, .int 0), (0, .ref (wad (cxw g) 0)), (1, .ref (wad (cxw g) (30 + f1))), (2, .long x2), (4, .int x4), (5, .int x5), (6, .long x6), (8, .int x8)]) hG dX6_roundTens_71 (by decide) rfl ?_
    obtain ⟨e_8, he, h⟩ := bd_o h
    refine aw_sub (L' := [(0, .ref (wad (cxw g) 0)), (1, .ref (wad (cxw g) (30 + f1))), (2, .long x2), (4, .int x4), (5, .int x5), (6, .long x6), (8, .int x8), (9, .int 0)]) [1, 2, 3, 4, 5, 6, 7, 0] rfl ?_
    refine Lp_w (F := (fun a => f_X6_roundTens_L73 f1 x2 x4 x5 a.1 x8 a.2.1 a.2.2)) (S := (fun a => AW g 73 [(0, .ref (wad (cxw g) 0)), (1, .ref (wad (cxw g) (30 + f1))), (2, .long x2), (4, .int x4), (5, .int x5), (6, .long a.1), (8, .int x8), (9, .int a.2.1)] [] (a.2.2, m, z) 0 0)) (E := (fun e => AW g 114 [(0, .ref (wad (cxw g) 0)), (1, .ref (wad (cxw g) (30 + f1))), (2, .long x2), (5, .int x5)] [] (e, m, z) 0 0)) (a := (x6, 0, v_3)) he (fun a s h hK => w_X6_roundTens_L73 (f1 := f1) (x2 := x2) (x4 := x4) (x5 := x5) (x6 := a.1) (x8 := x8) (x9 := a.2.1) (c := a.2.2) hf1 hG h hK) ?_
    show AW g 114 _ _ _ 0 0
    refine aw_aload_n hG 0 rfl dX6_roundTens_114 rfl ?_
    refine aw_aload_n hG 0 rfl dX6_roundTens_115 rfl ?_
    refine gt_ft_number hG l_345 dX6_roundTens_116 ?_
    refine aw_aload_n hG 1 rfl dX6_roundTens_119 rfl ?_
    refine aw_lload_n hG 2 rfl dX6_roundTens_120 rfl ?_
    refine aw_lconst (v := 0) hG dX6_roundTens_121 rfl ?_
    refine aw_lc_ge (t := 130) hG dX6_roundTens_122 rfl dX6_roundTens_123 rfl rfl (fun hc => ?_) (fun hc => ?_)
    · replace h := it_p hc h
      refine aw_iconst (v := 0) hG dX6_roundTens_130 rfl ?_
      refine aw_sub (L' := [(5, .int x5)]) [3] rfl ?_
      exact w_X6_roundTens_J131 (x5 := x5) (s0 := 0) (q1 := f1) (q2 := 0) (c := e_8) hf1 (by decide) hG h hK
    · replace h := it_n hc h
      refine aw_iconst (v := 1) hG dX6_roundTens_126 rfl ?_
      refine aw_goto (t := 131) hG dX6_roundTens_127 rfl ?_
      refine aw_sub (L' := [(5, .int x5)]) [3] rfl ?_
      exact w_X6_roundTens_J131 (x5 := x5) (s0 := 1) (q1 := f1) (q2 := 0) (c := e_8) hf1 (by decide) hG h hK
  · replace h := it_n hc h
    obtain rfl := Option.some.inj h
    exact FinV.z hK dX6_roundTens_62
noncomputable def f_X6_roundTens_J27 (f1 : Nat) (x2 : Int64) (x4 : Int32) (x5 : Int32) (s0 : Int64) (c : CS) : Option CS :=
  Option.bind (f_X6_digitsOf s0) fun v_1 =>
  if 0 ≤ x2 then
    f_X6_roundTens_J49 f1 x2 x4 x5 s0 v_1 0 f1 c
  else
    f_X6_roundTens_J49 f1 x2 x4 x5 s0 v_1 1 f1 c
set_option maxRecDepth 20000 in
theorem w_X6_roundTens_J27 {g : Cx} {mc ms : Nat} {c : CS} {m : MS} {z : Nat → Int64} {f1 : Nat} {x2 : Int64} {x4 : Int32} {x5 : Int32} {s0 : Int64} {s : CS} (hf1 : f1 < 4) (hG : Gd g RX6 cX6_roundTens 10 6 mc ms) (h : f_X6_roundTens_J27 f1 x2 x4 x5 s0 c = some s) (hK : FinV g cX6_roundTens mc ms (s, m, z)) : AW g 27 [(0, .ref (wad (cxw g) 0)), (1, .ref (wad (cxw g) (30 + f1))), (2, .long x2), (4, .int x4), (5, .int x5)] [.long s0] (c, m, z) 0 0 := by
  unfold f_X6_roundTens_J27 at h
  refine aw_lstore (L' := [(6, .long s0), (0, .ref (wad (cxw g) 0)), (1, .ref (wad (cxw g) (30 + f1))), (2, .long x2), (4, .int x4), (5, .int x5)]) hG dX6_roundTens_27 (by decide) rfl ?_
  refine aw_lload hG 0 rfl dX6_roundTens_29 ?_
  obtain ⟨v_1, hv_1, h⟩ := bd_o h
  refine aw_callSi (As := [.long s0]) (rest := []) hG (c_X6_digitsOf (x0 := s0) (c := c)  hv_1) l_568 ws_X6_digitsOf rfl rfl rfl (by decide) (Nat.zero_le _) (Nat.zero_le _) (Nat.le_of_ble_eq_true rfl) dX6_roundTens_31 ?_
  refine aw_istore (L' := [(8, .int v_1), (6, .long s0), (0, .ref (wad (cxw g) 0)), (1, .ref (wad (cxw g) (30 + f1))), (2, .long x2), (4, .int x4), (5, .int x5)]) hG dX6_roundTens_34 (by decide) rfl ?_
  refine aw_aload_n hG 2 rfl dX6_roundTens_36 rfl ?_
  refine aw_aload_n hG 3 rfl dX6_roundTens_37 rfl ?_
  refine aw_lload_n hG 4 rfl dX6_roundTens_38 rfl ?_
  refine aw_lconst (v := 0) hG dX6_roundTens_39 rfl ?_
  refine aw_lc_ge (t := 48) hG dX6_roundTens_40 rfl dX6_roundTens_41 rfl rfl (fun hc => ?_) (fun hc => ?_)
  · replace h := it_p hc h
    refine aw_iconst (v := 0) hG dX6_roundTens_48 rfl ?_
    refine aw_sub (L' := [(0, .ref (wad (cxw g) 0)), (1, .ref (wad (cxw g) (30 + f1))), (2, .long x2), (4, .int x4), (5, .int x5), (6, .long s0), (8, .int v_1)]) [2, 3, 4, 5, 6, 1, 0] rfl ?_
    exact w_X6_roundTens_J49 (f1 := f1) (x2 := x2) (x4 := x4) (x5 := x5) (x6 := s0) (x8 := v_1) (s0 := 0) (q1 := f1) (c := c) hf1 hf1 hG h hK
  · replace h := it_n hc h
    refine aw_iconst (v := 1) hG dX6_roundTens_44 rfl ?_
    refine aw_goto (t := 49) hG dX6_roundTens_45 rfl ?_
    refine aw_sub (L' := [(0, .ref (wad (cxw g) 0)), (1, .ref (wad (cxw g) (30 + f1))), (2, .long x2), (4, .int x4), (5, .int x5), (6, .long s0), (8, .int v_1)]) [2, 3, 4, 5, 6, 1, 0] rfl ?_
    exact w_X6_roundTens_J49 (f1 := f1) (x2 := x2) (x4 := x4) (x5 := x5) (x6 := s0) (x8 := v_1) (s0 := 1) (q1 := f1) (c := c) hf1 hf1 hG h hK
noncomputable def f_X6_roundTens (f1 : Nat) (x2 : Int64) (x4 : Int32) (x5 : Int32) (c : CS) : Option CS :=
  if x2 = 0 then
    lt (f_X3_become 0 c) fun v_14 =>
    some v_14
  else
    if 0 ≤ x2 then
      f_X6_roundTens_J27 f1 x2 x4 x5 (-x2) c
    else
      f_X6_roundTens_J27 f1 x2 x4 x5 x2 c
set_option maxRecDepth 20000 in
theorem w_X6_roundTens {g : Cx} {mc ms : Nat} {c : CS} {m : MS} {z : Nat → Int64} {f1 : Nat} {x2 : Int64} {x4 : Int32} {x5 : Int32} {s : CS} (hf1 : f1 < 4) (hG : Gd g RX6 cX6_roundTens 10 6 mc ms) (h : f_X6_roundTens f1 x2 x4 x5 c = some s) (hK : FinV g cX6_roundTens mc ms (s, m, z)) : AW g 0 [(0, .ref (wad (cxw g) 0)), (1, .ref (wad (cxw g) (30 + f1))), (2, .long x2), (4, .int x4), (5, .int x5)] [] (c, m, z) 0 0 := by
  unfold f_X6_roundTens at h
  refine aw_lload_n hG 2 rfl dX6_roundTens_0 rfl ?_
  refine aw_lconst (v := 0) hG dX6_roundTens_1 rfl ?_
  refine aw_lc_ne (t := 15) hG dX6_roundTens_2 rfl dX6_roundTens_3 rfl rfl (fun hc => ?_) (fun hc => ?_)
  · replace h := it_n hc h
    refine aw_lload_n hG 2 rfl dX6_roundTens_15 rfl ?_
    refine aw_lconst (v := 0) hG dX6_roundTens_16 rfl ?_
    refine aw_lc_ge (t := 25) hG dX6_roundTens_17 rfl dX6_roundTens_18 rfl rfl (fun hc => ?_) (fun hc => ?_)
    · replace h := it_p hc h
      refine aw_lload_n hG 2 rfl dX6_roundTens_25 rfl ?_
      refine aw_lneg hG dX6_roundTens_26 ?_
      exact w_X6_roundTens_J27 (f1 := f1) (x2 := x2) (x4 := x4) (x5 := x5) (s0 := -x2) (c := c) hf1 hG h hK
    · replace h := it_n hc h
      refine aw_lload_n hG 2 rfl dX6_roundTens_21 rfl ?_
      refine aw_goto (t := 27) hG dX6_roundTens_22 rfl ?_
      exact w_X6_roundTens_J27 (f1 := f1) (x2 := x2) (x4 := x4) (x5 := x5) (s0 := x2) (c := c) hf1 hG h hK
  · replace h := it_p hc h
    refine aw_aload_n hG 0 rfl dX6_roundTens_6 rfl ?_
    refine gt_ft_rounding hG l_303 dX6_roundTens_7 ?_
    refine aw_lconst (v := 0) hG dX6_roundTens_10 rfl ?_
    obtain ⟨v_14, hv_14⟩ : ∃ y, y = f_X3_become 0 c := ⟨_, rfl⟩
    replace h := lt_r hv_14 h
    refine aw_callVv (As := [.long 0]) (rest := []) hG (c_X3_become (x1 := 0) (c := c)  hv_14.symm) l_377 wv_X3_become (rv_X3 hG) rfl rfl rfl (by decide) (Nat.zero_le _) (Nat.zero_le _) (Nat.le_of_ble_eq_true rfl) dX6_roundTens_11 ?_
    obtain rfl := Option.some.inj h
    exact FinV.z hK dX6_roundTens_14
theorem c_X6_roundTens {c : CS} {m : MS} {z : Nat → Int64} {f1 : Nat} {x2 : Int64} {x4 : Int32} {x5 : Int32} {s : CS} (hf1 : f1 < 4) (h : f_X6_roundTens f1 x2 x4 x5 c = some s) : Ct yX6_roundTens cX6_roundTens 10 none 6 (fun w => [.ref (wad w 0), .ref (wad w (30 + f1)), .long x2, .int x4, .int x5]) (c, m, z) (fun _ => none) (s, m, z) := Ct_ofV (by decide +kernel) (fun _ => Nat.le_of_ble_eq_true rfl) (fun g hG hK => w_X6_roundTens hf1 hG h hK)
noncomputable def f_X6_nearest (x1 : Int32) (x2 : Int64) (x4 : Int32) (x5 : Int32) (c : CS) : Option (Unit ⊕ (Int64 × CS)) :=
  tbd (f_X6_shapeOf x1) fun v_1 =>
  tbd (f_X6_needWay x5) fun v_2 =>
  tbd (f_X6_needTens x4) fun v_3 =>
  Option.bind (f_X6_roundTens v_1 x2 x4 x5 c) fun v_4 =>
  lt (f_X6_keepResult v_4) fun v_5 =>
  some (.inr (v_5.1, v_5.2))
set_option maxRecDepth 20000 in
theorem w_X6_nearest {g : Cx} {mc ms : Nat} {c : CS} {m : MS} {z : Nat → Int64} {x1 : Int32} {x2 : Int64} {x4 : Int32} {x5 : Int32} {s : (Unit ⊕ (Int64 × CS))}  (hG : Gd g RX6 cX6_nearest 7 8 mc ms) (h : f_X6_nearest x1 x2 x4 x5 c = some s) (hK : Sum.elim (fun _ : Unit => Gd g RX6 cX6_nearest 7 8 1 6 ∧ FinT g wIA (c, m, z)) (fun s => FinJ g cX6_nearest mc ms s.1 (s.2, m, z)) s) : AW g 0 [(0, .ref (wad (cxw g) 0)), (1, .int x1), (2, .long x2), (4, .int x4), (5, .int x5)] [] (c, m, z) 0 0 := by
  unfold f_X6_nearest at h
  refine aw_iload_n hG 1 rfl dX6_nearest_0 rfl ?_
  rcases tb_o h with ⟨hv, rfl⟩ | ⟨v_1, hv_1, h⟩
  · exact aw_callST (As := [.int x1]) (rest := []) hK.1 (ct_X6_shapeOf (x0 := x1) (c := c)  hv) hK.2 l_388 ws_X6_shapeOf rfl rfl rfl (by decide) (Nat.le_of_ble_eq_true rfl) dX6_nearest_1
  refine aw_callSa (As := [.int x1]) (rest := []) hG (c_X6_shapeOf (x0 := x1) (c := c)  hv_1) l_388 ws_X6_shapeOf rfl rfl rfl (by decide) (Nat.zero_le _) (Nat.zero_le _) (Nat.le_of_ble_eq_true rfl) dX6_nearest_1 ?_
  have hhv_1 : v_1 < 4 := p_X6_shapeOf hv_1
  refine aw_astore (L' := [(6, .ref (wad (cxw g) (30 + v_1))), (0, .ref (wad (cxw g) 0)), (1, .int x1), (2, .long x2), (4, .int x4), (5, .int x5)]) hG dX6_nearest_4 (by decide) rfl ?_
  refine aw_iload hG 5 rfl dX6_nearest_6 ?_
  rcases tb_o h with ⟨hv, rfl⟩ | ⟨v_2, hv_2, h⟩
  · exact aw_callST (As := [.int x5]) (rest := []) hK.1 (ct_X6_needWay (x0 := x5) (c := c)  hv) hK.2 l_392 ws_X6_needWay rfl rfl rfl (by decide) (Nat.le_of_ble_eq_true rfl) dX6_nearest_8
  refine aw_callSv (As := [.int x5]) (rest := []) hG (c_X6_needWay (x0 := x5) (c := c)  hv_2) l_392 ws_X6_needWay rfl rfl rfl (by decide) (Nat.zero_le _) (Nat.zero_le _) (Nat.le_of_ble_eq_true rfl) dX6_nearest_8 ?_
  refine aw_iload hG 4 rfl dX6_nearest_11 ?_
  rcases tb_o h with ⟨hv, rfl⟩ | ⟨v_3, hv_3, h⟩
  · exact aw_callST (As := [.int x4]) (rest := []) hK.1 (ct_X6_needTens (x0 := x4) (c := c)  hv) hK.2 l_577 ws_X6_needTens rfl rfl rfl (by decide) (Nat.le_of_ble_eq_true rfl) dX6_nearest_13
  refine aw_callSv (As := [.int x4]) (rest := []) hG (c_X6_needTens (x0 := x4) (c := c)  hv_3) l_577 ws_X6_needTens rfl rfl rfl (by decide) (Nat.zero_le _) (Nat.zero_le _) (Nat.le_of_ble_eq_true rfl) dX6_nearest_13 ?_
  refine aw_aload_n hG 1 rfl dX6_nearest_16 rfl ?_
  refine aw_aload hG 0 rfl dX6_nearest_17 ?_
  refine aw_lload_n hG 3 rfl dX6_nearest_19 rfl ?_
  refine aw_iload hG 4 rfl dX6_nearest_20 ?_
  refine aw_iload hG 5 rfl dX6_nearest_22 ?_
  obtain ⟨v_4, hv_4, h⟩ := bd_o h
  refine aw_callVv (As := [.ref (wad (cxw g) (30 + v_1)), .long x2, .int x4, .int x5]) (rest := []) hG (c_X6_roundTens (f1 := v_1) (x2 := x2) (x4 := x4) (x5 := x5) (c := c) hhv_1 hv_4) l_581 wv_X6_roundTens (rv_X6 hG) rfl rfl rfl (by decide) (Nat.zero_le _) (Nat.zero_le _) (Nat.le_of_ble_eq_true rfl) dX6_nearest_24 ?_
  refine aw_aload_n hG 1 rfl dX6_nearest_27 rfl ?_
  obtain ⟨v_5, hv_5⟩ : ∃ y, y = f_X6_keepResult v_4 := ⟨_, rfl⟩
  replace h := lt_r hv_5 h
  refine aw_callVl (As := []) (rest := []) hG (c_X6_keepResult (c := v_4)  hv_5.symm) l_406 wv_X6_keepResult (rv_X6 hG) rfl rfl rfl (by decide) (Nat.zero_le _) (Nat.zero_le _) (Nat.le_of_ble_eq_true rfl) dX6_nearest_28 ?_
  obtain rfl := Option.some.inj h
  exact FinJ.z hK dX6_nearest_31
theorem c_X6_nearest {c : CS} {m : MS} {z : Nat → Int64} {x1 : Int32} {x2 : Int64} {x4 : Int32} {x5 : Int32} {s : Int64 × CS}  (h : f_X6_nearest x1 x2 x4 x5 c = some (.inr s)) : Ct yX6_nearest cX6_nearest 7 (some .long) 8 (fun w => [.ref (wad w 0), .int x1, .long x2, .int x4, .int x5]) (c, m, z) (fun _ => some (.long s.1)) (s.2, m, z) := Ct_ofJ (by decide +kernel) (fun _ => Nat.le_of_ble_eq_true rfl) (fun g hG hK => w_X6_nearest hG h hK)
theorem ct_X6_nearest {c : CS} {m : MS} {z : Nat → Int64} {x1 : Int32} {x2 : Int64} {x4 : Int32} {x5 : Int32}  (h : f_X6_nearest x1 x2 x4 x5 c = some (.inl ())) : CtT yX6_nearest cX6_nearest 7 (some .long) 8 (fun w => [.ref (wad w 0), .int x1, .long x2, .int x4, .int x5]) (c, m, z) wIA := CtT_of (by decide +kernel) (fun _ => Nat.le_of_ble_eq_true rfl) (fun g hG hK => w_X6_nearest hG h ⟨hG, hK⟩)
def f_X6_power_J66 (c : CS) : Option (Unit ⊕ (Int64 × CS)) :=
  lt (f_X6_keepResult c) fun v_4 =>
  some (.inr (v_4.1, v_4.2))
set_option maxRecDepth 20000 in
theorem w_X6_power_J66 {g : Cx} {mc ms : Nat} {c : CS} {m : MS} {z : Nat → Int64} {c0 : CS}  {s : (Unit ⊕ (Int64 × CS))}  (hG : Gd g RX6 cX6_power 7 8 mc ms) (h : f_X6_power_J66 c = some s) (hK : Sum.elim (fun _ : Unit => Gd g RX6 cX6_power 7 8 1 6 ∧ FinT g wIA (c0, m, z)) (fun s => FinJ g cX6_power mc ms s.1 (s.2, m, z)) s) : AW g 66 [(0, .ref (wad (cxw g) 0))] [] (c, m, z) 0 0 := by
  unfold f_X6_power_J66 at h
  refine aw_aload_n hG 0 rfl dX6_power_66 rfl ?_
  obtain ⟨v_4, hv_4⟩ : ∃ y, y = f_X6_keepResult c := ⟨_, rfl⟩
  replace h := lt_r hv_4 h
  refine aw_callVl (As := []) (rest := []) hG (c_X6_keepResult (c := c)  hv_4.symm) l_406 wv_X6_keepResult (rv_X6 hG) rfl rfl rfl (by decide) (Nat.zero_le _) (Nat.zero_le _) (Nat.le_of_ble_eq_true rfl) dX6_power_67 ?_
  obtain rfl := Option.some.inj h
  exact FinJ.z hK dX6_power_70
noncomputable def f_X6_power_J57 (x4 : Int32) (x5 : Int32) (s0 : Int64) (s1 : Int32) (q2 : Nat) (c : CS) : Option (Unit ⊕ (Int64 × CS)) :=
  Option.bind (f_X3_round q2 s1 s0 x4.toInt64 0 x5 c) fun v_3 =>
  f_X6_power_J66 v_3
set_option maxRecDepth 20000 in
theorem w_X6_power_J57 {g : Cx} {mc ms : Nat} {c : CS} {m : MS} {z : Nat → Int64} {c0 : CS} {x4 : Int32} {x5 : Int32} {s0 : Int64} {s1 : Int32} {q2 : Nat} {s : (Unit ⊕ (Int64 × CS))} (hq2 : q2 < 4) (hG : Gd g RX6 cX6_power 7 8 mc ms) (h : f_X6_power_J57 x4 x5 s0 s1 q2 c = some s) (hK : Sum.elim (fun _ : Unit => Gd g RX6 cX6_power 7 8 1 6 ∧ FinT g wIA (c0, m, z)) (fun s => FinJ g cX6_power mc ms s.1 (s.2, m, z)) s) : AW g 57 [(0, .ref (wad (cxw g) 0)), (4, .int x4), (5, .int x5)] [.long s0, .int s1, .ref (wad (cxw g) (30 + q2)), .ref (wad (cxw g) 8)] (c, m, z) 0 0 := by
  unfold f_X6_power_J57 at h
  refine aw_iload hG 1 rfl dX6_power_57 ?_
  refine aw_i2l hG dX6_power_59 ?_
  refine aw_iconst (v := 0) hG dX6_power_60 rfl ?_
  refine aw_iload hG 2 rfl dX6_power_61 ?_
  obtain ⟨v_3, hv_3, h⟩ := bd_o h
  refine aw_callVv (As := [.ref (wad (cxw g) (30 + q2)), .int s1, .long s0, .long x4.toInt64, .int 0, .int x5]) (rest := []) hG (c_X3_round (f1 := q2) (x2 := s1) (x3 := s0) (x5 := x4.toInt64) (x7 := 0) (x8 := x5) (c := c) hq2 hv_3) l_328 wv_X3_round (rv_X3 hG) rfl rfl rfl (by decide) (Nat.zero_le _) (Nat.zero_le _) (Nat.le_of_ble_eq_true rfl) dX6_power_63 ?_
  refine aw_sub (L' := [(0, .ref (wad (cxw g) 0))]) [0] rfl ?_
  exact w_X6_power_J66 (c := v_3) hG h hK
noncomputable def f_X6_power_J45 (x2 : Int64) (x4 : Int32) (x5 : Int32) (s0 : Int32) (q1 : Nat) (c : CS) : Option (Unit ⊕ (Int64 × CS)) :=
  if 0 ≤ x2 then
    f_X6_power_J57 x4 x5 x2 s0 q1 c
  else
    f_X6_power_J57 x4 x5 (-x2) s0 q1 c
set_option maxRecDepth 20000 in
theorem w_X6_power_J45 {g : Cx} {mc ms : Nat} {c : CS} {m : MS} {z : Nat → Int64} {c0 : CS} {x2 : Int64} {x4 : Int32} {x5 : Int32} {s0 : Int32} {q1 : Nat} {s : (Unit ⊕ (Int64 × CS))} (hq1 : q1 < 4) (hG : Gd g RX6 cX6_power 7 8 mc ms) (h : f_X6_power_J45 x2 x4 x5 s0 q1 c = some s) (hK : Sum.elim (fun _ : Unit => Gd g RX6 cX6_power 7 8 1 6 ∧ FinT g wIA (c0, m, z)) (fun s => FinJ g cX6_power mc ms s.1 (s.2, m, z)) s) : AW g 45 [(0, .ref (wad (cxw g) 0)), (2, .long x2), (4, .int x4), (5, .int x5)] [.int s0, .ref (wad (cxw g) (30 + q1)), .ref (wad (cxw g) 8)] (c, m, z) 0 0 := by
  unfold f_X6_power_J45 at h
  refine aw_lload_n hG 1 rfl dX6_power_45 rfl ?_
  refine aw_lconst (v := 0) hG dX6_power_46 rfl ?_
  refine aw_lc_ge (t := 56) hG dX6_power_47 rfl dX6_power_48 rfl rfl (fun hc => ?_) (fun hc => ?_)
  · replace h := it_p hc h
    refine aw_lload_n hG 1 rfl dX6_power_56 rfl ?_
    refine aw_sub (L' := [(0, .ref (wad (cxw g) 0)), (4, .int x4), (5, .int x5)]) [0, 2, 3] rfl ?_
    exact w_X6_power_J57 (x4 := x4) (x5 := x5) (s0 := x2) (s1 := s0) (q2 := q1) (c := c) hq1 hG h hK
  · replace h := it_n hc h
    refine aw_lload_n hG 1 rfl dX6_power_51 rfl ?_
    refine aw_lneg hG dX6_power_52 ?_
    refine aw_goto (t := 57) hG dX6_power_53 rfl ?_
    refine aw_sub (L' := [(0, .ref (wad (cxw g) 0)), (4, .int x4), (5, .int x5)]) [0, 2, 3] rfl ?_
    exact w_X6_power_J57 (x4 := x4) (x5 := x5) (s0 := -x2) (s1 := s0) (q2 := q1) (c := c) hq1 hG h hK
noncomputable def f_X6_power (x1 : Int32) (x2 : Int64) (x4 : Int32) (x5 : Int32) (c : CS) : Option (Unit ⊕ (Int64 × CS)) :=
  tbd (f_X6_shapeOf x1) fun v_1 =>
  tbd (f_X6_needWay x5) fun v_2 =>
  if x2 = 0 then
    lt (f_X3_become 0 c) fun v_7 =>
    f_X6_power_J66 v_7
  else
    if 0 ≤ x2 then
      f_X6_power_J45 x2 x4 x5 0 v_1 c
    else
      f_X6_power_J45 x2 x4 x5 1 v_1 c
set_option maxRecDepth 20000 in
theorem w_X6_power {g : Cx} {mc ms : Nat} {c : CS} {m : MS} {z : Nat → Int64} {x1 : Int32} {x2 : Int64} {x4 : Int32} {x5 : Int32} {s : (Unit ⊕ (Int64 × CS))}  (hG : Gd g RX6 cX6_power 7 8 mc ms) (h : f_X6_power x1 x2 x4 x5 c = some s) (hK : Sum.elim (fun _ : Unit => Gd g RX6 cX6_power 7 8 1 6 ∧ FinT g wIA (c, m, z)) (fun s => FinJ g cX6_power mc ms s.1 (s.2, m, z)) s) : AW g 0 [(0, .ref (wad (cxw g) 0)), (1, .int x1), (2, .long x2), (4, .int x4), (5, .int x5)] [] (c, m, z) 0 0 := by
  unfold f_X6_power at h
  refine aw_iload_n hG 1 rfl dX6_power_0 rfl ?_
  rcases tb_o h with ⟨hv, rfl⟩ | ⟨v_1, hv_1, h⟩
  · exact aw_callST (As := [.int x1]) (rest := []) hK.1 (ct_X6_shapeOf (x0 := x1) (c := c)  hv) hK.2 l_388 ws_X6_shapeOf rfl rfl rfl (by decide) (Nat.le_of_ble_eq_true rfl) dX6_power_1
  refine aw_callSa (As := [.int x1]) (rest := []) hG (c_X6_shapeOf (x0 := x1) (c := c)  hv_1) l_388 ws_X6_shapeOf rfl rfl rfl (by decide) (Nat.zero_le _) (Nat.zero_le _) (Nat.le_of_ble_eq_true rfl) dX6_power_1 ?_
  have hhv_1 : v_1 < 4 := p_X6_shapeOf hv_1
  refine aw_astore (L' := [(6, .ref (wad (cxw g) (30 + v_1))), (0, .ref (wad (cxw g) 0)), (1, .int x1), (2, .long x2), (4, .int x4), (5, .int x5)]) hG dX6_power_4 (by decide) rfl ?_
  refine aw_iload hG 5 rfl dX6_power_6 ?_
  rcases tb_o h with ⟨hv, rfl⟩ | ⟨v_2, hv_2, h⟩
  · exact aw_callST (As := [.int x5]) (rest := []) hK.1 (ct_X6_needWay (x0 := x5) (c := c)  hv) hK.2 l_392 ws_X6_needWay rfl rfl rfl (by decide) (Nat.le_of_ble_eq_true rfl) dX6_power_8
  refine aw_callSv (As := [.int x5]) (rest := []) hG (c_X6_needWay (x0 := x5) (c := c)  hv_2) l_392 ws_X6_needWay rfl rfl rfl (by decide) (Nat.zero_le _) (Nat.zero_le _) (Nat.le_of_ble_eq_true rfl) dX6_power_8 ?_
  refine aw_lload_n hG 3 rfl dX6_power_11 rfl ?_
  refine aw_lconst (v := 0) hG dX6_power_12 rfl ?_
  refine aw_lc_ne (t := 28) hG dX6_power_13 rfl dX6_power_14 rfl rfl (fun hc => ?_) (fun hc => ?_)
  · replace h := it_n hc h
    refine aw_aload_n hG 1 rfl dX6_power_28 rfl ?_
    refine gt_ft_rounding hG l_303 dX6_power_29 ?_
    refine aw_aload hG 0 rfl dX6_power_32 ?_
    refine aw_lload_n hG 3 rfl dX6_power_34 rfl ?_
    refine aw_lconst (v := 0) hG dX6_power_35 rfl ?_
    refine aw_lc_ge (t := 44) hG dX6_power_36 rfl dX6_power_37 rfl rfl (fun hc => ?_) (fun hc => ?_)
    · replace h := it_p hc h
      refine aw_iconst (v := 0) hG dX6_power_44 rfl ?_
      refine aw_sub (L' := [(0, .ref (wad (cxw g) 0)), (2, .long x2), (4, .int x4), (5, .int x5)]) [1, 3, 4, 5] rfl ?_
      exact w_X6_power_J45 (x2 := x2) (x4 := x4) (x5 := x5) (s0 := 0) (q1 := v_1) (c := c) hhv_1 hG h hK
    · replace h := it_n hc h
      refine aw_iconst (v := 1) hG dX6_power_40 rfl ?_
      refine aw_goto (t := 45) hG dX6_power_41 rfl ?_
      refine aw_sub (L' := [(0, .ref (wad (cxw g) 0)), (2, .long x2), (4, .int x4), (5, .int x5)]) [1, 3, 4, 5] rfl ?_
      exact w_X6_power_J45 (x2 := x2) (x4 := x4) (x5 := x5) (s0 := 1) (q1 := v_1) (c := c) hhv_1 hG h hK
  · replace h := it_p hc h
    refine aw_aload_n hG 1 rfl dX6_power_17 rfl ?_
    refine gt_ft_rounding hG l_303 dX6_power_18 ?_
    refine aw_lconst (v := 0) hG dX6_power_21 rfl ?_
    obtain ⟨v_7, hv_7⟩ : ∃ y, y = f_X3_become 0 c := ⟨_, rfl⟩
    replace h := lt_r hv_7 h
    refine aw_callVv (As := [.long 0]) (rest := []) hG (c_X3_become (x1 := 0) (c := c)  hv_7.symm) l_377 wv_X3_become (rv_X3 hG) rfl rfl rfl (by decide) (Nat.zero_le _) (Nat.zero_le _) (Nat.le_of_ble_eq_true rfl) dX6_power_22 ?_
    refine aw_goto (t := 66) hG dX6_power_25 rfl ?_
    refine aw_sub (L' := [(0, .ref (wad (cxw g) 0))]) [1] rfl ?_
    exact w_X6_power_J66 (c := v_7) hG h hK
theorem c_X6_power {c : CS} {m : MS} {z : Nat → Int64} {x1 : Int32} {x2 : Int64} {x4 : Int32} {x5 : Int32} {s : Int64 × CS}  (h : f_X6_power x1 x2 x4 x5 c = some (.inr s)) : Ct yX6_power cX6_power 7 (some .long) 8 (fun w => [.ref (wad w 0), .int x1, .long x2, .int x4, .int x5]) (c, m, z) (fun _ => some (.long s.1)) (s.2, m, z) := Ct_ofJ (by decide +kernel) (fun _ => Nat.le_of_ble_eq_true rfl) (fun g hG hK => w_X6_power hG h hK)
theorem ct_X6_power {c : CS} {m : MS} {z : Nat → Int64} {x1 : Int32} {x2 : Int64} {x4 : Int32} {x5 : Int32}  (h : f_X6_power x1 x2 x4 x5 c = some (.inl ())) : CtT yX6_power cX6_power 7 (some .long) 8 (fun w => [.ref (wad w 0), .int x1, .long x2, .int x4, .int x5]) (c, m, z) wIA := CtT_of (by decide +kernel) (fun _ => Nat.le_of_ble_eq_true rfl) (fun g hG hK => w_X6_power hG h ⟨hG, hK⟩)
def f_X6_convert_J149 (c : CS) : Option (Unit ⊕ (Int64 × CS)) :=
  lt (f_X6_keepResult c) fun v_6 =>
  some (.inr (v_6.1, v_6.2))
set_option maxRecDepth 20000 in
theorem w_X6_convert_J149 {g : Cx} {mc ms : Nat} {c : CS} {m : MS} {z : Nat → Int64} {c0 : CS}  {s : (Unit ⊕ (Int64 × CS))}  (hG : Gd g RX6 cX6_convert 9 9 mc ms) (h : f_X6_convert_J149 c = some s) (hK : Sum.elim (fun _ : Unit => Gd g RX6 cX6_convert 9 9 1 6 ∧ FinT g wIA (c0, m, z)) (fun s => FinJ g cX6_convert mc ms s.1 (s.2, m, z)) s) : AW g 149 [(0, .ref (wad (cxw g) 0))] [] (c, m, z) 0 0 := by
  unfold f_X6_convert_J149 at h
  refine aw_aload_n hG 0 rfl dX6_convert_149 rfl ?_
  obtain ⟨v_6, hv_6⟩ : ∃ y, y = f_X6_keepResult c := ⟨_, rfl⟩
  replace h := lt_r hv_6 h
  refine aw_callVl (As := []) (rest := []) hG (c_X6_keepResult (c := c)  hv_6.symm) l_406 wv_X6_keepResult (rv_X6 hG) rfl rfl rfl (by decide) (Nat.zero_le _) (Nat.zero_le _) (Nat.le_of_ble_eq_true rfl) dX6_convert_150 ?_
  obtain rfl := Option.some.inj h
  exact FinJ.z hK dX6_convert_153
noncomputable def f_X6_convert (x1 : Int32) (x2 : Int64) (x4 : Int32) (x5 : Int32) (c : CS) : Option (Unit ⊕ (Int64 × CS)) :=
  tbd (f_X6_shapeOwning x1 x2) fun v_1 =>
  tbd (f_X6_shapeOf x4) fun v_2 =>
  tbd (f_X6_needWay x5) fun v_3 =>
  lt (f_X2_isMinus v_1 x2) fun x8_4 =>
  if (f_X2_isNan v_1 x2) = 0 then
    if (f_X2_isFinite v_1 x2) = 0 then
      lt (f_X3_become (f_X2_signed v_2 x8_4 (f_X2_infinite v_2)) c) fun v_9 =>
      f_X6_convert_J149 v_9
    else
      if (f_X2_isZero v_1 x2) = 0 then
        Option.bind (f_X3_round v_2 x8_4 (f_X2_wholeOf v_1 x2) ((f_X2_unitOf v_1 x2).toInt64) 0 x5 c) fun v_5 =>
        f_X6_convert_J149 v_5
      else
        lt (f_X3_become (f_X2_signed v_2 x8_4 0) c) fun v_7 =>
        f_X6_convert_J149 v_7
  else
    lt (f_X3_become (f_X2_signed v_2 x8_4 (f_X2_nanWith v_2 (f_X2_payloadOf v_1 x2))) c) fun v_11 =>
    f_X6_convert_J149 v_11
set_option maxRecDepth 20000 in
theorem w_X6_convert {g : Cx} {mc ms : Nat} {c : CS} {m : MS} {z : Nat → Int64} {x1 : Int32} {x2 : Int64} {x4 : Int32} {x5 : Int32} {s : (Unit ⊕ (Int64 × CS))}  (hG : Gd g RX6 cX6_convert 9 9 mc ms) (h : f_X6_convert x1 x2 x4 x5 c = some s) (hK : Sum.elim (fun _ : Unit => Gd g RX6 cX6_convert 9 9 1 6 ∧ FinT g wIA (c, m, z)) (fun s => FinJ g cX6_convert mc ms s.1 (s.2, m, z)) s) : AW g 0 [(0, .ref (wad (cxw g) 0)), (1, .int x1), (2, .long x2), (4, .int x4), (5, .int x5)] [] (c, m, z) 0 0 := by
  unfold f_X6_convert at h
  refine aw_iload_n hG 1 rfl dX6_convert_0 rfl ?_
  refine aw_lload_n hG 2 rfl dX6_convert_1 rfl ?_
  rcases tb_o h with ⟨hv, rfl⟩ | ⟨v_1, hv_1, h⟩
  · exact aw_callST (As := [.int x1, .long x2]) (rest := []) hK.1 (ct_X6_shapeOwning (x0 := x1) (x1 := x2) (c := c)  hv) hK.2 l_518 ws_X6_shapeOwning rfl rfl rfl (by decide) (Nat.le_of_ble_eq_true rfl) dX6_convert_2
  refine aw_callSa (As := [.int x1, .long x2]) (rest := []) hG (c_X6_shapeOwning (x0 := x1) (x1 := x2) (c := c)  hv_1) l_518 ws_X6_shapeOwning rfl rfl rfl (by decide) (Nat.zero_le _) (Nat.zero_le _) (Nat.le_of_ble_eq_true rfl) dX6_convert_2 ?_
  have hhv_1 : v_1 < 4 := p_X6_shapeOwning hv_1
  refine aw_astore (L' := [(6, .ref (wad (cxw g) (30 + v_1))), (0, .ref (wad (cxw g) 0)), (1, .int x1), (2, .long x2), (4, .int x4), (5, .int x5)]) hG dX6_convert_5 (by decide) rfl ?_
  refine aw_iload hG 4 rfl dX6_convert_7 ?_
  rcases tb_o h with ⟨hv, rfl⟩ | ⟨v_2, hv_2, h⟩
  · exact aw_callST (As := [.int x4]) (rest := []) hK.1 (ct_X6_shapeOf (x0 := x4) (c := c)  hv) hK.2 l_388 ws_X6_shapeOf rfl rfl rfl (by decide) (Nat.le_of_ble_eq_true rfl) dX6_convert_9
  refine aw_callSa (As := [.int x4]) (rest := []) hG (c_X6_shapeOf (x0 := x4) (c := c)  hv_2) l_388 ws_X6_shapeOf rfl rfl rfl (by decide) (Nat.zero_le _) (Nat.zero_le _) (Nat.le_of_ble_eq_true rfl) dX6_convert_9 ?_
  have hhv_2 : v_2 < 4 := p_X6_shapeOf hv_2
  refine aw_astore (L' := [(7, .ref (wad (cxw g) (30 + v_2))), (6, .ref (wad (cxw g) (30 + v_1))), (0, .ref (wad (cxw g) 0)), (1, .int x1), (2, .long x2), (4, .int x4), (5, .int x5)]) hG dX6_convert_12 (by decide) rfl ?_
  refine aw_iload hG 6 rfl dX6_convert_14 ?_
  rcases tb_o h with ⟨hv, rfl⟩ | ⟨v_3, hv_3, h⟩
  · exact aw_callST (As := [.int x5]) (rest := []) hK.1 (ct_X6_needWay (x0 := x5) (c := c)  hv) hK.2 l_392 ws_X6_needWay rfl rfl rfl (by decide) (Nat.le_of_ble_eq_true rfl) dX6_convert_16
  refine aw_callSv (As := [.int x5]) (rest := []) hG (c_X6_needWay (x0 := x5) (c := c)  hv_3) l_392 ws_X6_needWay rfl rfl rfl (by decide) (Nat.zero_le _) (Nat.zero_le _) (Nat.le_of_ble_eq_true rfl) dX6_convert_16 ?_
  refine aw_aload hG 1 rfl dX6_convert_19 ?_
  refine aw_lload_n hG 4 rfl dX6_convert_21 rfl ?_
  refine aw_callNi (As := [.long x2]) (rest := []) hG (c_X2_isMinus (f0 := v_1) (x1 := x2) (c := c) hhv_1) l_486 wf_X2_isMinus (rv_X2 hG hhv_1) rfl rfl rfl (by decide) (Nat.zero_le _) (Nat.zero_le _) (Nat.le_of_ble_eq_true rfl) dX6_convert_22 ?_
  refine aw_topi (fun x8_4 hx8_4 => ?_)
  replace h := lt_r hx8_4 h
  refine aw_istore (L' := [(8, .int x8_4), (7, .ref (wad (cxw g) (30 + v_2))), (6, .ref (wad (cxw g) (30 + v_1))), (0, .ref (wad (cxw g) 0)), (1, .int x1), (2, .long x2), (4, .int x4), (5, .int x5)]) hG dX6_convert_25 (by decide) rfl ?_
  refine aw_aload hG 2 rfl dX6_convert_27 ?_
  refine aw_lload_n hG 5 rfl dX6_convert_29 rfl ?_
  refine aw_callNi (As := [.long x2]) (rest := []) hG (c_X2_isNan (f0 := v_1) (x1 := x2) (c := c) hhv_1) l_497 wf_X2_isNan (rv_X2 hG hhv_1) rfl rfl rfl (by decide) (Nat.zero_le _) (Nat.zero_le _) (Nat.le_of_ble_eq_true rfl) dX6_convert_30 ?_
  refine aw_if_eq (t := 64) hG dX6_convert_33 rfl (fun hc => ?_) (fun hc => ?_)
  · replace h := it_p hc h
    refine aw_aload hG 2 rfl dX6_convert_64 ?_
    refine aw_lload_n hG 5 rfl dX6_convert_66 rfl ?_
    refine aw_callNi (As := [.long x2]) (rest := []) hG (c_X2_isFinite (f0 := v_1) (x1 := x2) (c := c) hhv_1) l_526 wf_X2_isFinite (rv_X2 hG hhv_1) rfl rfl rfl (by decide) (Nat.zero_le _) (Nat.zero_le _) (Nat.le_of_ble_eq_true rfl) dX6_convert_67 ?_
    refine aw_if_ne (t := 95) hG dX6_convert_70 rfl (fun hc => ?_) (fun hc => ?_)
    · replace h := it_n hc h
      refine aw_aload hG 2 rfl dX6_convert_95 ?_
      refine aw_lload_n hG 5 rfl dX6_convert_97 rfl ?_
      refine aw_callNi (As := [.long x2]) (rest := []) hG (c_X2_isZero (f0 := v_1) (x1 := x2) (c := c) hhv_1) l_531 wf_X2_isZero (rv_X2 hG hhv_1) rfl rfl rfl (by decide) (Nat.zero_le _) (Nat.zero_le _) (Nat.le_of_ble_eq_true rfl) dX6_convert_98 ?_
      refine aw_if_eq (t := 122) hG dX6_convert_101 rfl (fun hc => ?_) (fun hc => ?_)
      · replace h := it_p hc h
        refine aw_aload_n hG 3 rfl dX6_convert_122 rfl ?_
        refine gt_ft_rounding hG l_303 dX6_convert_123 ?_
        refine aw_aload hG 1 rfl dX6_convert_126 ?_
        refine aw_iload hG 0 rfl dX6_convert_128 ?_
        refine aw_aload hG 2 rfl dX6_convert_130 ?_
        refine aw_lload_n hG 5 rfl dX6_convert_132 rfl ?_
        refine aw_callNl (As := [.long x2]) (rest := [.int x8_4, .ref (wad (cxw g) (30 + v_2)), .ref (wad (cxw g) 8)]) hG (c_X2_wholeOf (f0 := v_1) (x1 := x2) (c := c) hhv_1) l_446 wf_X2_wholeOf (rv_X2 hG hhv_1) rfl rfl rfl (by decide) (Nat.zero_le _) (Nat.zero_le _) (Nat.le_of_ble_eq_true rfl) dX6_convert_133 ?_
        refine aw_aload hG 2 rfl dX6_convert_136 ?_
        refine aw_lload_n hG 5 rfl dX6_convert_138 rfl ?_
        refine aw_callNi (As := [.long x2]) (rest := [.long (f_X2_wholeOf v_1 x2), .int x8_4, .ref (wad (cxw g) (30 + v_2)), .ref (wad (cxw g) 8)]) hG (c_X2_unitOf (f0 := v_1) (x1 := x2) (c := c) hhv_1) l_455 wf_X2_unitOf (rv_X2 hG hhv_1) rfl rfl rfl (by decide) (Nat.zero_le _) (Nat.zero_le _) (Nat.le_of_ble_eq_true rfl) dX6_convert_139 ?_
        refine aw_i2l hG dX6_convert_142 ?_
        refine aw_iconst (v := 0) hG dX6_convert_143 rfl ?_
        refine aw_iload hG 7 rfl dX6_convert_144 ?_
        obtain ⟨v_5, hv_5, h⟩ := bd_o h
        refine aw_callVv (As := [.ref (wad (cxw g) (30 + v_2)), .int x8_4, .long (f_X2_wholeOf v_1 x2), .long ((f_X2_unitOf v_1 x2).toInt64), .int 0, .int x5]) (rest := []) hG (c_X3_round (f1 := v_2) (x2 := x8_4) (x3 := f_X2_wholeOf v_1 x2) (x5 := (f_X2_unitOf v_1 x2).toInt64) (x7 := 0) (x8 := x5) (c := c) hhv_2 hv_5) l_328 wv_X3_round (rv_X3 hG) rfl rfl rfl (by decide) (Nat.zero_le _) (Nat.zero_le _) (Nat.le_of_ble_eq_true rfl) dX6_convert_146 ?_
        refine aw_sub (L' := [(0, .ref (wad (cxw g) 0))]) [3] rfl ?_
        exact w_X6_convert_J149 (c := v_5) hG h hK
      · replace h := it_n hc h
        refine aw_aload_n hG 3 rfl dX6_convert_104 rfl ?_
        refine gt_ft_rounding hG l_303 dX6_convert_105 ?_
        refine aw_aload hG 1 rfl dX6_convert_108 ?_
        refine aw_iload hG 0 rfl dX6_convert_110 ?_
        refine aw_lconst (v := 0) hG dX6_convert_112 rfl ?_
        refine aw_callNl (As := [.int x8_4, .long 0]) (rest := [.ref (wad (cxw g) 8)]) hG (c_X2_signed (f0 := v_2) (x1 := x8_4) (x2 := 0) (c := c) hhv_2) l_376 wf_X2_signed (rv_X2 hG hhv_2) rfl rfl rfl (by decide) (Nat.zero_le _) (Nat.zero_le _) (Nat.le_of_ble_eq_true rfl) dX6_convert_113 ?_
        obtain ⟨v_7, hv_7⟩ : ∃ y, y = f_X3_become (f_X2_signed v_2 x8_4 0) c := ⟨_, rfl⟩
        replace h := lt_r hv_7 h
        refine aw_callVv (As := [.long (f_X2_signed v_2 x8_4 0)]) (rest := []) hG (c_X3_become (x1 := f_X2_signed v_2 x8_4 0) (c := c)  hv_7.symm) l_377 wv_X3_become (rv_X3 hG) rfl rfl rfl (by decide) (Nat.zero_le _) (Nat.zero_le _) (Nat.le_of_ble_eq_true rfl) dX6_convert_116 ?_
        refine aw_goto (t := 149) hG dX6_convert_119 rfl ?_
        refine aw_sub (L' := [(0, .ref (wad (cxw g) 0))]) [3] rfl ?_
        exact w_X6_convert_J149 (c := v_7) hG h hK
    · replace h := it_p hc h
      refine aw_aload_n hG 3 rfl dX6_convert_73 rfl ?_
      refine gt_ft_rounding hG l_303 dX6_convert_74 ?_
      refine aw_aload hG 1 rfl dX6_convert_77 ?_
      refine aw_iload hG 0 rfl dX6_convert_79 ?_
      refine aw_aload hG 1 rfl dX6_convert_81 ?_
      refine aw_callNl (As := []) (rest := [.int x8_4, .ref (wad (cxw g) (30 + v_2)), .ref (wad (cxw g) 8)]) hG (c_X2_infinite (f0 := v_2) (c := c) hhv_2) l_386 wf_X2_infinite (rv_X2 hG hhv_2) rfl rfl rfl (by decide) (Nat.zero_le _) (Nat.zero_le _) (Nat.le_of_ble_eq_true rfl) dX6_convert_83 ?_
      refine aw_callNl (As := [.int x8_4, .long (f_X2_infinite v_2)]) (rest := [.ref (wad (cxw g) 8)]) hG (c_X2_signed (f0 := v_2) (x1 := x8_4) (x2 := f_X2_infinite v_2) (c := c) hhv_2) l_376 wf_X2_signed (rv_X2 hG hhv_2) rfl rfl rfl (by decide) (Nat.zero_le _) (Nat.zero_le _) (Nat.le_of_ble_eq_true rfl) dX6_convert_86 ?_
      obtain ⟨v_9, hv_9⟩ : ∃ y, y = f_X3_become (f_X2_signed v_2 x8_4 (f_X2_infinite v_2)) c := ⟨_, rfl⟩
      replace h := lt_r hv_9 h
      refine aw_callVv (As := [.long (f_X2_signed v_2 x8_4 (f_X2_infinite v_2))]) (rest := []) hG (c_X3_become (x1 := f_X2_signed v_2 x8_4 (f_X2_infinite v_2)) (c := c)  hv_9.symm) l_377 wv_X3_become (rv_X3 hG) rfl rfl rfl (by decide) (Nat.zero_le _) (Nat.zero_le _) (Nat.le_of_ble_eq_true rfl) dX6_convert_89 ?_
      refine aw_goto (t := 149) hG dX6_convert_92 rfl ?_
      refine aw_sub (L' := [(0, .ref (wad (cxw g) 0))]) [3] rfl ?_
      exact w_X6_convert_J149 (c := v_9) hG h hK
  · replace h := it_n hc h
    refine aw_aload_n hG 3 rfl dX6_convert_36 rfl ?_
    refine gt_ft_rounding hG l_303 dX6_convert_37 ?_
    refine aw_aload hG 1 rfl dX6_convert_40 ?_
    refine aw_iload hG 0 rfl dX6_convert_42 ?_
    refine aw_aload hG 1 rfl dX6_convert_44 ?_
    refine aw_aload hG 2 rfl dX6_convert_46 ?_
    refine aw_lload_n hG 5 rfl dX6_convert_48 rfl ?_
    refine aw_callNl (As := [.long x2]) (rest := [.ref (wad (cxw g) (30 + v_2)), .int x8_4, .ref (wad (cxw g) (30 + v_2)), .ref (wad (cxw g) 8)]) hG (c_X2_payloadOf (f0 := v_1) (x1 := x2) (c := c) hhv_1) l_586 wf_X2_payloadOf (rv_X2 hG hhv_1) rfl rfl rfl (by decide) (Nat.zero_le _) (Nat.zero_le _) (Nat.le_of_ble_eq_true rfl) dX6_convert_49 ?_
    refine aw_callNl (As := [.long (f_X2_payloadOf v_1 x2)]) (rest := [.int x8_4, .ref (wad (cxw g) (30 + v_2)), .ref (wad (cxw g) 8)]) hG (c_X2_nanWith (f0 := v_2) (x1 := f_X2_payloadOf v_1 x2) (c := c) hhv_2) l_382 wf_X2_nanWith (rv_X2 hG hhv_2) rfl rfl rfl (by decide) (Nat.zero_le _) (Nat.zero_le _) (Nat.le_of_ble_eq_true rfl) dX6_convert_52 ?_
    refine aw_callNl (As := [.int x8_4, .long (f_X2_nanWith v_2 (f_X2_payloadOf v_1 x2))]) (rest := [.ref (wad (cxw g) 8)]) hG (c_X2_signed (f0 := v_2) (x1 := x8_4) (x2 := f_X2_nanWith v_2 (f_X2_payloadOf v_1 x2)) (c := c) hhv_2) l_376 wf_X2_signed (rv_X2 hG hhv_2) rfl rfl rfl (by decide) (Nat.zero_le _) (Nat.zero_le _) (Nat.le_of_ble_eq_true rfl) dX6_convert_55 ?_
    obtain ⟨v_11, hv_11⟩ : ∃ y, y = f_X3_become (f_X2_signed v_2 x8_4 (f_X2_nanWith v_2 (f_X2_payloadOf v_1 x2))) c := ⟨_, rfl⟩
    replace h := lt_r hv_11 h
    refine aw_callVv (As := [.long (f_X2_signed v_2 x8_4 (f_X2_nanWith v_2 (f_X2_payloadOf v_1 x2)))]) (rest := []) hG (c_X3_become (x1 := f_X2_signed v_2 x8_4 (f_X2_nanWith v_2 (f_X2_payloadOf v_1 x2))) (c := c)  hv_11.symm) l_377 wv_X3_become (rv_X3 hG) rfl rfl rfl (by decide) (Nat.zero_le _) (Nat.zero_le _) (Nat.le_of_ble_eq_true rfl) dX6_convert_58 ?_
    refine aw_goto (t := 149) hG dX6_convert_61 rfl ?_
    refine aw_sub (L' := [(0, .ref (wad (cxw g) 0))]) [3] rfl ?_
    exact w_X6_convert_J149 (c := v_11) hG h hK
theorem c_X6_convert {c : CS} {m : MS} {z : Nat → Int64} {x1 : Int32} {x2 : Int64} {x4 : Int32} {x5 : Int32} {s : Int64 × CS}  (h : f_X6_convert x1 x2 x4 x5 c = some (.inr s)) : Ct yX6_convert cX6_convert 9 (some .long) 9 (fun w => [.ref (wad w 0), .int x1, .long x2, .int x4, .int x5]) (c, m, z) (fun _ => some (.long s.1)) (s.2, m, z) := Ct_ofJ (by decide +kernel) (fun _ => Nat.le_of_ble_eq_true rfl) (fun g hG hK => w_X6_convert hG h hK)
theorem ct_X6_convert {c : CS} {m : MS} {z : Nat → Int64} {x1 : Int32} {x2 : Int64} {x4 : Int32} {x5 : Int32}  (h : f_X6_convert x1 x2 x4 x5 c = some (.inl ())) : CtT yX6_convert cX6_convert 9 (some .long) 9 (fun w => [.ref (wad w 0), .int x1, .long x2, .int x4, .int x5]) (c, m, z) wIA := CtT_of (by decide +kernel) (fun _ => Nat.le_of_ble_eq_true rfl) (fun g hG hK => w_X6_convert hG h ⟨hG, hK⟩)
def f_X6_next_J45 (s0 : Int32) (q1 : Nat) : Option (Unit ⊕ Int64) :=
  some (.inr (f_X2_signed q1 s0 1))
set_option maxRecDepth 20000 in
theorem w_X6_next_J45 {g : Cx} {mc ms : Nat} {c : CS} {m : MS} {z : Nat → Int64} {c0 : CS} {s0 : Int32} {q1 : Nat} {s : (Unit ⊕ Int64)} (hq1 : q1 < 4) (hG : Gd g RX6 cX6_next 9 9 mc ms) (h : f_X6_next_J45 s0 q1 = some s) (hK : Sum.elim (fun _ : Unit => Gd g RX6 cX6_next 9 9 1 6 ∧ FinT g wIA (c0, m, z)) (fun s => FinJ g cX6_next mc ms s (c, m, z)) s) : AW g 45 [] [.int s0, .ref (wad (cxw g) (30 + q1))] (c, m, z) 0 0 := by
  unfold f_X6_next_J45 at h
  refine aw_lconst (v := 1) hG dX6_next_45 rfl ?_
  refine aw_callNl (As := [.int s0, .long 1]) (rest := []) hG (c_X2_signed (f0 := q1) (x1 := s0) (x2 := 1) (c := c) hq1) l_376 wf_X2_signed (rv_X2 hG hq1) rfl rfl rfl (by decide) (Nat.zero_le _) (Nat.zero_le _) (Nat.le_of_ble_eq_true rfl) dX6_next_46 ?_
  obtain rfl := Option.some.inj h
  exact FinJ.z hK dX6_next_49
def f_X6_next (x1 : Int32) (x2 : Int64) (x4 : Int32) : Option (Unit ⊕ Int64) :=
  tbd (f_X6_shapeOwning x1 x2) fun v_1 =>
  if (f_X2_isNan v_1 x2) = 0 then
    lt (f_X2_sizeOf v_1 x2) fun x6_2 =>
    if x6_2 = 0 then
      if x4 = 0 then
        f_X6_next_J45 1 v_1
      else
        f_X6_next_J45 0 v_1
    else
      lt (f_X2_isMinus v_1 x2) fun x8_3 =>
      if x4 = x8_3 then
        some (.inr (f_X2_signed v_1 x8_3 (x6_2 - 1)))
      else
        some (.inr (f_X2_signed v_1 x8_3 (f_JM_minL (x6_2 + 1) (f_X2_infinite v_1))))
  else
    some (.inr x2)
set_option maxRecDepth 20000 in
theorem w_X6_next {g : Cx} {mc ms : Nat} {c : CS} {m : MS} {z : Nat → Int64} {x1 : Int32} {x2 : Int64} {x4 : Int32} {s : (Unit ⊕ Int64)}  (hG : Gd g RX6 cX6_next 9 9 mc ms) (h : f_X6_next x1 x2 x4 = some s) (hK : Sum.elim (fun _ : Unit => Gd g RX6 cX6_next 9 9 1 6 ∧ FinT g wIA (c, m, z)) (fun s => FinJ g cX6_next mc ms s (c, m, z)) s) : AW g 0 [(0, .ref (wad (cxw g) 0)), (1, .int x1), (2, .long x2), (4, .int x4)] [] (c, m, z) 0 0 := by
  unfold f_X6_next at h
  refine aw_iload_n hG 1 rfl dX6_next_0 rfl ?_
  refine aw_lload_n hG 2 rfl dX6_next_1 rfl ?_
  rcases tb_o h with ⟨hv, rfl⟩ | ⟨v_1, hv_1, h⟩
  · exact aw_callST (As := [.int x1, .long x2]) (rest := []) hK.1 (ct_X6_shapeOwning (x0 := x1) (x1 := x2) (c := c)  hv) hK.2 l_518 ws_X6_shapeOwning rfl rfl rfl (by decide) (Nat.le_of_ble_eq_true rfl) dX6_next_2
  refine aw_callSa (As := [.int x1, .long x2]) (rest := []) hG (c_X6_shapeOwning (x0 := x1) (x1 := x2) (c := c)  hv_1) l_518 ws_X6_shapeOwning rfl rfl rfl (by decide) (Nat.zero_le _) (Nat.zero_le _) (Nat.le_of_ble_eq_true rfl) dX6_next_2 ?_
  have hhv_1 : v_1 < 4 := p_X6_shapeOwning hv_1
  refine aw_astore (L' := [(5, .ref (wad (cxw g) (30 + v_1))), (0, .ref (wad (cxw g) 0)), (1, .int x1), (2, .long x2), (4, .int x4)]) hG dX6_next_5 (by decide) rfl ?_
  refine aw_aload hG 0 rfl dX6_next_7 ?_
  refine aw_lload_n hG 3 rfl dX6_next_9 rfl ?_
  refine aw_callNi (As := [.long x2]) (rest := []) hG (c_X2_isNan (f0 := v_1) (x1 := x2) (c := c) hhv_1) l_497 wf_X2_isNan (rv_X2 hG hhv_1) rfl rfl rfl (by decide) (Nat.zero_le _) (Nat.zero_le _) (Nat.le_of_ble_eq_true rfl) dX6_next_10 ?_
  refine aw_if_eq (t := 18) hG dX6_next_13 rfl (fun hc => ?_) (fun hc => ?_)
  · replace h := it_p hc h
    refine aw_aload hG 0 rfl dX6_next_18 ?_
    refine aw_lload_n hG 3 rfl dX6_next_20 rfl ?_
    refine aw_callNl (As := [.long x2]) (rest := []) hG (c_X2_sizeOf (f0 := v_1) (x1 := x2) (c := c) hhv_1) l_590 wf_X2_sizeOf (rv_X2 hG hhv_1) rfl rfl rfl (by decide) (Nat.zero_le _) (Nat.zero_le _) (Nat.le_of_ble_eq_true rfl) dX6_next_21 ?_
    refine aw_topl (fun x6_2 hx6_2 => ?_)
    replace h := lt_r hx6_2 h
    refine aw_lstore (L' := [(6, .long x6_2), (5, .ref (wad (cxw g) (30 + v_1))), (0, .ref (wad (cxw g) 0)), (1, .int x1), (2, .long x2), (4, .int x4)]) hG dX6_next_24 (by decide) rfl ?_
    refine aw_lload hG 0 rfl dX6_next_26 ?_
    refine aw_lconst (v := 0) hG dX6_next_28 rfl ?_
    refine aw_lc_ne (t := 50) hG dX6_next_29 rfl dX6_next_30 rfl rfl (fun hc => ?_) (fun hc => ?_)
    · replace h := it_n hc h
      refine aw_aload hG 1 rfl dX6_next_50 ?_
      refine aw_lload_n hG 4 rfl dX6_next_52 rfl ?_
      refine aw_callNi (As := [.long x2]) (rest := []) hG (c_X2_isMinus (f0 := v_1) (x1 := x2) (c := c) hhv_1) l_486 wf_X2_isMinus (rv_X2 hG hhv_1) rfl rfl rfl (by decide) (Nat.zero_le _) (Nat.zero_le _) (Nat.le_of_ble_eq_true rfl) dX6_next_53 ?_
      refine aw_topi (fun x8_3 hx8_3 => ?_)
      replace h := lt_r hx8_3 h
      refine aw_istore (L' := [(8, .int x8_3), (6, .long x6_2), (5, .ref (wad (cxw g) (30 + v_1))), (0, .ref (wad (cxw g) 0)), (1, .int x1), (2, .long x2), (4, .int x4)]) hG dX6_next_56 (by decide) rfl ?_
      refine aw_iload hG 6 rfl dX6_next_58 ?_
      refine aw_iload hG 0 rfl dX6_next_60 ?_
      refine aw_icmp_ne (t := 77) hG dX6_next_62 rfl (fun hc => ?_) (fun hc => ?_)
      · replace h := it_n hc h
        refine aw_aload hG 2 rfl dX6_next_77 ?_
        refine aw_iload hG 0 rfl dX6_next_79 ?_
        refine aw_lload hG 1 rfl dX6_next_81 ?_
        refine aw_lconst (v := 1) hG dX6_next_83 rfl ?_
        refine aw_ladd hG dX6_next_84 ?_
        refine aw_aload hG 2 rfl dX6_next_85 ?_
        refine aw_callNl (As := []) (rest := [.long (x6_2 + 1), .int x8_3, .ref (wad (cxw g) (30 + v_1))]) hG (c_X2_infinite (f0 := v_1) (c := c) hhv_1) l_386 wf_X2_infinite (rv_X2 hG hhv_1) rfl rfl rfl (by decide) (Nat.zero_le _) (Nat.zero_le _) (Nat.le_of_ble_eq_true rfl) dX6_next_87 ?_
        refine aw_callSl (As := [.long (x6_2 + 1), .long (f_X2_infinite v_1)]) (rest := [.int x8_3, .ref (wad (cxw g) (30 + v_1))]) hG (c_JM_minL (x0 := x6_2 + 1) (x2 := f_X2_infinite v_1) (c := c) ) l_591 ws_JM_minL rfl rfl rfl (by decide) (Nat.zero_le _) (Nat.zero_le _) (Nat.le_of_ble_eq_true rfl) dX6_next_90 ?_
        refine aw_callNl (As := [.int x8_3, .long (f_JM_minL (x6_2 + 1) (f_X2_infinite v_1))]) (rest := []) hG (c_X2_signed (f0 := v_1) (x1 := x8_3) (x2 := f_JM_minL (x6_2 + 1) (f_X2_infinite v_1)) (c := c) hhv_1) l_376 wf_X2_signed (rv_X2 hG hhv_1) rfl rfl rfl (by decide) (Nat.zero_le _) (Nat.zero_le _) (Nat.le_of_ble_eq_true rfl) dX6_next_93 ?_
        obtain rfl := Option.some.inj h
        exact FinJ.z hK dX6_next_96
      · replace h := it_p hc h
        refine aw_aload hG 2 rfl dX6_next_65 ?_
        refine aw_iload hG 0 rfl dX6_next_67 ?_
        refine aw_lload hG 1 rfl dX6_next_69 ?_
        refine aw_lconst (v := 1) hG dX6_next_71 rfl ?_
        refine aw_lsub hG dX6_next_72 ?_
        refine aw_callNl (As := [.int x8_3, .long (x6_2 - 1)]) (rest := []) hG (c_X2_signed (f0 := v_1) (x1 := x8_3) (x2 := x6_2 - 1) (c := c) hhv_1) l_376 wf_X2_signed (rv_X2 hG hhv_1) rfl rfl rfl (by decide) (Nat.zero_le _) (Nat.zero_le _) (Nat.le_of_ble_eq_true rfl) dX6_next_73 ?_
        obtain rfl := Option.some.inj h
        exact FinJ.z hK dX6_next_76
    · replace h := it_p hc h
      refine aw_aload hG 1 rfl dX6_next_33 ?_
      refine aw_iload hG 5 rfl dX6_next_35 ?_
      refine aw_if_ne (t := 44) hG dX6_next_37 rfl (fun hc => ?_) (fun hc => ?_)
      · replace h := it_n hc h
        refine aw_iconst (v := 0) hG dX6_next_44 rfl ?_
        refine aw_sub (L' := []) [] rfl ?_
        exact w_X6_next_J45 (s0 := 0) (q1 := v_1) hhv_1 hG h hK
      · replace h := it_p hc h
        refine aw_iconst (v := 1) hG dX6_next_40 rfl ?_
        refine aw_goto (t := 45) hG dX6_next_41 rfl ?_
        refine aw_sub (L' := []) [] rfl ?_
        exact w_X6_next_J45 (s0 := 1) (q1 := v_1) hhv_1 hG h hK
  · replace h := it_n hc h
    refine aw_lload_n hG 3 rfl dX6_next_16 rfl ?_
    obtain rfl := Option.some.inj h
    exact FinJ.z hK dX6_next_17
theorem c_X6_next {c : CS} {m : MS} {z : Nat → Int64} {x1 : Int32} {x2 : Int64} {x4 : Int32} {s : Int64}  (h : f_X6_next x1 x2 x4 = some (.inr s)) : Ct yX6_next cX6_next 9 (some .long) 9 (fun w => [.ref (wad w 0), .int x1, .long x2, .int x4]) (c, m, z) (fun _ => some (.long s)) (c, m, z) := Ct_ofJ (by decide +kernel) (fun _ => Nat.le_of_ble_eq_true rfl) (fun g hG hK => w_X6_next hG h hK)
theorem ct_X6_next {c : CS} {m : MS} {z : Nat → Int64} {x1 : Int32} {x2 : Int64} {x4 : Int32}  (h : f_X6_next x1 x2 x4 = some (.inl ())) : CtT yX6_next cX6_next 9 (some .long) 9 (fun w => [.ref (wad w 0), .int x1, .long x2, .int x4]) (c, m, z) wIA := CtT_of (by decide +kernel) (fun _ => Nat.le_of_ble_eq_true rfl) (fun g hG hK => w_X6_next hG h ⟨hG, hK⟩)
def f_X6_steps_J92 (x7 : Int64) (x9 : Int64) (x11 : Int64) : Option (Unit ⊕ Int64) :=
  if x7 ≤ 0 then
    some (.inr x11)
  else
    if 0 ≤ x9 then
      some (.inr x11)
    else
      if x11 < 0 then
        some (.inr x11)
      else
        some (.inr (-9223372036854775808))
set_option maxRecDepth 20000 in
theorem w_X6_steps_J92 {g : Cx} {mc ms : Nat} {c : CS} {m : MS} {z : Nat → Int64} {c0 : CS} {x7 : Int64} {x9 : Int64} {x11 : Int64} {s : (Unit ⊕ Int64)}  (hG : Gd g RX6 cX6_steps 13 9 mc ms) (h : f_X6_steps_J92 x7 x9 x11 = some s) (hK : Sum.elim (fun _ : Unit => Gd g RX6 cX6_steps 13 9 1 6 ∧ FinT g wIA (c0, m, z)) (fun s => FinJ g cX6_steps mc ms s (c, m, z)) s) : AW g 92 [(7, .long x7), (9, .long x9), (11, .long x11)] [] (c, m, z) 0 0 := by
  unfold f_X6_steps_J92 at h
  refine aw_lload hG 0 rfl dX6_steps_92 ?_
  refine aw_lconst (v := 0) hG dX6_steps_94 rfl ?_
  refine aw_lc_le (t := 117) hG dX6_steps_95 rfl dX6_steps_96 rfl rfl (fun hc => ?_) (fun hc => ?_)
  · replace h := it_p hc h
    refine aw_lload hG 2 rfl dX6_steps_117 ?_
    obtain rfl := Option.some.inj h
    exact FinJ.z hK dX6_steps_119
  · replace h := it_n hc h
    refine aw_lload hG 1 rfl dX6_steps_99 ?_
    refine aw_lconst (v := 0) hG dX6_steps_101 rfl ?_
    refine aw_lc_ge (t := 117) hG dX6_steps_102 rfl dX6_steps_103 rfl rfl (fun hc => ?_) (fun hc => ?_)
    · replace h := it_p hc h
      refine aw_lload hG 2 rfl dX6_steps_117 ?_
      obtain rfl := Option.some.inj h
      exact FinJ.z hK dX6_steps_119
    · replace h := it_n hc h
      refine aw_lload hG 2 rfl dX6_steps_106 ?_
      refine aw_lconst (v := 0) hG dX6_steps_108 rfl ?_
      refine aw_lc_lt (t := 117) hG dX6_steps_109 rfl dX6_steps_110 rfl rfl (fun hc => ?_) (fun hc => ?_)
      · replace h := it_p hc h
        refine aw_lload hG 2 rfl dX6_steps_117 ?_
        obtain rfl := Option.some.inj h
        exact FinJ.z hK dX6_steps_119
      · replace h := it_n hc h
        refine aw_ldc2 hG l_599 dX6_steps_113 ?_
        obtain rfl := Option.some.inj h
        exact FinJ.z hK dX6_steps_116
def f_X6_steps (x1 : Int32) (x2 : Int64) (x4 : Int64) : Option (Unit ⊕ Int64) :=
  tbd (f_X6_shapeOwning x1 x2) fun v_1 =>
  tbd (f_X6_needPattern v_1 x4) fun v_2 =>
  if (f_X2_isNan v_1 x2) = 0 then
    if (f_X2_isNan v_1 x4) = 0 then
      lt (f_X2_placeOf v_1 x2) fun x7_3 =>
      lt (f_X2_placeOf v_1 x4) fun x9_4 =>
      lt (x9_4 - x7_3) fun x11_5 =>
      if 0 ≤ x7_3 then
        f_X6_steps_J92 x7_3 x9_4 x11_5
      else
        if x9_4 ≤ 0 then
          f_X6_steps_J92 x7_3 x9_4 x11_5
        else
          if 0 ≤ x11_5 then
            f_X6_steps_J92 x7_3 x9_4 x11_5
          else
            some (.inr 9223372036854775807)
    else
      some (.inl ())
  else
    some (.inl ())
set_option maxRecDepth 20000 in
theorem w_X6_steps {g : Cx} {mc ms : Nat} {c : CS} {m : MS} {z : Nat → Int64} {x1 : Int32} {x2 : Int64} {x4 : Int64} {s : (Unit ⊕ Int64)}  (hG : Gd g RX6 cX6_steps 13 9 mc ms) (h : f_X6_steps x1 x2 x4 = some s) (hK : Sum.elim (fun _ : Unit => Gd g RX6 cX6_steps 13 9 1 6 ∧ FinT g wIA (c, m, z)) (fun s => FinJ g cX6_steps mc ms s (c, m, z)) s) : AW g 0 [(0, .ref (wad (cxw g) 0)), (1, .int x1), (2, .long x2), (4, .long x4)] [] (c, m, z) 0 0 := by
  unfold f_X6_steps at h
  refine aw_iload_n hG 1 rfl dX6_steps_0 rfl ?_
  refine aw_lload_n hG 2 rfl dX6_steps_1 rfl ?_
  rcases tb_o h with ⟨hv, rfl⟩ | ⟨v_1, hv_1, h⟩
  · exact aw_callST (As := [.int x1, .long x2]) (rest := []) hK.1 (ct_X6_shapeOwning (x0 := x1) (x1 := x2) (c := c)  hv) hK.2 l_518 ws_X6_shapeOwning rfl rfl rfl (by decide) (Nat.le_of_ble_eq_true rfl) dX6_steps_2
  refine aw_callSa (As := [.int x1, .long x2]) (rest := []) hG (c_X6_shapeOwning (x0 := x1) (x1 := x2) (c := c)  hv_1) l_518 ws_X6_shapeOwning rfl rfl rfl (by decide) (Nat.zero_le _) (Nat.zero_le _) (Nat.le_of_ble_eq_true rfl) dX6_steps_2 ?_
  have hhv_1 : v_1 < 4 := p_X6_shapeOwning hv_1
  refine aw_astore (L' := [(6, .ref (wad (cxw g) (30 + v_1))), (0, .ref (wad (cxw g) 0)), (1, .int x1), (2, .long x2), (4, .long x4)]) hG dX6_steps_5 (by decide) rfl ?_
  refine aw_aload hG 0 rfl dX6_steps_7 ?_
  refine aw_lload hG 4 rfl dX6_steps_9 ?_
  rcases tb_o h with ⟨hv, rfl⟩ | ⟨v_2, hv_2, h⟩
  · exact aw_callST (As := [.ref (wad (cxw g) (30 + v_1)), .long x4]) (rest := []) hK.1 (ct_X6_needPattern (f0 := v_1) (x1 := x4) (c := c) hhv_1 hv) hK.2 l_481 ws_X6_needPattern rfl rfl rfl (by decide) (Nat.le_of_ble_eq_true rfl) dX6_steps_11
  refine aw_callSv (As := [.ref (wad (cxw g) (30 + v_1)), .long x4]) (rest := []) hG (c_X6_needPattern (f0 := v_1) (x1 := x4) (c := c) hhv_1 hv_2) l_481 ws_X6_needPattern rfl rfl rfl (by decide) (Nat.zero_le _) (Nat.zero_le _) (Nat.le_of_ble_eq_true rfl) dX6_steps_11 ?_
  refine aw_aload hG 0 rfl dX6_steps_14 ?_
  refine aw_lload_n hG 3 rfl dX6_steps_16 rfl ?_
  refine aw_callNi (As := [.long x2]) (rest := []) hG (c_X2_isNan (f0 := v_1) (x1 := x2) (c := c) hhv_1) l_497 wf_X2_isNan (rv_X2 hG hhv_1) rfl rfl rfl (by decide) (Nat.zero_le _) (Nat.zero_le _) (Nat.le_of_ble_eq_true rfl) dX6_steps_17 ?_
  refine aw_if_ne (t := 33) hG dX6_steps_20 rfl (fun hc => ?_) (fun hc => ?_)
  · replace h := it_n hc h
    obtain rfl := Option.some.inj h
    exact aw_throwIA (j := 19) hK.1 (by decide) hK.2 rfl dX6_steps_33 dX6_steps_36 dX6_steps_37 dX6_steps_39 dX6_steps_42
  · replace h := it_p hc h
    refine aw_aload hG 0 rfl dX6_steps_23 ?_
    refine aw_lload hG 4 rfl dX6_steps_25 ?_
    refine aw_callNi (As := [.long x4]) (rest := []) hG (c_X2_isNan (f0 := v_1) (x1 := x4) (c := c) hhv_1) l_497 wf_X2_isNan (rv_X2 hG hhv_1) rfl rfl rfl (by decide) (Nat.zero_le _) (Nat.zero_le _) (Nat.le_of_ble_eq_true rfl) dX6_steps_27 ?_
    refine aw_if_eq (t := 43) hG dX6_steps_30 rfl (fun hc => ?_) (fun hc => ?_)
    · replace h := it_p hc h
      refine aw_aload hG 0 rfl dX6_steps_43 ?_
      refine aw_lload_n hG 3 rfl dX6_steps_45 rfl ?_
      refine aw_callNl (As := [.long x2]) (rest := []) hG (c_X2_placeOf (f0 := v_1) (x1 := x2) (c := c) hhv_1) l_595 wf_X2_placeOf (rv_X2 hG hhv_1) rfl rfl rfl (by decide) (Nat.zero_le _) (Nat.zero_le _) (Nat.le_of_ble_eq_true rfl) dX6_steps_46 ?_
      refine aw_topl (fun x7_3 hx7_3 => ?_)
      replace h := lt_r hx7_3 h
      refine aw_lstore (L' := [(7, .long x7_3), (6, .ref (wad (cxw g) (30 + v_1))), (0, .ref (wad (cxw g) 0)), (1, .int x1), (2, .long x2), (4, .long x4)]) hG dX6_steps_49 (by decide) rfl ?_
      refine aw_aload hG 1 rfl dX6_steps_51 ?_
      refine aw_lload hG 5 rfl dX6_steps_53 ?_
      refine aw_callNl (As := [.long x4]) (rest := []) hG (c_X2_placeOf (f0 := v_1) (x1 := x4) (c := c) hhv_1) l_595 wf_X2_placeOf (rv_X2 hG hhv_1) rfl rfl rfl (by decide) (Nat.zero_le _) (Nat.zero_le _) (Nat.le_of_ble_eq_true rfl) dX6_steps_55 ?_
      refine aw_topl (fun x9_4 hx9_4 => ?_)
      replace h := lt_r hx9_4 h
      refine aw_lstore (L' := [(9, .long x9_4), (7, .long x7_3), (6, .ref (wad (cxw g) (30 + v_1))), (0, .ref (wad (cxw g) 0)), (1, .int x1), (2, .long x2), (4, .long x4)]) hG dX6_steps_58 (by decide) rfl ?_
      refine aw_lload hG 0 rfl dX6_steps_60 ?_
      refine aw_lload hG 1 rfl dX6_steps_62 ?_
      refine aw_lsub hG dX6_steps_64 ?_
      refine aw_topl (fun x11_5 hx11_5 => ?_)
      replace h := lt_r hx11_5 h
      refine aw_lstore (L' := [(11, .long x11_5), (9, .long x9_4), (7, .long x7_3), (6, .ref (wad (cxw g) (30 + v_1))), (0, .ref (wad (cxw g) 0)), (1, .int x1), (2, .long x2), (4, .long x4)]) hG dX6_steps_65 (by decide) rfl ?_
      refine aw_lload hG 2 rfl dX6_steps_67 ?_
      refine aw_lconst (v := 0) hG dX6_steps_69 rfl ?_
      refine aw_lc_ge (t := 92) hG dX6_steps_70 rfl dX6_steps_71 rfl rfl (fun hc => ?_) (fun hc => ?_)
      · replace h := it_p hc h
        refine aw_sub (L' := [(7, .long x7_3), (9, .long x9_4), (11, .long x11_5)]) [2, 1, 0] rfl ?_
        exact w_X6_steps_J92 (x7 := x7_3) (x9 := x9_4) (x11 := x11_5) hG h hK
      · replace h := it_n hc h
        refine aw_lload hG 1 rfl dX6_steps_74 ?_
        refine aw_lconst (v := 0) hG dX6_steps_76 rfl ?_
        refine aw_lc_le (t := 92) hG dX6_steps_77 rfl dX6_steps_78 rfl rfl (fun hc => ?_) (fun hc => ?_)
        · replace h := it_p hc h
          refine aw_sub (L' := [(7, .long x7_3), (9, .long x9_4), (11, .long x11_5)]) [2, 1, 0] rfl ?_
          exact w_X6_steps_J92 (x7 := x7_3) (x9 := x9_4) (x11 := x11_5) hG h hK
        · replace h := it_n hc h
          refine aw_lload hG 0 rfl dX6_steps_81 ?_
          refine aw_lconst (v := 0) hG dX6_steps_83 rfl ?_
          refine aw_lc_ge (t := 92) hG dX6_steps_84 rfl dX6_steps_85 rfl rfl (fun hc => ?_) (fun hc => ?_)
          · replace h := it_p hc h
            refine aw_sub (L' := [(7, .long x7_3), (9, .long x9_4), (11, .long x11_5)]) [2, 1, 0] rfl ?_
            exact w_X6_steps_J92 (x7 := x7_3) (x9 := x9_4) (x11 := x11_5) hG h hK
          · replace h := it_n hc h
            refine aw_ldc2 hG l_600 dX6_steps_88 ?_
            obtain rfl := Option.some.inj h
            exact FinJ.z hK dX6_steps_91
    · replace h := it_n hc h
      obtain rfl := Option.some.inj h
      exact aw_throwIA (j := 19) hK.1 (by decide) hK.2 rfl dX6_steps_33 dX6_steps_36 dX6_steps_37 dX6_steps_39 dX6_steps_42
theorem c_X6_steps {c : CS} {m : MS} {z : Nat → Int64} {x1 : Int32} {x2 : Int64} {x4 : Int64} {s : Int64}  (h : f_X6_steps x1 x2 x4 = some (.inr s)) : Ct yX6_steps cX6_steps 13 (some .long) 9 (fun w => [.ref (wad w 0), .int x1, .long x2, .long x4]) (c, m, z) (fun _ => some (.long s)) (c, m, z) := Ct_ofJ (by decide +kernel) (fun _ => Nat.le_of_ble_eq_true rfl) (fun g hG hK => w_X6_steps hG h hK)
theorem ct_X6_steps {c : CS} {m : MS} {z : Nat → Int64} {x1 : Int32} {x2 : Int64} {x4 : Int64}  (h : f_X6_steps x1 x2 x4 = some (.inl ())) : CtT yX6_steps cX6_steps 13 (some .long) 9 (fun w => [.ref (wad w 0), .int x1, .long x2, .long x4]) (c, m, z) wIA := CtT_of (by decide +kernel) (fun _ => Nat.le_of_ble_eq_true rfl) (fun g hG hK => w_X6_steps hG h ⟨hG, hK⟩)
def f_X6_signOf (x0 : Int64) (x2 : Int64) : Int32 :=
  if x0 = x2 then
    0
  else
    if x2 ≤ x0 then
      1
    else
      (-1)
set_option maxRecDepth 20000 in
theorem w_X6_signOf {g : Cx} {mc ms : Nat} {c : CS} {m : MS} {z : Nat → Int64} {x0 : Int64} {x2 : Int64} {s : Int32}  (hG : Gd g RX6 cX6_signOf 4 1 mc ms) (h : f_X6_signOf x0 x2 = s) (hK : FinI g cX6_signOf mc ms s (c, m, z)) : AW g 0 [(0, .long x0), (2, .long x2)] [] (c, m, z) 0 0 := by
  unfold f_X6_signOf at h
  refine aw_lload_n hG 0 rfl dX6_signOf_0 rfl ?_
  refine aw_lload_n hG 1 rfl dX6_signOf_1 rfl ?_
  refine aw_lc_ne (t := 8) hG dX6_signOf_2 rfl dX6_signOf_3 rfl rfl (fun hc => ?_) (fun hc => ?_)
  · replace h := it_n hc h
    refine aw_lload_n hG 0 rfl dX6_signOf_8 rfl ?_
    refine aw_lload_n hG 1 rfl dX6_signOf_9 rfl ?_
    refine aw_lc_ge (t := 18) hG dX6_signOf_10 rfl dX6_signOf_11 rfl rfl (fun hc => ?_) (fun hc => ?_)
    · replace h := it_p hc h
      refine aw_iconst (v := 1) hG dX6_signOf_18 rfl ?_
      subst h
      exact FinI.z hK dX6_signOf_19
    · replace h := it_n hc h
      refine aw_iconst (v := (-1)) hG dX6_signOf_14 rfl ?_
      refine aw_goto (t := 19) hG dX6_signOf_15 rfl ?_
      subst h
      exact FinI.z hK dX6_signOf_19
  · replace h := it_p hc h
    refine aw_iconst (v := 0) hG dX6_signOf_6 rfl ?_
    subst h
    exact FinI.z hK dX6_signOf_7
theorem c_X6_signOf {c : CS} {m : MS} {z : Nat → Int64} {x0 : Int64} {x2 : Int64}  : Ct yX6_signOf cX6_signOf 4 (some .int) 1 (fun w => [.long x0, .long x2]) (c, m, z) (fun _ => some (.int (f_X6_signOf x0 x2))) (c, m, z) := Ct_ofI (by decide +kernel) (fun _ => Nat.le_of_ble_eq_true rfl) (fun g hG hK => w_X6_signOf hG rfl hK)
def f_X6_compare (x1 : Int32) (x2 : Int64) (x4 : Int64) : Option (Unit ⊕ Int32) :=
  tbd (f_X6_shapeOwning x1 x2) fun v_1 =>
  tbd (f_X6_needPattern v_1 x4) fun v_2 =>
  if (f_X2_isNan v_1 x2) = 0 then
    if (f_X2_isNan v_1 x4) = 0 then
      some (.inr (f_X6_signOf (f_X2_placeOf v_1 x2) (f_X2_placeOf v_1 x4)))
    else
      some (.inr 2)
  else
    some (.inr 2)
set_option maxRecDepth 20000 in
theorem w_X6_compare {g : Cx} {mc ms : Nat} {c : CS} {m : MS} {z : Nat → Int64} {x1 : Int32} {x2 : Int64} {x4 : Int64} {s : (Unit ⊕ Int32)}  (hG : Gd g RX6 cX6_compare 7 9 mc ms) (h : f_X6_compare x1 x2 x4 = some s) (hK : Sum.elim (fun _ : Unit => Gd g RX6 cX6_compare 7 9 1 6 ∧ FinT g wIA (c, m, z)) (fun s => FinI g cX6_compare mc ms s (c, m, z)) s) : AW g 0 [(0, .ref (wad (cxw g) 0)), (1, .int x1), (2, .long x2), (4, .long x4)] [] (c, m, z) 0 0 := by
  unfold f_X6_compare at h
  refine aw_iload_n hG 1 rfl dX6_compare_0 rfl ?_
  refine aw_lload_n hG 2 rfl dX6_compare_1 rfl ?_
  rcases tb_o h with ⟨hv, rfl⟩ | ⟨v_1, hv_1, h⟩
  · exact aw_callST (As := [.int x1, .long x2]) (rest := []) hK.1 (ct_X6_shapeOwning (x0 := x1) (x1 := x2) (c := c)  hv) hK.2 l_518 ws_X6_shapeOwning rfl rfl rfl (by decide) (Nat.le_of_ble_eq_true rfl) dX6_compare_2
  refine aw_callSa (As := [.int x1, .long x2]) (rest := []) hG (c_X6_shapeOwning (x0 := x1) (x1 := x2) (c := c)  hv_1) l_518 ws_X6_shapeOwning rfl rfl rfl (by decide) (Nat.zero_le _) (Nat.zero_le _) (Nat.le_of_ble_eq_true rfl) dX6_compare_2 ?_
  have hhv_1 : v_1 < 4 := p_X6_shapeOwning hv_1
  refine aw_astore (L' := [(6, .ref (wad (cxw g) (30 + v_1))), (0, .ref (wad (cxw g) 0)), (1, .int x1), (2, .long x2), (4, .long x4)]) hG dX6_compare_5 (by decide) rfl ?_
  refine aw_aload hG 0 rfl dX6_compare_7 ?_
  refine aw_lload hG 4 rfl dX6_compare_9 ?_
  rcases tb_o h with ⟨hv, rfl⟩ | ⟨v_2, hv_2, h⟩
  · exact aw_callST (As := [.ref (wad (cxw g) (30 + v_1)), .long x4]) (rest := []) hK.1 (ct_X6_needPattern (f0 := v_1) (x1 := x4) (c := c) hhv_1 hv) hK.2 l_481 ws_X6_needPattern rfl rfl rfl (by decide) (Nat.le_of_ble_eq_true rfl) dX6_compare_11
  refine aw_callSv (As := [.ref (wad (cxw g) (30 + v_1)), .long x4]) (rest := []) hG (c_X6_needPattern (f0 := v_1) (x1 := x4) (c := c) hhv_1 hv_2) l_481 ws_X6_needPattern rfl rfl rfl (by decide) (Nat.zero_le _) (Nat.zero_le _) (Nat.le_of_ble_eq_true rfl) dX6_compare_11 ?_
  refine aw_aload hG 0 rfl dX6_compare_14 ?_
  refine aw_lload_n hG 3 rfl dX6_compare_16 rfl ?_
  refine aw_callNi (As := [.long x2]) (rest := []) hG (c_X2_isNan (f0 := v_1) (x1 := x2) (c := c) hhv_1) l_497 wf_X2_isNan (rv_X2 hG hhv_1) rfl rfl rfl (by decide) (Nat.zero_le _) (Nat.zero_le _) (Nat.le_of_ble_eq_true rfl) dX6_compare_17 ?_
  refine aw_if_ne (t := 33) hG dX6_compare_20 rfl (fun hc => ?_) (fun hc => ?_)
  · replace h := it_n hc h
    refine aw_iconst (v := 2) hG dX6_compare_33 rfl ?_
    obtain rfl := Option.some.inj h
    exact FinI.z hK dX6_compare_34
  · replace h := it_p hc h
    refine aw_aload hG 0 rfl dX6_compare_23 ?_
    refine aw_lload hG 4 rfl dX6_compare_25 ?_
    refine aw_callNi (As := [.long x4]) (rest := []) hG (c_X2_isNan (f0 := v_1) (x1 := x4) (c := c) hhv_1) l_497 wf_X2_isNan (rv_X2 hG hhv_1) rfl rfl rfl (by decide) (Nat.zero_le _) (Nat.zero_le _) (Nat.le_of_ble_eq_true rfl) dX6_compare_27 ?_
    refine aw_if_eq (t := 35) hG dX6_compare_30 rfl (fun hc => ?_) (fun hc => ?_)
    · replace h := it_p hc h
      refine aw_aload hG 0 rfl dX6_compare_35 ?_
      refine aw_lload_n hG 3 rfl dX6_compare_37 rfl ?_
      refine aw_callNl (As := [.long x2]) (rest := []) hG (c_X2_placeOf (f0 := v_1) (x1 := x2) (c := c) hhv_1) l_595 wf_X2_placeOf (rv_X2 hG hhv_1) rfl rfl rfl (by decide) (Nat.zero_le _) (Nat.zero_le _) (Nat.le_of_ble_eq_true rfl) dX6_compare_38 ?_
      refine aw_aload hG 0 rfl dX6_compare_41 ?_
      refine aw_lload hG 4 rfl dX6_compare_43 ?_
      refine aw_callNl (As := [.long x4]) (rest := [.long (f_X2_placeOf v_1 x2)]) hG (c_X2_placeOf (f0 := v_1) (x1 := x4) (c := c) hhv_1) l_595 wf_X2_placeOf (rv_X2 hG hhv_1) rfl rfl rfl (by decide) (Nat.zero_le _) (Nat.zero_le _) (Nat.le_of_ble_eq_true rfl) dX6_compare_45 ?_
      refine aw_callSi (As := [.long (f_X2_placeOf v_1 x2), .long (f_X2_placeOf v_1 x4)]) (rest := []) hG (c_X6_signOf (x0 := f_X2_placeOf v_1 x2) (x2 := f_X2_placeOf v_1 x4) (c := c) ) l_601 ws_X6_signOf rfl rfl rfl (by decide) (Nat.zero_le _) (Nat.zero_le _) (Nat.le_of_ble_eq_true rfl) dX6_compare_48 ?_
      obtain rfl := Option.some.inj h
      exact FinI.z hK dX6_compare_51
    · replace h := it_n hc h
      refine aw_iconst (v := 2) hG dX6_compare_33 rfl ?_
      obtain rfl := Option.some.inj h
      exact FinI.z hK dX6_compare_34
theorem c_X6_compare {c : CS} {m : MS} {z : Nat → Int64} {x1 : Int32} {x2 : Int64} {x4 : Int64} {s : Int32}  (h : f_X6_compare x1 x2 x4 = some (.inr s)) : Ct yX6_compare cX6_compare 7 (some .int) 9 (fun w => [.ref (wad w 0), .int x1, .long x2, .long x4]) (c, m, z) (fun _ => some (.int s)) (c, m, z) := Ct_ofI (by decide +kernel) (fun _ => Nat.le_of_ble_eq_true rfl) (fun g hG hK => w_X6_compare hG h hK)
theorem ct_X6_compare {c : CS} {m : MS} {z : Nat → Int64} {x1 : Int32} {x2 : Int64} {x4 : Int64}  (h : f_X6_compare x1 x2 x4 = some (.inl ())) : CtT yX6_compare cX6_compare 7 (some .int) 9 (fun w => [.ref (wad w 0), .int x1, .long x2, .long x4]) (c, m, z) wIA := CtT_of (by decide +kernel) (fun _ => Nat.le_of_ble_eq_true rfl) (fun g hG hK => w_X6_compare hG h ⟨hG, hK⟩)
def f_X6_order (x1 : Int32) (x2 : Int64) (x4 : Int64) : Option (Unit ⊕ Int32) :=
  tbd (f_X6_shapeOwning x1 x2) fun v_1 =>
  tbd (f_X6_needPattern v_1 x4) fun v_2 =>
  if (f_X2_isMinus v_1 x2) = (f_X2_isMinus v_1 x4) then
    lt (f_X6_signOf (f_X2_sizeOf v_1 x2) (f_X2_sizeOf v_1 x4)) fun x7_3 =>
    if (f_X2_isMinus v_1 x2) = 0 then
      some (.inr x7_3)
    else
      some (.inr (-x7_3))
  else
    if (f_X2_isMinus v_1 x2) = 0 then
      some (.inr 1)
    else
      some (.inr (-1))
set_option maxRecDepth 20000 in
theorem w_X6_order {g : Cx} {mc ms : Nat} {c : CS} {m : MS} {z : Nat → Int64} {x1 : Int32} {x2 : Int64} {x4 : Int64} {s : (Unit ⊕ Int32)}  (hG : Gd g RX6 cX6_order 8 9 mc ms) (h : f_X6_order x1 x2 x4 = some s) (hK : Sum.elim (fun _ : Unit => Gd g RX6 cX6_order 8 9 1 6 ∧ FinT g wIA (c, m, z)) (fun s => FinI g cX6_order mc ms s (c, m, z)) s) : AW g 0 [(0, .ref (wad (cxw g) 0)), (1, .int x1), (2, .long x2), (4, .long x4)] [] (c, m, z) 0 0 := by
  unfold f_X6_order at h
  refine aw_iload_n hG 1 rfl dX6_order_0 rfl ?_
  refine aw_lload_n hG 2 rfl dX6_order_1 rfl ?_
  rcases tb_o h with ⟨hv, rfl⟩ | ⟨v_1, hv_1, h⟩
  · exact aw_callST (As := [.int x1, .long x2]) (rest := []) hK.1 (ct_X6_shapeOwning (x0 := x1) (x1 := x2) (c := c)  hv) hK.2 l_518 ws_X6_shapeOwning rfl rfl rfl (by decide) (Nat.le_of_ble_eq_true rfl) dX6_order_2
  refine aw_callSa (As := [.int x1, .long x2]) (rest := []) hG (c_X6_shapeOwning (x0 := x1) (x1 := x2) (c := c)  hv_1) l_518 ws_X6_shapeOwning rfl rfl rfl (by decide) (Nat.zero_le _) (Nat.zero_le _) (Nat.le_of_ble_eq_true rfl) dX6_order_2 ?_
  have hhv_1 : v_1 < 4 := p_X6_shapeOwning hv_1
  refine aw_astore (L' := [(6, .ref (wad (cxw g) (30 + v_1))), (0, .ref (wad (cxw g) 0)), (1, .int x1), (2, .long x2), (4, .long x4)]) hG dX6_order_5 (by decide) rfl ?_
  refine aw_aload hG 0 rfl dX6_order_7 ?_
  refine aw_lload hG 4 rfl dX6_order_9 ?_
  rcases tb_o h with ⟨hv, rfl⟩ | ⟨v_2, hv_2, h⟩
  · exact aw_callST (As := [.ref (wad (cxw g) (30 + v_1)), .long x4]) (rest := []) hK.1 (ct_X6_needPattern (f0 := v_1) (x1 := x4) (c := c) hhv_1 hv) hK.2 l_481 ws_X6_needPattern rfl rfl rfl (by decide) (Nat.le_of_ble_eq_true rfl) dX6_order_11
  refine aw_callSv (As := [.ref (wad (cxw g) (30 + v_1)), .long x4]) (rest := []) hG (c_X6_needPattern (f0 := v_1) (x1 := x4) (c := c) hhv_1 hv_2) l_481 ws_X6_needPattern rfl rfl rfl (by decide) (Nat.zero_le _) (Nat.zero_le _) (Nat.le_of_ble_eq_true rfl) dX6_order_11 ?_
  refine aw_aload hG 0 rfl dX6_order_14 ?_
  refine aw_lload_n hG 3 rfl dX6_order_16 rfl ?_
  refine aw_callNi (As := [.long x2]) (rest := []) hG (c_X2_isMinus (f0 := v_1) (x1 := x2) (c := c) hhv_1) l_486 wf_X2_isMinus (rv_X2 hG hhv_1) rfl rfl rfl (by decide) (Nat.zero_le _) (Nat.zero_le _) (Nat.le_of_ble_eq_true rfl) dX6_order_17 ?_
  refine aw_aload hG 0 rfl dX6_order_20 ?_
  refine aw_lload hG 4 rfl dX6_order_22 ?_
  refine aw_callNi (As := [.long x4]) (rest := [.int (f_X2_isMinus v_1 x2)]) hG (c_X2_isMinus (f0 := v_1) (x1 := x4) (c := c) hhv_1) l_486 wf_X2_isMinus (rv_X2 hG hhv_1) rfl rfl rfl (by decide) (Nat.zero_le _) (Nat.zero_le _) (Nat.le_of_ble_eq_true rfl) dX6_order_24 ?_
  refine aw_icmp_eq (t := 45) hG dX6_order_27 rfl (fun hc => ?_) (fun hc => ?_)
  · replace h := it_p hc h
    refine aw_aload hG 0 rfl dX6_order_45 ?_
    refine aw_lload_n hG 3 rfl dX6_order_47 rfl ?_
    refine aw_callNl (As := [.long x2]) (rest := []) hG (c_X2_sizeOf (f0 := v_1) (x1 := x2) (c := c) hhv_1) l_590 wf_X2_sizeOf (rv_X2 hG hhv_1) rfl rfl rfl (by decide) (Nat.zero_le _) (Nat.zero_le _) (Nat.le_of_ble_eq_true rfl) dX6_order_48 ?_
    refine aw_aload hG 0 rfl dX6_order_51 ?_
    refine aw_lload hG 4 rfl dX6_order_53 ?_
    refine aw_callNl (As := [.long x4]) (rest := [.long (f_X2_sizeOf v_1 x2)]) hG (c_X2_sizeOf (f0 := v_1) (x1 := x4) (c := c) hhv_1) l_590 wf_X2_sizeOf (rv_X2 hG hhv_1) rfl rfl rfl (by decide) (Nat.zero_le _) (Nat.zero_le _) (Nat.le_of_ble_eq_true rfl) dX6_order_55 ?_
    refine aw_callSi (As := [.long (f_X2_sizeOf v_1 x2), .long (f_X2_sizeOf v_1 x4)]) (rest := []) hG (c_X6_signOf (x0 := f_X2_sizeOf v_1 x2) (x2 := f_X2_sizeOf v_1 x4) (c := c) ) l_601 ws_X6_signOf rfl rfl rfl (by decide) (Nat.zero_le _) (Nat.zero_le _) (Nat.le_of_ble_eq_true rfl) dX6_order_58 ?_
    refine aw_topi (fun x7_3 hx7_3 => ?_)
    replace h := lt_r hx7_3 h
    refine aw_istore (L' := [(7, .int x7_3), (6, .ref (wad (cxw g) (30 + v_1))), (0, .ref (wad (cxw g) 0)), (1, .int x1), (2, .long x2), (4, .long x4)]) hG dX6_order_61 (by decide) rfl ?_
    refine aw_aload hG 1 rfl dX6_order_63 ?_
    refine aw_lload_n hG 4 rfl dX6_order_65 rfl ?_
    refine aw_callNi (As := [.long x2]) (rest := []) hG (c_X2_isMinus (f0 := v_1) (x1 := x2) (c := c) hhv_1) l_486 wf_X2_isMinus (rv_X2 hG hhv_1) rfl rfl rfl (by decide) (Nat.zero_le _) (Nat.zero_le _) (Nat.le_of_ble_eq_true rfl) dX6_order_66 ?_
    refine aw_if_eq (t := 78) hG dX6_order_69 rfl (fun hc => ?_) (fun hc => ?_)
    · replace h := it_p hc h
      refine aw_iload hG 0 rfl dX6_order_78 ?_
      obtain rfl := Option.some.inj h
      exact FinI.z hK dX6_order_80
    · replace h := it_n hc h
      refine aw_iload hG 0 rfl dX6_order_72 ?_
      refine aw_ineg hG dX6_order_74 ?_
      refine aw_goto (t := 80) hG dX6_order_75 rfl ?_
      obtain rfl := Option.some.inj h
      exact FinI.z hK dX6_order_80
  · replace h := it_n hc h
    refine aw_aload hG 0 rfl dX6_order_30 ?_
    refine aw_lload_n hG 3 rfl dX6_order_32 rfl ?_
    refine aw_callNi (As := [.long x2]) (rest := []) hG (c_X2_isMinus (f0 := v_1) (x1 := x2) (c := c) hhv_1) l_486 wf_X2_isMinus (rv_X2 hG hhv_1) rfl rfl rfl (by decide) (Nat.zero_le _) (Nat.zero_le _) (Nat.le_of_ble_eq_true rfl) dX6_order_33 ?_
    refine aw_if_eq (t := 43) hG dX6_order_36 rfl (fun hc => ?_) (fun hc => ?_)
    · replace h := it_p hc h
      refine aw_iconst (v := 1) hG dX6_order_43 rfl ?_
      obtain rfl := Option.some.inj h
      exact FinI.z hK dX6_order_44
    · replace h := it_n hc h
      refine aw_iconst (v := (-1)) hG dX6_order_39 rfl ?_
      refine aw_goto (t := 44) hG dX6_order_40 rfl ?_
      obtain rfl := Option.some.inj h
      exact FinI.z hK dX6_order_44
theorem c_X6_order {c : CS} {m : MS} {z : Nat → Int64} {x1 : Int32} {x2 : Int64} {x4 : Int64} {s : Int32}  (h : f_X6_order x1 x2 x4 = some (.inr s)) : Ct yX6_order cX6_order 8 (some .int) 9 (fun w => [.ref (wad w 0), .int x1, .long x2, .long x4]) (c, m, z) (fun _ => some (.int s)) (c, m, z) := Ct_ofI (by decide +kernel) (fun _ => Nat.le_of_ble_eq_true rfl) (fun g hG hK => w_X6_order hG h hK)
theorem ct_X6_order {c : CS} {m : MS} {z : Nat → Int64} {x1 : Int32} {x2 : Int64} {x4 : Int64}  (h : f_X6_order x1 x2 x4 = some (.inl ())) : CtT yX6_order cX6_order 8 (some .int) 9 (fun w => [.ref (wad w 0), .int x1, .long x2, .long x4]) (c, m, z) wIA := CtT_of (by decide +kernel) (fun _ => Nat.le_of_ble_eq_true rfl) (fun g hG hK => w_X6_order hG h ⟨hG, hK⟩)
def f_X6_kind (x1 : Int32) (x2 : Int64) : Option (Unit ⊕ Int32) :=
  tbd (f_X6_shapeOwning x1 x2) fun v_1 =>
  if (f_X2_isZero v_1 x2) = 0 then
    if (f_X2_isFinite v_1 x2) = 0 then
      if (f_X2_isNan v_1 x2) = 0 then
        some (.inr 3)
      else
        some (.inr 4)
    else
      if (f_X2_exponentOf v_1 x2) = 0 then
        some (.inr 1)
      else
        some (.inr 2)
  else
    some (.inr 0)
set_option maxRecDepth 20000 in
theorem w_X6_kind {g : Cx} {mc ms : Nat} {c : CS} {m : MS} {z : Nat → Int64} {x1 : Int32} {x2 : Int64} {s : (Unit ⊕ Int32)}  (hG : Gd g RX6 cX6_kind 5 9 mc ms) (h : f_X6_kind x1 x2 = some s) (hK : Sum.elim (fun _ : Unit => Gd g RX6 cX6_kind 5 9 1 6 ∧ FinT g wIA (c, m, z)) (fun s => FinI g cX6_kind mc ms s (c, m, z)) s) : AW g 0 [(0, .ref (wad (cxw g) 0)), (1, .int x1), (2, .long x2)] [] (c, m, z) 0 0 := by
  unfold f_X6_kind at h
  refine aw_iload_n hG 1 rfl dX6_kind_0 rfl ?_
  refine aw_lload_n hG 2 rfl dX6_kind_1 rfl ?_
  rcases tb_o h with ⟨hv, rfl⟩ | ⟨v_1, hv_1, h⟩
  · exact aw_callST (As := [.int x1, .long x2]) (rest := []) hK.1 (ct_X6_shapeOwning (x0 := x1) (x1 := x2) (c := c)  hv) hK.2 l_518 ws_X6_shapeOwning rfl rfl rfl (by decide) (Nat.le_of_ble_eq_true rfl) dX6_kind_2
  refine aw_callSa (As := [.int x1, .long x2]) (rest := []) hG (c_X6_shapeOwning (x0 := x1) (x1 := x2) (c := c)  hv_1) l_518 ws_X6_shapeOwning rfl rfl rfl (by decide) (Nat.zero_le _) (Nat.zero_le _) (Nat.le_of_ble_eq_true rfl) dX6_kind_2 ?_
  have hhv_1 : v_1 < 4 := p_X6_shapeOwning hv_1
  refine aw_astore (L' := [(4, .ref (wad (cxw g) (30 + v_1))), (0, .ref (wad (cxw g) 0)), (1, .int x1), (2, .long x2)]) hG dX6_kind_5 (by decide) rfl ?_
  refine aw_aload hG 0 rfl dX6_kind_7 ?_
  refine aw_lload_n hG 3 rfl dX6_kind_9 rfl ?_
  refine aw_callNi (As := [.long x2]) (rest := []) hG (c_X2_isZero (f0 := v_1) (x1 := x2) (c := c) hhv_1) l_531 wf_X2_isZero (rv_X2 hG hhv_1) rfl rfl rfl (by decide) (Nat.zero_le _) (Nat.zero_le _) (Nat.le_of_ble_eq_true rfl) dX6_kind_10 ?_
  refine aw_if_eq (t := 18) hG dX6_kind_13 rfl (fun hc => ?_) (fun hc => ?_)
  · replace h := it_p hc h
    refine aw_aload hG 0 rfl dX6_kind_18 ?_
    refine aw_lload_n hG 3 rfl dX6_kind_20 rfl ?_
    refine aw_callNi (As := [.long x2]) (rest := []) hG (c_X2_isFinite (f0 := v_1) (x1 := x2) (c := c) hhv_1) l_526 wf_X2_isFinite (rv_X2 hG hhv_1) rfl rfl rfl (by decide) (Nat.zero_le _) (Nat.zero_le _) (Nat.le_of_ble_eq_true rfl) dX6_kind_21 ?_
    refine aw_if_eq (t := 42) hG dX6_kind_24 rfl (fun hc => ?_) (fun hc => ?_)
    · replace h := it_p hc h
      refine aw_aload hG 0 rfl dX6_kind_42 ?_
      refine aw_lload_n hG 3 rfl dX6_kind_44 rfl ?_
      refine aw_callNi (As := [.long x2]) (rest := []) hG (c_X2_isNan (f0 := v_1) (x1 := x2) (c := c) hhv_1) l_497 wf_X2_isNan (rv_X2 hG hhv_1) rfl rfl rfl (by decide) (Nat.zero_le _) (Nat.zero_le _) (Nat.le_of_ble_eq_true rfl) dX6_kind_45 ?_
      refine aw_if_eq (t := 55) hG dX6_kind_48 rfl (fun hc => ?_) (fun hc => ?_)
      · replace h := it_p hc h
        refine aw_iconst (v := 3) hG dX6_kind_55 rfl ?_
        obtain rfl := Option.some.inj h
        exact FinI.z hK dX6_kind_56
      · replace h := it_n hc h
        refine aw_iconst (v := 4) hG dX6_kind_51 rfl ?_
        refine aw_goto (t := 56) hG dX6_kind_52 rfl ?_
        obtain rfl := Option.some.inj h
        exact FinI.z hK dX6_kind_56
    · replace h := it_n hc h
      refine aw_aload hG 0 rfl dX6_kind_27 ?_
      refine aw_lload_n hG 3 rfl dX6_kind_29 rfl ?_
      refine aw_callNi (As := [.long x2]) (rest := []) hG (c_X2_exponentOf (f0 := v_1) (x1 := x2) (c := c) hhv_1) l_605 wf_X2_exponentOf (rv_X2 hG hhv_1) rfl rfl rfl (by decide) (Nat.zero_le _) (Nat.zero_le _) (Nat.le_of_ble_eq_true rfl) dX6_kind_30 ?_
      refine aw_if_ne (t := 40) hG dX6_kind_33 rfl (fun hc => ?_) (fun hc => ?_)
      · replace h := it_n hc h
        refine aw_iconst (v := 2) hG dX6_kind_40 rfl ?_
        obtain rfl := Option.some.inj h
        exact FinI.z hK dX6_kind_41
      · replace h := it_p hc h
        refine aw_iconst (v := 1) hG dX6_kind_36 rfl ?_
        refine aw_goto (t := 41) hG dX6_kind_37 rfl ?_
        obtain rfl := Option.some.inj h
        exact FinI.z hK dX6_kind_41
  · replace h := it_n hc h
    refine aw_iconst (v := 0) hG dX6_kind_16 rfl ?_
    obtain rfl := Option.some.inj h
    exact FinI.z hK dX6_kind_17
theorem c_X6_kind {c : CS} {m : MS} {z : Nat → Int64} {x1 : Int32} {x2 : Int64} {s : Int32}  (h : f_X6_kind x1 x2 = some (.inr s)) : Ct yX6_kind cX6_kind 5 (some .int) 9 (fun w => [.ref (wad w 0), .int x1, .long x2]) (c, m, z) (fun _ => some (.int s)) (c, m, z) := Ct_ofI (by decide +kernel) (fun _ => Nat.le_of_ble_eq_true rfl) (fun g hG hK => w_X6_kind hG h hK)
theorem ct_X6_kind {c : CS} {m : MS} {z : Nat → Int64} {x1 : Int32} {x2 : Int64}  (h : f_X6_kind x1 x2 = some (.inl ())) : CtT yX6_kind cX6_kind 5 (some .int) 9 (fun w => [.ref (wad w 0), .int x1, .long x2]) (c, m, z) wIA := CtT_of (by decide +kernel) (fun _ => Nat.le_of_ble_eq_true rfl) (fun g hG hK => w_X6_kind hG h ⟨hG, hK⟩)
noncomputable def f_X6_reads (x1 : Int32) (x2 : Int64) (x4 : Int64) (x6 : Int32) (c : CS) : Option (Unit ⊕ (Int32 × CS)) :=
  tbd (f_X6_shapeOwning x1 x2) fun v_1 =>
  tbd (f_X6_needTens x6) fun v_2 =>
  Option.bind (f_X6_roundTens v_1 x4 x6 0 c) fun v_3 =>
  if (rdP v_3) = x2 then
    some (.inr (1, v_3))
  else
    some (.inr (0, v_3))
set_option maxRecDepth 20000 in
theorem w_X6_reads {g : Cx} {mc ms : Nat} {c : CS} {m : MS} {z : Nat → Int64} {x1 : Int32} {x2 : Int64} {x4 : Int64} {x6 : Int32} {s : (Unit ⊕ (Int32 × CS))}  (hG : Gd g RX6 cX6_reads 8 9 mc ms) (h : f_X6_reads x1 x2 x4 x6 c = some s) (hK : Sum.elim (fun _ : Unit => Gd g RX6 cX6_reads 8 9 1 6 ∧ FinT g wIA (c, m, z)) (fun s => FinZ g cX6_reads mc ms s.1 (s.2, m, z)) s) : AW g 0 [(0, .ref (wad (cxw g) 0)), (1, .int x1), (2, .long x2), (4, .long x4), (6, .int x6)] [] (c, m, z) 0 0 := by
  unfold f_X6_reads at h
  refine aw_iload_n hG 1 rfl dX6_reads_0 rfl ?_
  refine aw_lload_n hG 2 rfl dX6_reads_1 rfl ?_
  rcases tb_o h with ⟨hv, rfl⟩ | ⟨v_1, hv_1, h⟩
  · exact aw_callST (As := [.int x1, .long x2]) (rest := []) hK.1 (ct_X6_shapeOwning (x0 := x1) (x1 := x2) (c := c)  hv) hK.2 l_518 ws_X6_shapeOwning rfl rfl rfl (by decide) (Nat.le_of_ble_eq_true rfl) dX6_reads_2
  refine aw_callSa (As := [.int x1, .long x2]) (rest := []) hG (c_X6_shapeOwning (x0 := x1) (x1 := x2) (c := c)  hv_1) l_518 ws_X6_shapeOwning rfl rfl rfl (by decide) (Nat.zero_le _) (Nat.zero_le _) (Nat.le_of_ble_eq_true rfl) dX6_reads_2 ?_
  have hhv_1 : v_1 < 4 := p_X6_shapeOwning hv_1
  refine aw_astore (L' := [(7, .ref (wad (cxw g) (30 + v_1))), (0, .ref (wad (cxw g) 0)), (1, .int x1), (2, .long x2), (4, .long x4), (6, .int x6)]) hG dX6_reads_5 (by decide) rfl ?_
  refine aw_iload hG 5 rfl dX6_reads_7 ?_
  rcases tb_o h with ⟨hv, rfl⟩ | ⟨v_2, hv_2, h⟩
  · exact aw_callST (As := [.int x6]) (rest := []) hK.1 (ct_X6_needTens (x0 := x6) (c := c)  hv) hK.2 l_577 ws_X6_needTens rfl rfl rfl (by decide) (Nat.le_of_ble_eq_true rfl) dX6_reads_9
  refine aw_callSv (As := [.int x6]) (rest := []) hG (c_X6_needTens (x0 := x6) (c := c)  hv_2) l_577 ws_X6_needTens rfl rfl rfl (by decide) (Nat.zero_le _) (Nat.zero_le _) (Nat.le_of_ble_eq_true rfl) dX6_reads_9 ?_
  refine aw_aload_n hG 1 rfl dX6_reads_12 rfl ?_
  refine aw_aload hG 0 rfl dX6_reads_13 ?_
  refine aw_lload hG 4 rfl dX6_reads_15 ?_
  refine aw_iload hG 5 rfl dX6_reads_17 ?_
  refine aw_iconst (v := 0) hG dX6_reads_19 rfl ?_
  obtain ⟨v_3, hv_3, h⟩ := bd_o h
  refine aw_callVv (As := [.ref (wad (cxw g) (30 + v_1)), .long x4, .int x6, .int 0]) (rest := []) hG (c_X6_roundTens (f1 := v_1) (x2 := x4) (x4 := x6) (x5 := 0) (c := c) hhv_1 hv_3) l_581 wv_X6_roundTens (rv_X6 hG) rfl rfl rfl (by decide) (Nat.zero_le _) (Nat.zero_le _) (Nat.le_of_ble_eq_true rfl) dX6_reads_20 ?_
  refine aw_aload_n hG 1 rfl dX6_reads_23 rfl ?_
  refine gt_ft_rounding hG l_303 dX6_reads_24 ?_
  refine gt_rdP hG l_304 dX6_reads_27 ?_
  refine aw_lload_n hG 3 rfl dX6_reads_30 rfl ?_
  refine aw_lc_ne (t := 39) hG dX6_reads_31 rfl dX6_reads_32 rfl rfl (fun hc => ?_) (fun hc => ?_)
  · replace h := it_n hc h
    refine aw_iconst (v := 0) hG dX6_reads_39 rfl ?_
    obtain rfl := Option.some.inj h
    exact FinZ.z hK (Or.inl rfl) dX6_reads_40
  · replace h := it_p hc h
    refine aw_iconst (v := 1) hG dX6_reads_35 rfl ?_
    refine aw_goto (t := 40) hG dX6_reads_36 rfl ?_
    obtain rfl := Option.some.inj h
    exact FinZ.z hK (Or.inr rfl) dX6_reads_40
theorem c_X6_reads {c : CS} {m : MS} {z : Nat → Int64} {x1 : Int32} {x2 : Int64} {x4 : Int64} {x6 : Int32} {s : Int32 × CS}  (h : f_X6_reads x1 x2 x4 x6 c = some (.inr s)) : Ct yX6_reads cX6_reads 8 (some .boolean) 9 (fun w => [.ref (wad w 0), .int x1, .long x2, .long x4, .int x6]) (c, m, z) (fun _ => some (.int s.1)) (s.2, m, z) := Ct_ofZ (by decide +kernel) (fun _ => Nat.le_of_ble_eq_true rfl) (fun g hG hK => w_X6_reads hG h hK)
theorem ct_X6_reads {c : CS} {m : MS} {z : Nat → Int64} {x1 : Int32} {x2 : Int64} {x4 : Int64} {x6 : Int32}  (h : f_X6_reads x1 x2 x4 x6 c = some (.inl ())) : CtT yX6_reads cX6_reads 8 (some .boolean) 9 (fun w => [.ref (wad w 0), .int x1, .long x2, .long x4, .int x6]) (c, m, z) wIA := CtT_of (by decide +kernel) (fun _ => Nat.le_of_ble_eq_true rfl) (fun g hG hK => w_X6_reads hG h ⟨hG, hK⟩)
noncomputable def f_X6_candidateReads (f1 : Nat) (x2 : Int64) (c : CS) : Option (Int32 × CS) :=
  Option.bind (f_X6_roundRow 3 f1 (f_X2_isMinus f1 x2) 0 c) fun v_1 =>
  if (rdP v_1) = x2 then
    some (1, v_1)
  else
    some (0, v_1)
set_option maxRecDepth 20000 in
theorem w_X6_candidateReads {g : Cx} {mc ms : Nat} {c : CS} {m : MS} {z : Nat → Int64} {f1 : Nat} {x2 : Int64} {s : (Int32 × CS)} (hf1 : f1 < 4) (hG : Gd g RX6 cX6_candidateReads 4 6 mc ms) (h : f_X6_candidateReads f1 x2 c = some s) (hK : FinZ g cX6_candidateReads mc ms s.1 (s.2, m, z)) : AW g 0 [(0, .ref (wad (cxw g) 0)), (1, .ref (wad (cxw g) (30 + f1))), (2, .long x2)] [] (c, m, z) 0 0 := by
  unfold f_X6_candidateReads at h
  refine aw_aload_n hG 0 rfl dX6_candidateReads_0 rfl ?_
  refine aw_aload_n hG 0 rfl dX6_candidateReads_1 rfl ?_
  refine gt_ft_candidate hG l_411 dX6_candidateReads_2 ?_
  refine aw_aload_n hG 1 rfl dX6_candidateReads_5 rfl ?_
  refine aw_aload_n hG 1 rfl dX6_candidateReads_6 rfl ?_
  refine aw_lload_n hG 2 rfl dX6_candidateReads_7 rfl ?_
  refine aw_callNi (As := [.long x2]) (rest := [.ref (wad (cxw g) (30 + f1)), .ref (wad (cxw g) (9 + 2 * 3)), .ref (wad (cxw g) 0)]) hG (c_X2_isMinus (f0 := f1) (x1 := x2) (c := c) hf1) l_486 wf_X2_isMinus (rv_X2 hG hf1) rfl rfl rfl (by decide) (Nat.zero_le _) (Nat.zero_le _) (Nat.le_of_ble_eq_true rfl) dX6_candidateReads_8 ?_
  refine aw_iconst (v := 0) hG dX6_candidateReads_11 rfl ?_
  obtain ⟨v_1, hv_1, h⟩ := bd_o h
  refine aw_callVv (As := [.ref (wad (cxw g) (9 + 2 * 3)), .ref (wad (cxw g) (30 + f1)), .int (f_X2_isMinus f1 x2), .int 0]) (rest := []) hG (c_X6_roundRow (r1 := 3) (f2 := f1) (x3 := f_X2_isMinus f1 x2) (x4 := 0) (c := c) (by decide) hf1 hv_1) l_353 wv_X6_roundRow (rv_X6 hG) rfl rfl rfl (by decide) (Nat.zero_le _) (Nat.zero_le _) (Nat.le_of_ble_eq_true rfl) dX6_candidateReads_12 ?_
  refine aw_aload_n hG 0 rfl dX6_candidateReads_15 rfl ?_
  refine gt_ft_rounding hG l_303 dX6_candidateReads_16 ?_
  refine gt_rdP hG l_304 dX6_candidateReads_19 ?_
  refine aw_lload_n hG 2 rfl dX6_candidateReads_22 rfl ?_
  refine aw_lc_ne (t := 31) hG dX6_candidateReads_23 rfl dX6_candidateReads_24 rfl rfl (fun hc => ?_) (fun hc => ?_)
  · replace h := it_n hc h
    refine aw_iconst (v := 0) hG dX6_candidateReads_31 rfl ?_
    obtain rfl := Option.some.inj h
    exact FinZ.z hK (Or.inl rfl) dX6_candidateReads_32
  · replace h := it_p hc h
    refine aw_iconst (v := 1) hG dX6_candidateReads_27 rfl ?_
    refine aw_goto (t := 32) hG dX6_candidateReads_28 rfl ?_
    obtain rfl := Option.some.inj h
    exact FinZ.z hK (Or.inr rfl) dX6_candidateReads_32
theorem c_X6_candidateReads {c : CS} {m : MS} {z : Nat → Int64} {f1 : Nat} {x2 : Int64} {s : Int32 × CS} (hf1 : f1 < 4) (h : f_X6_candidateReads f1 x2 c = some s) : Ct yX6_candidateReads cX6_candidateReads 4 (some .boolean) 6 (fun w => [.ref (wad w 0), .ref (wad w (30 + f1)), .long x2]) (c, m, z) (fun _ => some (.int s.1)) (s.2, m, z) := Ct_ofZ (by decide +kernel) (fun _ => Nat.le_of_ble_eq_true rfl) (fun g hG hK => w_X6_candidateReads hf1 hG h hK)
noncomputable def f_X6_holds (x1 : Int32) (x2 : Int64) (c : CS) : Option (Unit ⊕ (Int32 × CS)) :=
  tbd (f_X6_shapeOwning x1 x2) fun v_1 =>
  tbd (f_X6_needFinite v_1 x2) fun v_2 =>
  if (f_X2_isZero v_1 x2) = 0 then
    Option.bind (f_X6_findShortest v_1 x2 c) fun v_3 =>
    Option.bind (f_X6_candidateReads v_1 x2 v_3.2) fun v_4 =>
    if v_4.1 = 0 then
      some (.inr (0, v_4.2))
    else
      if v_3.1 = 1 then
        some (.inr (1, v_4.2))
      else
        Option.bind (f_X4_point 0 v_4.2) fun v_5 =>
        lt ((v_5 - v_3.1) + 1) fun x6_6 =>
        Option.bind (f_X4_takeDownTo 3 0 x6_6 v_4.2) fun v_7 =>
        Option.bind (f_X6_candidateReads v_1 x2 v_7) fun v_8 =>
        if v_8.1 = 0 then
          Option.bind (f_X4_takeDownTo 3 0 x6_6 v_8.2) fun v_9 =>
          Option.bind (f_X4_addUnit 3 x6_6 v_9) fun v_10 =>
          Option.bind (f_X6_candidateReads v_1 x2 v_10) fun v_11 =>
          if v_11.1 = 0 then
            some (.inr (1, v_11.2))
          else
            some (.inr (0, v_11.2))
        else
          some (.inr (0, v_8.2))
  else
    some (.inl ())
set_option maxRecDepth 20000 in
theorem w_X6_holds {g : Cx} {mc ms : Nat} {c : CS} {m : MS} {z : Nat → Int64} {x1 : Int32} {x2 : Int64} {s : (Unit ⊕ (Int32 × CS))}  (hG : Gd g RX6 cX6_holds 7 9 mc ms) (h : f_X6_holds x1 x2 c = some s) (hK : Sum.elim (fun _ : Unit => Gd g RX6 cX6_holds 7 9 1 6 ∧ FinT g wIA (c, m, z)) (fun s => FinZ g cX6_holds mc ms s.1 (s.2, m, z)) s) : AW g 0 [(0, .ref (wad (cxw g) 0)), (1, .int x1), (2, .long x2)] [] (c, m, z) 0 0 := by
  unfold f_X6_holds at h
  refine aw_iload_n hG 1 rfl dX6_holds_0 rfl ?_
  refine aw_lload_n hG 2 rfl dX6_holds_1 rfl ?_
  rcases tb_o h with ⟨hv, rfl⟩ | ⟨v_1, hv_1, h⟩
  · exact aw_callST (As := [.int x1, .long x2]) (rest := []) hK.1 (ct_X6_shapeOwning (x0 := x1) (x1 := x2) (c := c)  hv) hK.2 l_518 ws_X6_shapeOwning rfl rfl rfl (by decide) (Nat.le_of_ble_eq_true rfl) dX6_holds_2
  refine aw_callSa (As := [.int x1, .long x2]) (rest := []) hG (c_X6_shapeOwning (x0 := x1) (x1 := x2) (c := c)  hv_1) l_518 ws_X6_shapeOwning rfl rfl rfl (by decide) (Nat.zero_le _) (Nat.zero_le _) (Nat.le_of_ble_eq_true rfl) dX6_holds_2 ?_
  have hhv_1 : v_1 < 4 := p_X6_shapeOwning hv_1
  refine aw_astore (L' := [(4, .ref (wad (cxw g) (30 + v_1))), (0, .ref (wad (cxw g) 0)), (1, .int x1), (2, .long x2)]) hG dX6_holds_5 (by decide) rfl ?_
  refine aw_aload hG 0 rfl dX6_holds_7 ?_
  refine aw_lload_n hG 3 rfl dX6_holds_9 rfl ?_
  rcases tb_o h with ⟨hv, rfl⟩ | ⟨v_2, hv_2, h⟩
  · exact aw_callST (As := [.ref (wad (cxw g) (30 + v_1)), .long x2]) (rest := []) hK.1 (ct_X6_needFinite (f0 := v_1) (x1 := x2) (c := c) hhv_1 hv) hK.2 l_555 ws_X6_needFinite rfl rfl rfl (by decide) (Nat.le_of_ble_eq_true rfl) dX6_holds_10
  refine aw_callSv (As := [.ref (wad (cxw g) (30 + v_1)), .long x2]) (rest := []) hG (c_X6_needFinite (f0 := v_1) (x1 := x2) (c := c) hhv_1 hv_2) l_555 ws_X6_needFinite rfl rfl rfl (by decide) (Nat.zero_le _) (Nat.zero_le _) (Nat.le_of_ble_eq_true rfl) dX6_holds_10 ?_
  refine aw_aload hG 0 rfl dX6_holds_13 ?_
  refine aw_lload_n hG 3 rfl dX6_holds_15 rfl ?_
  refine aw_callNi (As := [.long x2]) (rest := []) hG (c_X2_isZero (f0 := v_1) (x1 := x2) (c := c) hhv_1) l_531 wf_X2_isZero (rv_X2 hG hhv_1) rfl rfl rfl (by decide) (Nat.zero_le _) (Nat.zero_le _) (Nat.le_of_ble_eq_true rfl) dX6_holds_16 ?_
  refine aw_if_eq (t := 33) hG dX6_holds_19 rfl (fun hc => ?_) (fun hc => ?_)
  · replace h := it_p hc h
    refine aw_aload_n hG 1 rfl dX6_holds_33 rfl ?_
    refine aw_aload hG 0 rfl dX6_holds_34 ?_
    refine aw_lload_n hG 3 rfl dX6_holds_36 rfl ?_
    obtain ⟨v_3, hv_3, h⟩ := bd_o h
    refine aw_callVi (As := [.ref (wad (cxw g) (30 + v_1)), .long x2]) (rest := []) hG (c_X6_findShortest (f1 := v_1) (x2 := x2) (c := c) hhv_1 hv_3) l_540 wv_X6_findShortest (rv_X6 hG) rfl rfl rfl (by decide) (Nat.zero_le _) (Nat.zero_le _) (Nat.le_of_ble_eq_true rfl) dX6_holds_37 ?_
    refine aw_istore (L' := [(5, .int v_3.1), (4, .ref (wad (cxw g) (30 + v_1))), (0, .ref (wad (cxw g) 0)), (1, .int x1), (2, .long x2)]) hG dX6_holds_40 (by decide) rfl ?_
    refine aw_aload_n hG 2 rfl dX6_holds_42 rfl ?_
    refine aw_aload hG 1 rfl dX6_holds_43 ?_
    refine aw_lload_n hG 4 rfl dX6_holds_45 rfl ?_
    obtain ⟨v_4, hv_4, h⟩ := bd_o h
    refine aw_callVi (As := [.ref (wad (cxw g) (30 + v_1)), .long x2]) (rest := []) hG (c_X6_candidateReads (f1 := v_1) (x2 := x2) (c := v_3.2) hhv_1 hv_4) l_606 wv_X6_candidateReads (rv_X6 hG) rfl rfl rfl (by decide) (Nat.zero_le _) (Nat.zero_le _) (Nat.le_of_ble_eq_true rfl) dX6_holds_46 ?_
    refine aw_if_ne (t := 54) hG dX6_holds_49 rfl (fun hc => ?_) (fun hc => ?_)
    · replace h := it_n hc h
      refine aw_iload hG 0 rfl dX6_holds_54 ?_
      refine aw_iconst (v := 1) hG dX6_holds_56 rfl ?_
      refine aw_icmp_ne (t := 62) hG dX6_holds_57 rfl (fun hc => ?_) (fun hc => ?_)
      · replace h := it_n hc h
        refine aw_aload_n hG 2 rfl dX6_holds_62 rfl ?_
        refine gt_ft_number hG l_345 dX6_holds_63 ?_
        obtain ⟨v_5, hv_5, h⟩ := bd_o h
        refine aw_callVi (As := []) (rest := []) hG (c_X4_point (r0 := 0) (c := v_4.2) (by decide) hv_5) l_308 wv_X4_point (rv_X4 hG (by decide)) rfl rfl rfl (by decide) (Nat.zero_le _) (Nat.zero_le _) (Nat.le_of_ble_eq_true rfl) dX6_holds_66 ?_
        refine aw_iload hG 0 rfl dX6_holds_69 ?_
        refine aw_isub hG dX6_holds_71 ?_
        refine aw_iconst (v := 1) hG dX6_holds_72 rfl ?_
        refine aw_iadd hG dX6_holds_73 ?_
        refine aw_topi (fun x6_6 hx6_6 => ?_)
        replace h := lt_r hx6_6 h
        refine aw_istore (L' := [(6, .int x6_6), (5, .int v_3.1), (4, .ref (wad (cxw g) (30 + v_1))), (0, .ref (wad (cxw g) 0)), (1, .int x1), (2, .long x2)]) hG dX6_holds_74 (by decide) rfl ?_
        refine aw_aload_n hG 3 rfl dX6_holds_76 rfl ?_
        refine gt_ft_candidate hG l_411 dX6_holds_77 ?_
        refine aw_aload_n hG 3 rfl dX6_holds_80 rfl ?_
        refine gt_ft_number hG l_345 dX6_holds_81 ?_
        refine aw_iload hG 0 rfl dX6_holds_84 ?_
        obtain ⟨v_7, hv_7, h⟩ := bd_o h
        refine aw_callVv (As := [.ref (wad (cxw g) (9 + 2 * 0)), .int x6_6]) (rest := []) hG (c_X4_takeDownTo (r0 := 3) (r1 := 0) (x2 := x6_6) (c := v_4.2) (by decide) (by decide) hv_7) l_412 wv_X4_takeDownTo (rv_X4 hG (by decide)) rfl rfl rfl (by decide) (Nat.zero_le _) (Nat.zero_le _) (Nat.le_of_ble_eq_true rfl) dX6_holds_86 ?_
        refine aw_aload_n hG 3 rfl dX6_holds_89 rfl ?_
        refine aw_aload hG 2 rfl dX6_holds_90 ?_
        refine aw_lload_n hG 5 rfl dX6_holds_92 rfl ?_
        obtain ⟨v_8, hv_8, h⟩ := bd_o h
        refine aw_callVi (As := [.ref (wad (cxw g) (30 + v_1)), .long x2]) (rest := []) hG (c_X6_candidateReads (f1 := v_1) (x2 := x2) (c := v_7) hhv_1 hv_8) l_606 wv_X6_candidateReads (rv_X6 hG) rfl rfl rfl (by decide) (Nat.zero_le _) (Nat.zero_le _) (Nat.le_of_ble_eq_true rfl) dX6_holds_93 ?_
        refine aw_if_eq (t := 101) hG dX6_holds_96 rfl (fun hc => ?_) (fun hc => ?_)
        · replace h := it_p hc h
          refine aw_aload_n hG 3 rfl dX6_holds_101 rfl ?_
          refine gt_ft_candidate hG l_411 dX6_holds_102 ?_
          refine aw_aload_n hG 3 rfl dX6_holds_105 rfl ?_
          refine gt_ft_number hG l_345 dX6_holds_106 ?_
          refine aw_iload hG 0 rfl dX6_holds_109 ?_
          obtain ⟨v_9, hv_9, h⟩ := bd_o h
          refine aw_callVv (As := [.ref (wad (cxw g) (9 + 2 * 0)), .int x6_6]) (rest := []) hG (c_X4_takeDownTo (r0 := 3) (r1 := 0) (x2 := x6_6) (c := v_8.2) (by decide) (by decide) hv_9) l_412 wv_X4_takeDownTo (rv_X4 hG (by decide)) rfl rfl rfl (by decide) (Nat.zero_le _) (Nat.zero_le _) (Nat.le_of_ble_eq_true rfl) dX6_holds_111 ?_
          refine aw_aload_n hG 3 rfl dX6_holds_114 rfl ?_
          refine gt_ft_candidate hG l_411 dX6_holds_115 ?_
          refine aw_iload hG 0 rfl dX6_holds_118 ?_
          obtain ⟨v_10, hv_10, h⟩ := bd_o h
          refine aw_callVv (As := [.int x6_6]) (rest := []) hG (c_X4_addUnit (r0 := 3) (x1 := x6_6) (c := v_9) (by decide) hv_10) l_424 wv_X4_addUnit (rv_X4 hG (by decide)) rfl rfl rfl (by decide) (Nat.zero_le _) (Nat.zero_le _) (Nat.le_of_ble_eq_true rfl) dX6_holds_120 ?_
          refine aw_aload_n hG 3 rfl dX6_holds_123 rfl ?_
          refine aw_aload hG 2 rfl dX6_holds_124 ?_
          refine aw_lload_n hG 5 rfl dX6_holds_126 rfl ?_
          obtain ⟨v_11, hv_11, h⟩ := bd_o h
          refine aw_callVi (As := [.ref (wad (cxw g) (30 + v_1)), .long x2]) (rest := []) hG (c_X6_candidateReads (f1 := v_1) (x2 := x2) (c := v_10) hhv_1 hv_11) l_606 wv_X6_candidateReads (rv_X6 hG) rfl rfl rfl (by decide) (Nat.zero_le _) (Nat.zero_le _) (Nat.le_of_ble_eq_true rfl) dX6_holds_127 ?_
          refine aw_if_ne (t := 137) hG dX6_holds_130 rfl (fun hc => ?_) (fun hc => ?_)
          · replace h := it_n hc h
            refine aw_iconst (v := 0) hG dX6_holds_137 rfl ?_
            obtain rfl := Option.some.inj h
            exact FinZ.z hK (Or.inl rfl) dX6_holds_138
          · replace h := it_p hc h
            refine aw_iconst (v := 1) hG dX6_holds_133 rfl ?_
            refine aw_goto (t := 138) hG dX6_holds_134 rfl ?_
            obtain rfl := Option.some.inj h
            exact FinZ.z hK (Or.inr rfl) dX6_holds_138
        · replace h := it_n hc h
          refine aw_iconst (v := 0) hG dX6_holds_99 rfl ?_
          obtain rfl := Option.some.inj h
          exact FinZ.z hK (Or.inl rfl) dX6_holds_100
      · replace h := it_p hc h
        refine aw_iconst (v := 1) hG dX6_holds_60 rfl ?_
        obtain rfl := Option.some.inj h
        exact FinZ.z hK (Or.inr rfl) dX6_holds_61
    · replace h := it_p hc h
      refine aw_iconst (v := 0) hG dX6_holds_52 rfl ?_
      obtain rfl := Option.some.inj h
      exact FinZ.z hK (Or.inl rfl) dX6_holds_53
  · replace h := it_n hc h
    obtain rfl := Option.some.inj h
    exact aw_throwIAW (j := 20) hK.1 (by decide) hK.2 rfl dX6_holds_22 dX6_holds_25 dX6_holds_26 dX6_holds_29 dX6_holds_32
theorem c_X6_holds {c : CS} {m : MS} {z : Nat → Int64} {x1 : Int32} {x2 : Int64} {s : Int32 × CS}  (h : f_X6_holds x1 x2 c = some (.inr s)) : Ct yX6_holds cX6_holds 7 (some .boolean) 9 (fun w => [.ref (wad w 0), .int x1, .long x2]) (c, m, z) (fun _ => some (.int s.1)) (s.2, m, z) := Ct_ofZ (by decide +kernel) (fun _ => Nat.le_of_ble_eq_true rfl) (fun g hG hK => w_X6_holds hG h hK)
theorem ct_X6_holds {c : CS} {m : MS} {z : Nat → Int64} {x1 : Int32} {x2 : Int64}  (h : f_X6_holds x1 x2 c = some (.inl ())) : CtT yX6_holds cX6_holds 7 (some .boolean) 9 (fun w => [.ref (wad w 0), .int x1, .long x2]) (c, m, z) wIA := CtT_of (by decide +kernel) (fun _ => Nat.le_of_ble_eq_true rfl) (fun g hG hK => w_X6_holds hG h ⟨hG, hK⟩)
