theorem nl_4 : Cond.methodLinkNest RX5 27 yX4_init RX5 ∈ nestW := List.mem_of_getElem? (i := 4) rfl
theorem nl_5 : Cond.methodLinkNest RX5 38 yX1_init RX5 ∈ nestW := List.mem_of_getElem? (i := 5) rfl
theorem nl_6 : Cond.methodLinkNest RX5 41 yX2_init RX5 ∈ nestW := List.mem_of_getElem? (i := 6) rfl
theorem nl_7 : Cond.methodLinkNest RX5 9 yX3_init RX5 ∈ nestW := List.mem_of_getElem? (i := 7) rfl
theorem okX3_init : okC yX3_init cX3_init 1 0 := ⟨w_36, w_37, w_15, rfl, by decide, by decide, by decide +kernel⟩
set_option maxRecDepth 100000 in
set_option maxHeartbeats 400000 in
theorem kX3_init (l : Launch) (D : va_G) (cI cB cS : ClassId) (u  : Nat) : Mk l yX3_init cX3_init 1 1 40 1 240 D cI cB cS [(u, .inr (3, [.null, .int 0]))] (fun w1 => ∃ (q5 : Nat), w1 = [(u, .inr (3, [.ref q5, .int 0])), (q5, aI cB 240 (fun _ => 0))]) [.ref u] := by
  refine entryC (by decide +kernel) rfl rfl (Nat.le_of_ble_eq_true rfl) ?_
  intro p e s m below meth c A ls QQ ar F hAO hin hRet jP jD jS jl
  obtain ⟨hx, hb, hml, hown, hts, jK, hA, hf1, hf2⟩ := id F
  have jl : lv_has ls 1 [(0, .ref u)] := jl
  refine lv_aload_n hx hb dX3_init_0 rfl (lv_at jl 0 rfl) ?_
  refine W.objInit hx hb hown (hts _ w_38) (hts _ w_11) (hts _ w_12) rfl (by rw [hml]; exact jl.1) rfl dX3_init_1 (by decide) (Nat.le_of_ble_eq_true rfl) ?_
  refine W.eq (g2 := F0 m 4 ls []) rfl ?_
  refine lv_aload_n hx hb dX3_init_4 rfl (lv_at jl 0 rfl) ?_
  refine lv_sipush (v := (240 : Int32)) hx hb dX3_init_5 (by decide) ?_
  refine va_newa (atype := .byte) (a0 := (240, .inl (fun _ => 0))) hx hb (hts _ w_39) rfl jK.1 jP jD jS hA (fun _ => rfl) (by decide) (N' := 240) (by decide) (by decide) (by decide) (by decide) dX3_init_8 (fun q5 cA5 H jK5 jP jD jS => ?_)
  obtain rfl : cB = cA5 := arr_B jK5 jK
  have jP : va_P D vwCl [(u, .inr (3, [.null, .int 0])), (q5, aI cB 240 (fun _ => 0))] H := jP
  have jD : va_D A [(u, .inr (3, [.null, .int 0])), (q5, aI cB 240 (fun _ => 0))] := jD
  refine va_putF (D := D) (ci := 3) (v := .ref q5) (ty := .array .byte) (C := RX3) (T := TX3) (N := 2) hx hb hts in3 tyX3 tyX3_ok nmX3 hown jK.1 jP jD jS 0 rfl rfl 0 (by decide) (hts _ w_40) (fun _ h9 => h9) rfl hin rfl (by decide +kernel) rfl rfl (Nat.le_of_ble_eq_true rfl) dX3_init_10 (fun H locs jP jD jS => ?_)
  have jP : va_P D vwCl [(u, .inr (3, [.ref q5, .int 0])), (q5, aI cB 240 (fun _ => 0))] H := jP
  have jD : va_D A [(u, .inr (3, [.ref q5, .int 0])), (q5, aI cB 240 (fun _ => 0))] := jD
  refine W.widen (k := 1) (n := 240) (by decide) (by decide) ?_
  exact hRet _ _ _ _ _ ⟨q5, rfl⟩ jP jD jS dX3_init_13
theorem okX4_init : okC yX4_init cX4_init 1 0 := ⟨w_46, w_47, w_23, rfl, by decide, by decide, by decide +kernel⟩
set_option maxRecDepth 100000 in
set_option maxHeartbeats 400000 in
theorem kX4_init (l : Launch) (D : va_G) (cI cB cS : ClassId) (u  : Nat) : Mk l yX4_init cX4_init 1 1 40 1 8 D cI cB cS [(u, .inr (4, [.null, .int 0, .int 0, .int 0, .int 0, .int 0, .int 0]))] (fun w1 => ∃ (q5 : Nat), w1 = [(u, .inr (4, [.ref q5, .int 0, .int 0, .int 0, .int 0, .int 0, .int 0])), (q5, aI cI 8 (fun _ => 0))]) [.ref u] := by
  refine entryC (by decide +kernel) rfl rfl (Nat.le_of_ble_eq_true rfl) ?_
  intro p e s m below meth c A ls QQ ar F hAO hin hRet jP jD jS jl
  obtain ⟨hx, hb, hml, hown, hts, jK, hA, hf1, hf2⟩ := id F
  have jl : lv_has ls 1 [(0, .ref u)] := jl
  refine lv_aload_n hx hb dX4_init_0 rfl (lv_at jl 0 rfl) ?_
  refine W.objInit hx hb hown (hts _ w_48) (hts _ w_11) (hts _ w_12) rfl (by rw [hml]; exact jl.1) rfl dX4_init_1 (by decide) (Nat.le_of_ble_eq_true rfl) ?_
  refine W.eq (g2 := F0 m 4 ls []) rfl ?_
  refine lv_aload_n hx hb dX4_init_4 rfl (lv_at jl 0 rfl) ?_
  refine lv_bipush (v := (8 : Int32)) hx hb dX4_init_5 (by decide) ?_
  refine va_newa (atype := .int) (a0 := (8, .inl (fun _ => 0))) hx hb (hts _ w_49) rfl jK.1 jP jD jS hA (fun _ => rfl) (by decide) (N' := 8) (by decide) (by decide) (by decide) (by decide) dX4_init_7 (fun q5 cA5 H jK5 jP jD jS => ?_)
  obtain rfl : cI = cA5 := arr_I jK5 jK
  have jP : va_P D vwCl [(u, .inr (4, [.null, .int 0, .int 0, .int 0, .int 0, .int 0, .int 0])), (q5, aI cI 8 (fun _ => 0))] H := jP
  have jD : va_D A [(u, .inr (4, [.null, .int 0, .int 0, .int 0, .int 0, .int 0, .int 0])), (q5, aI cI 8 (fun _ => 0))] := jD
  refine va_putF (D := D) (ci := 4) (v := .ref q5) (ty := .array .int) (C := RX4) (T := TX4) (N := 7) hx hb hts in4 tyX4 tyX4_ok nmX4 hown jK.1 jP jD jS 0 rfl rfl 0 (by decide) (hts _ w_50) (fun _ h9 => h9) rfl hin rfl (by decide +kernel) rfl rfl (Nat.le_of_ble_eq_true rfl) dX4_init_9 (fun H locs jP jD jS => ?_)
  have jP : va_P D vwCl [(u, .inr (4, [.ref q5, .int 0, .int 0, .int 0, .int 0, .int 0, .int 0])), (q5, aI cI 8 (fun _ => 0))] H := jP
  have jD : va_D A [(u, .inr (4, [.ref q5, .int 0, .int 0, .int 0, .int 0, .int 0, .int 0])), (q5, aI cI 8 (fun _ => 0))] := jD
  refine W.widen (k := 1) (n := 8) (by decide) (by decide) ?_
  exact hRet _ _ _ _ _ ⟨q5, rfl⟩ jP jD jS dX4_init_12
theorem okX0_init : okC yX0_init cX0_init 2 1 := ⟨w_42, w_43, w_19, rfl, by decide, by decide, by decide +kernel⟩
set_option maxRecDepth 100000 in
set_option maxHeartbeats 400000 in
theorem kX0_init (l : Launch) (D : va_G) (cI cB cS : ClassId) (u argT : Nat) : Mk l yX0_init cX0_init 2 1 40 0 0 D cI cB cS [(u, .inr (0, [.null, .int 0, .int 0, .int 0, .int 0, .int 0, .int 0, .int 0, .int 0]))] (fun w1 => w1 = [(u, .inr (0, [.ref argT, .int 0, .int 0, .int 0, .int 0, .int 0, .int 0, .int 0, .int 0]))]) [.ref u, .ref argT] := by
  refine entryC (by decide +kernel) rfl rfl (Nat.le_of_ble_eq_true rfl) ?_
  intro p e s m below meth c A ls QQ ar F hAO hin hRet jP jD jS jl
  obtain ⟨hx, hb, hml, hown, hts, jK, hA, hf1, hf2⟩ := id F
  have jl : lv_has ls 2 [(0, .ref u), (1, .ref argT)] := jl
  refine lv_aload_n hx hb dX0_init_0 rfl (lv_at jl 0 rfl) ?_
  refine W.objInit hx hb hown (hts _ w_44) (hts _ w_11) (hts _ w_12) rfl (by rw [hml]; exact jl.1) rfl dX0_init_1 (by decide) (Nat.le_of_ble_eq_true rfl) ?_
  refine W.eq (g2 := F0 m 4 ls []) rfl ?_
  refine lv_aload_n hx hb dX0_init_4 rfl (lv_at jl 0 rfl) ?_
  refine lv_aload_n hx hb dX0_init_5 rfl (lv_at jl 1 rfl) ?_
  refine va_putF (D := D) (ci := 0) (v := .ref argT) (ty := .object "LemonMarket$Tape") (C := RX0) (T := TX0) (N := 9) hx hb hts in0 tyX0 tyX0_ok nmX0 hown jK.1 jP jD jS 0 rfl rfl 0 (by decide) (hts _ w_45) (fun _ h9 => h9) rfl hin rfl (by decide +kernel) rfl rfl (Nat.le_of_ble_eq_true rfl) dX0_init_6 (fun H locs jP jD jS => ?_)
  have jP : va_P D vwCl [(u, .inr (0, [.ref argT, .int 0, .int 0, .int 0, .int 0, .int 0, .int 0, .int 0, .int 0]))] H := jP
  have jD : va_D A [(u, .inr (0, [.ref argT, .int 0, .int 0, .int 0, .int 0, .int 0, .int 0, .int 0, .int 0]))] := jD
  refine W.widen (k := 0) (n := 0) (by decide) (by decide) ?_
  exact hRet _ _ _ _ _ rfl jP jD jS dX0_init_9
theorem okX1_init : okC yX1_init cX1_init 1 0 := ⟨w_51, w_52, w_28, rfl, by decide, by decide, by decide +kernel⟩
set_option maxRecDepth 100000 in
set_option maxHeartbeats 400000 in
theorem kX1_init (l : Launch) (D : va_G) (cI cB cS : ClassId) (u  : Nat) : Mk l yX1_init cX1_init 1 1 40 1 40 D cI cB cS [(u, .inr (1, [.null, .int 0, .int 0]))] (fun w1 => ∃ (q5 : Nat), w1 = [(u, .inr (1, [.ref q5, .int (-1 : Int32), .int 0])), (q5, aI cI 40 (fun _ => 0))]) [.ref u] := by
  refine entryC (by decide +kernel) rfl rfl (Nat.le_of_ble_eq_true rfl) ?_
  intro p e s m below meth c A ls QQ ar F hAO hin hRet jP jD jS jl
  obtain ⟨hx, hb, hml, hown, hts, jK, hA, hf1, hf2⟩ := id F
  have jl : lv_has ls 1 [(0, .ref u)] := jl
  refine lv_aload_n hx hb dX1_init_0 rfl (lv_at jl 0 rfl) ?_
  refine W.objInit hx hb hown (hts _ w_53) (hts _ w_11) (hts _ w_12) rfl (by rw [hml]; exact jl.1) rfl dX1_init_1 (by decide) (Nat.le_of_ble_eq_true rfl) ?_
  refine W.eq (g2 := F0 m 4 ls []) rfl ?_
  refine lv_aload_n hx hb dX1_init_4 rfl (lv_at jl 0 rfl) ?_
  refine lv_bipush (v := (40 : Int32)) hx hb dX1_init_5 (by decide) ?_
  refine va_newa (atype := .int) (a0 := (40, .inl (fun _ => 0))) hx hb (hts _ w_49) rfl jK.1 jP jD jS hA (fun _ => rfl) (by decide) (N' := 40) (by decide) (by decide) (by decide) (by decide) dX1_init_7 (fun q5 cA5 H jK5 jP jD jS => ?_)
  obtain rfl : cI = cA5 := arr_I jK5 jK
  have jP : va_P D vwCl [(u, .inr (1, [.null, .int 0, .int 0])), (q5, aI cI 40 (fun _ => 0))] H := jP
  have jD : va_D A [(u, .inr (1, [.null, .int 0, .int 0])), (q5, aI cI 40 (fun _ => 0))] := jD
  refine va_putF (D := D) (ci := 1) (v := .ref q5) (ty := .array .int) (C := RX1) (T := TX1) (N := 3) hx hb hts in1 tyX1 tyX1_ok nmX1 hown jK.1 jP jD jS 0 rfl rfl 0 (by decide) (hts _ w_54) (fun _ h9 => h9) rfl hin rfl (by decide +kernel) rfl rfl (Nat.le_of_ble_eq_true rfl) dX1_init_9 (fun H locs jP jD jS => ?_)
  have jP : va_P D vwCl [(u, .inr (1, [.ref q5, .int 0, .int 0])), (q5, aI cI 40 (fun _ => 0))] H := jP
  have jD : va_D A [(u, .inr (1, [.ref q5, .int 0, .int 0])), (q5, aI cI 40 (fun _ => 0))] := jD
  refine lv_aload_n hx hb dX1_init_12 rfl (lv_at jl 0 rfl) ?_
  refine lv_iconst (v := (-1 : Int32)) hx hb dX1_init_13 (by decide) ?_
  refine va_put (D := D) (ci := 1) (v := .int (-1 : Int32)) (ty := .int) (C := RX1) (T := TX1) (N := 3) hx hb hts in1 tyX1 tyX1_ok nmX1 hown jK.1 jP jD jS 0 rfl rfl 1 (by decide) (hts _ w_55) (fun _ h9 => h9) rfl (by decide +kernel) rfl rfl (Nat.le_of_ble_eq_true rfl) dX1_init_14 (fun H locs jP jD jS => ?_)
  have jP : va_P D vwCl [(u, .inr (1, [.ref q5, .int (-1 : Int32), .int 0])), (q5, aI cI 40 (fun _ => 0))] H := jP
  have jD : va_D A [(u, .inr (1, [.ref q5, .int (-1 : Int32), .int 0])), (q5, aI cI 40 (fun _ => 0))] := jD
  refine W.widen (k := 1) (n := 40) (by decide) (by decide) ?_
  exact hRet _ _ _ _ _ ⟨q5, rfl⟩ jP jD jS dX1_init_17
theorem okX2_init : okC yX2_init cX2_init 1 0 := ⟨w_56, w_57, w_31, rfl, by decide, by decide, by decide +kernel⟩
set_option maxRecDepth 100000 in
set_option maxHeartbeats 400000 in
theorem kX2_init (l : Launch) (D : va_G) (cI cB cS : ClassId) (u  : Nat) : Mk l yX2_init cX2_init 1 1 40 5 40 D cI cB cS [(u, .inr (2, [.null, .null, .null, .null, .null, .int 0, .int 0, .int 0, .int 0, .int 0]))] (fun w1 => ∃ (q5 : Nat) (q9 : Nat) (q13 : Nat) (q17 : Nat) (q21 : Nat), w1 = [(u, .inr (2, [.ref q5, .ref q9, .ref q13, .ref q17, .ref q21, .int 0, .int 0, .int 0, .int 0, .int 0])), (q5, aI cI 8 (fun _ => 0)), (q9, aI cI 8 (fun _ => 0)), (q13, aI cI 8 (fun _ => 0)), (q17, aI cI 8 (fun _ => 0)), (q21, aI cI 8 (fun _ => 0))]) [.ref u] := by
  refine entryC (by decide +kernel) rfl rfl (Nat.le_of_ble_eq_true rfl) ?_
  intro p e s m below meth c A ls QQ ar F hAO hin hRet jP jD jS jl
  obtain ⟨hx, hb, hml, hown, hts, jK, hA, hf1, hf2⟩ := id F
  have jl : lv_has ls 1 [(0, .ref u)] := jl
  refine lv_aload_n hx hb dX2_init_0 rfl (lv_at jl 0 rfl) ?_
  refine W.objInit hx hb hown (hts _ w_58) (hts _ w_11) (hts _ w_12) rfl (by rw [hml]; exact jl.1) rfl dX2_init_1 (by decide) (Nat.le_of_ble_eq_true rfl) ?_
  refine W.eq (g2 := F0 m 4 ls []) rfl ?_
  refine lv_aload_n hx hb dX2_init_4 rfl (lv_at jl 0 rfl) ?_
  refine lv_bipush (v := (8 : Int32)) hx hb dX2_init_5 (by decide) ?_
  refine va_newa (atype := .int) (a0 := (8, .inl (fun _ => 0))) hx hb (hts _ w_49) rfl jK.1 jP jD jS hA (fun _ => rfl) (by decide) (N' := 8) (by decide) (by decide) (by decide) (by decide) dX2_init_7 (fun q5 cA5 H jK5 jP jD jS => ?_)
  obtain rfl : cI = cA5 := arr_I jK5 jK
  have jP : va_P D vwCl [(u, .inr (2, [.null, .null, .null, .null, .null, .int 0, .int 0, .int 0, .int 0, .int 0])), (q5, aI cI 8 (fun _ => 0))] H := jP
  have jD : va_D A [(u, .inr (2, [.null, .null, .null, .null, .null, .int 0, .int 0, .int 0, .int 0, .int 0])), (q5, aI cI 8 (fun _ => 0))] := jD
  refine va_putF (D := D) (ci := 2) (v := .ref q5) (ty := .array .int) (C := RX2) (T := TX2) (N := 10) hx hb hts in2 tyX2 tyX2_ok nmX2 hown jK.1 jP jD jS 0 rfl rfl 0 (by decide) (hts _ w_59) (fun _ h9 => h9) rfl hin rfl (by decide +kernel) rfl rfl (Nat.le_of_ble_eq_true rfl) dX2_init_9 (fun H locs jP jD jS => ?_)
  have jP : va_P D vwCl [(u, .inr (2, [.ref q5, .null, .null, .null, .null, .int 0, .int 0, .int 0, .int 0, .int 0])), (q5, aI cI 8 (fun _ => 0))] H := jP
  have jD : va_D A [(u, .inr (2, [.ref q5, .null, .null, .null, .null, .int 0, .int 0, .int 0, .int 0, .int 0])), (q5, aI cI 8 (fun _ => 0))] := jD
  refine lv_aload_n hx hb dX2_init_12 rfl (lv_at jl 0 rfl) ?_
  refine lv_bipush (v := (8 : Int32)) hx hb dX2_init_13 (by decide) ?_
  refine va_newa (atype := .int) (a0 := (8, .inl (fun _ => 0))) hx hb (hts _ w_49) rfl jK.1 jP jD jS hA (fun _ => rfl) (by decide) (N' := 8) (by decide) (by decide) (by decide) (by decide) dX2_init_15 (fun q9 cA9 H jK9 jP jD jS => ?_)
  obtain rfl : cI = cA9 := arr_I jK9 jK
  have jP : va_P D vwCl [(u, .inr (2, [.ref q5, .null, .null, .null, .null, .int 0, .int 0, .int 0, .int 0, .int 0])), (q5, aI cI 8 (fun _ => 0)), (q9, aI cI 8 (fun _ => 0))] H := jP
  have jD : va_D A [(u, .inr (2, [.ref q5, .null, .null, .null, .null, .int 0, .int 0, .int 0, .int 0, .int 0])), (q5, aI cI 8 (fun _ => 0)), (q9, aI cI 8 (fun _ => 0))] := jD
  refine va_putF (D := D) (ci := 2) (v := .ref q9) (ty := .array .int) (C := RX2) (T := TX2) (N := 10) hx hb hts in2 tyX2 tyX2_ok nmX2 hown jK.1 jP jD jS 0 rfl rfl 1 (by decide) (hts _ w_60) (fun _ h9 => h9) rfl hin rfl (by decide +kernel) rfl rfl (Nat.le_of_ble_eq_true rfl) dX2_init_17 (fun H locs jP jD jS => ?_)
  have jP : va_P D vwCl [(u, .inr (2, [.ref q5, .ref q9, .null, .null, .null, .int 0, .int 0, .int 0, .int 0, .int 0])), (q5, aI cI 8 (fun _ => 0)), (q9, aI cI 8 (fun _ => 0))] H := jP
  have jD : va_D A [(u, .inr (2, [.ref q5, .ref q9, .null, .null, .null, .int 0, .int 0, .int 0, .int 0, .int 0])), (q5, aI cI 8 (fun _ => 0)), (q9, aI cI 8 (fun _ => 0))] := jD
  refine lv_aload_n hx hb dX2_init_20 rfl (lv_at jl 0 rfl) ?_
  refine lv_bipush (v := (8 : Int32)) hx hb dX2_init_21 (by decide) ?_
  refine va_newa (atype := .int) (a0 := (8, .inl (fun _ => 0))) hx hb (hts _ w_49) rfl jK.1 jP jD jS hA (fun _ => rfl) (by decide) (N' := 8) (by decide) (by decide) (by decide) (by decide) dX2_init_23 (fun q13 cA13 H jK13 jP jD jS => ?_)
  obtain rfl : cI = cA13 := arr_I jK13 jK
  have jP : va_P D vwCl [(u, .inr (2, [.ref q5, .ref q9, .null, .null, .null, .int 0, .int 0, .int 0, .int 0, .int 0])), (q5, aI cI 8 (fun _ => 0)), (q9, aI cI 8 (fun _ => 0)), (q13, aI cI 8 (fun _ => 0))] H := jP
  have jD : va_D A [(u, .inr (2, [.ref q5, .ref q9, .null, .null, .null, .int 0, .int 0, .int 0, .int 0, .int 0])), (q5, aI cI 8 (fun _ => 0)), (q9, aI cI 8 (fun _ => 0)), (q13, aI cI 8 (fun _ => 0))] := jD
  refine va_putF (D := D) (ci := 2) (v := .ref q13) (ty := .array .int) (C := RX2) (T := TX2) (N := 10) hx hb hts in2 tyX2 tyX2_ok nmX2 hown jK.1 jP jD jS 0 rfl rfl 2 (by decide) (hts _ w_61) (fun _ h9 => h9) rfl hin rfl (by decide +kernel) rfl rfl (Nat.le_of_ble_eq_true rfl) dX2_init_25 (fun H locs jP jD jS => ?_)
  have jP : va_P D vwCl [(u, .inr (2, [.ref q5, .ref q9, .ref q13, .null, .null, .int 0, .int 0, .int 0, .int 0, .int 0])), (q5, aI cI 8 (fun _ => 0)), (q9, aI cI 8 (fun _ => 0)), (q13, aI cI 8 (fun _ => 0))] H := jP
  have jD : va_D A [(u, .inr (2, [.ref q5, .ref q9, .ref q13, .null, .null, .int 0, .int 0, .int 0, .int 0, .int 0])), (q5, aI cI 8 (fun _ => 0)), (q9, aI cI 8 (fun _ => 0)), (q13, aI cI 8 (fun _ => 0))] := jD
  refine lv_aload_n hx hb dX2_init_28 rfl (lv_at jl 0 rfl) ?_
  refine lv_bipush (v := (8 : Int32)) hx hb dX2_init_29 (by decide) ?_
  refine va_newa (atype := .int) (a0 := (8, .inl (fun _ => 0))) hx hb (hts _ w_49) rfl jK.1 jP jD jS hA (fun _ => rfl) (by decide) (N' := 8) (by decide) (by decide) (by decide) (by decide) dX2_init_31 (fun q17 cA17 H jK17 jP jD jS => ?_)
  obtain rfl : cI = cA17 := arr_I jK17 jK
  have jP : va_P D vwCl [(u, .inr (2, [.ref q5, .ref q9, .ref q13, .null, .null, .int 0, .int 0, .int 0, .int 0, .int 0])), (q5, aI cI 8 (fun _ => 0)), (q9, aI cI 8 (fun _ => 0)), (q13, aI cI 8 (fun _ => 0)), (q17, aI cI 8 (fun _ => 0))] H := jP
  have jD : va_D A [(u, .inr (2, [.ref q5, .ref q9, .ref q13, .null, .null, .int 0, .int 0, .int 0, .int 0, .int 0])), (q5, aI cI 8 (fun _ => 0)), (q9, aI cI 8 (fun _ => 0)), (q13, aI cI 8 (fun _ => 0)), (q17, aI cI 8 (fun _ => 0))] := jD
  refine va_putF (D := D) (ci := 2) (v := .ref q17) (ty := .array .int) (C := RX2) (T := TX2) (N := 10) hx hb hts in2 tyX2 tyX2_ok nmX2 hown jK.1 jP jD jS 0 rfl rfl 3 (by decide) (hts _ w_62) (fun _ h9 => h9) rfl hin rfl (by decide +kernel) rfl rfl (Nat.le_of_ble_eq_true rfl) dX2_init_33 (fun H locs jP jD jS => ?_)
  have jP : va_P D vwCl [(u, .inr (2, [.ref q5, .ref q9, .ref q13, .ref q17, .null, .int 0, .int 0, .int 0, .int 0, .int 0])), (q5, aI cI 8 (fun _ => 0)), (q9, aI cI 8 (fun _ => 0)), (q13, aI cI 8 (fun _ => 0)), (q17, aI cI 8 (fun _ => 0))] H := jP
  have jD : va_D A [(u, .inr (2, [.ref q5, .ref q9, .ref q13, .ref q17, .null, .int 0, .int 0, .int 0, .int 0, .int 0])), (q5, aI cI 8 (fun _ => 0)), (q9, aI cI 8 (fun _ => 0)), (q13, aI cI 8 (fun _ => 0)), (q17, aI cI 8 (fun _ => 0))] := jD
  refine lv_aload_n hx hb dX2_init_36 rfl (lv_at jl 0 rfl) ?_
  refine lv_bipush (v := (8 : Int32)) hx hb dX2_init_37 (by decide) ?_
  refine va_newa (atype := .int) (a0 := (8, .inl (fun _ => 0))) hx hb (hts _ w_49) rfl jK.1 jP jD jS hA (fun _ => rfl) (by decide) (N' := 8) (by decide) (by decide) (by decide) (by decide) dX2_init_39 (fun q21 cA21 H jK21 jP jD jS => ?_)
  obtain rfl : cI = cA21 := arr_I jK21 jK
  have jP : va_P D vwCl [(u, .inr (2, [.ref q5, .ref q9, .ref q13, .ref q17, .null, .int 0, .int 0, .int 0, .int 0, .int 0])), (q5, aI cI 8 (fun _ => 0)), (q9, aI cI 8 (fun _ => 0)), (q13, aI cI 8 (fun _ => 0)), (q17, aI cI 8 (fun _ => 0)), (q21, aI cI 8 (fun _ => 0))] H := jP
  have jD : va_D A [(u, .inr (2, [.ref q5, .ref q9, .ref q13, .ref q17, .null, .int 0, .int 0, .int 0, .int 0, .int 0])), (q5, aI cI 8 (fun _ => 0)), (q9, aI cI 8 (fun _ => 0)), (q13, aI cI 8 (fun _ => 0)), (q17, aI cI 8 (fun _ => 0)), (q21, aI cI 8 (fun _ => 0))] := jD
  refine va_putF (D := D) (ci := 2) (v := .ref q21) (ty := .array .int) (C := RX2) (T := TX2) (N := 10) hx hb hts in2 tyX2 tyX2_ok nmX2 hown jK.1 jP jD jS 0 rfl rfl 4 (by decide) (hts _ w_63) (fun _ h9 => h9) rfl hin rfl (by decide +kernel) rfl rfl (Nat.le_of_ble_eq_true rfl) dX2_init_41 (fun H locs jP jD jS => ?_)
  have jP : va_P D vwCl [(u, .inr (2, [.ref q5, .ref q9, .ref q13, .ref q17, .ref q21, .int 0, .int 0, .int 0, .int 0, .int 0])), (q5, aI cI 8 (fun _ => 0)), (q9, aI cI 8 (fun _ => 0)), (q13, aI cI 8 (fun _ => 0)), (q17, aI cI 8 (fun _ => 0)), (q21, aI cI 8 (fun _ => 0))] H := jP
  have jD : va_D A [(u, .inr (2, [.ref q5, .ref q9, .ref q13, .ref q17, .ref q21, .int 0, .int 0, .int 0, .int 0, .int 0])), (q5, aI cI 8 (fun _ => 0)), (q9, aI cI 8 (fun _ => 0)), (q13, aI cI 8 (fun _ => 0)), (q17, aI cI 8 (fun _ => 0)), (q21, aI cI 8 (fun _ => 0))] := jD
  refine W.widen (k := 5) (n := 40) (by decide) (by decide) ?_
  exact hRet _ _ _ _ _ ⟨q5, q9, q13, q17, q21, rfl⟩ jP jD jS dX2_init_44
