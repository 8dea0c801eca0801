theorem okX2_row : okV yX2_row cX2_row 2 (some (.array .int)) 1 := ⟨w_308, w_309, w_310, w_31, by decide, by decide, by decide +kernel⟩
def fX2_row0 (a1 : Int32) : Option Unit :=
  some ()
set_option maxRecDepth 100000 in
set_option maxHeartbeats 4000000 in
theorem kX2_row0 (l : Launch) (D : va_G) (cI cB cS : ClassId) (uS : Nat) (aS : Nat → Nat) (S_x5 : Int32) (S_x6 : Int32) (S_x7 : Int32) (S_x8 : Int32) (S_x9 : Int32) (S_r0 : (Nat → Int32)) (S_r1 : (Nat → Int32)) (S_r2 : (Nat → Int32)) (S_r3 : (Nat → Int32)) (S_r4 : (Nat → Int32)) (a1 : Int32) (z : Unit) (h : fX2_row0 a1 = some z) (ha : a1 = (0 : Int32)) : Mt l yX2_row cX2_row 2 (some (.array .int)) 0 0 D cI cB cS (sW cI uS aS S_x5 S_x6 S_x7 S_x8 S_x9 S_r0 S_r1 S_r2 S_r3 S_r4) (sW cI uS aS S_x5 S_x6 S_x7 S_x8 S_x9 S_r0 S_r1 S_r2 S_r3 S_r4) [.ref uS, .int a1] (some (.ref (aS 0))) := by
  refine entryA (by decide +kernel) rfl (Nat.le_of_ble_eq_true rfl) (Or.inr ⟨_, rfl⟩) ?_
  intro p e s m below meth c A ls QQ R ar F hRet jP jD jS jl
  obtain ⟨hx, hb, hml, hown, hts, jK, hA, hf1, hf2⟩ := id F
  have jl : lv_has ls 2 [(0, .ref uS), (1, .int a1)] := jl
  unfold fX2_row0 at h
  refine lv_iload_n hx hb dX2_row_0 rfl (lv_at jl 1 rfl) ?_
  refine swIn (k := 0) (tgt := 32) hx hb ha dX2_row_1 (by decide) (by decide) rfl (by decide) ?_
  refine lv_aload_n hx hb dX2_row_32 rfl (lv_at jl 0 rfl) ?_
  refine va_get (D := D) (ci := 2) (v := .ref (aS 0)) (C := RX2) (T := TX2) (N := 10) hx hb hts in2 hown jK.1 jP 0 rfl rfl 0 (by decide) (hts _ w_59) (fun _ h9 => h9) rfl dX2_row_33 ?_
  obtain rfl := Option.some.inj h
  exact hRet _ _ _ _ jP jD jS dX2_row_36
def fX2_row1 (a1 : Int32) : Option Unit :=
  some ()
set_option maxRecDepth 100000 in
set_option maxHeartbeats 4000000 in
theorem kX2_row1 (l : Launch) (D : va_G) (cI cB cS : ClassId) (uS : Nat) (aS : Nat → Nat) (S_x5 : Int32) (S_x6 : Int32) (S_x7 : Int32) (S_x8 : Int32) (S_x9 : Int32) (S_r0 : (Nat → Int32)) (S_r1 : (Nat → Int32)) (S_r2 : (Nat → Int32)) (S_r3 : (Nat → Int32)) (S_r4 : (Nat → Int32)) (a1 : Int32) (z : Unit) (h : fX2_row1 a1 = some z) (ha : a1 = (1 : Int32)) : Mt l yX2_row cX2_row 2 (some (.array .int)) 0 0 D cI cB cS (sW cI uS aS S_x5 S_x6 S_x7 S_x8 S_x9 S_r0 S_r1 S_r2 S_r3 S_r4) (sW cI uS aS S_x5 S_x6 S_x7 S_x8 S_x9 S_r0 S_r1 S_r2 S_r3 S_r4) [.ref uS, .int a1] (some (.ref (aS 1))) := by
  refine entryA (by decide +kernel) rfl (Nat.le_of_ble_eq_true rfl) (Or.inr ⟨_, rfl⟩) ?_
  intro p e s m below meth c A ls QQ R ar F hRet jP jD jS jl
  obtain ⟨hx, hb, hml, hown, hts, jK, hA, hf1, hf2⟩ := id F
  have jl : lv_has ls 2 [(0, .ref uS), (1, .int a1)] := jl
  unfold fX2_row1 at h
  refine lv_iload_n hx hb dX2_row_0 rfl (lv_at jl 1 rfl) ?_
  refine swIn (k := 1) (tgt := 37) hx hb ha dX2_row_1 (by decide) (by decide) rfl (by decide) ?_
  refine lv_aload_n hx hb dX2_row_37 rfl (lv_at jl 0 rfl) ?_
  refine va_get (D := D) (ci := 2) (v := .ref (aS 1)) (C := RX2) (T := TX2) (N := 10) hx hb hts in2 hown jK.1 jP 0 rfl rfl 1 (by decide) (hts _ w_60) (fun _ h9 => h9) rfl dX2_row_38 ?_
  obtain rfl := Option.some.inj h
  exact hRet _ _ _ _ jP jD jS dX2_row_41
def fX2_row2 (a1 : Int32) : Option Unit :=
  some ()
set_option maxRecDepth 100000 in
set_option maxHeartbeats 4000000 in
theorem kX2_row2 (l : Launch) (D : va_G) (cI cB cS : ClassId) (uS : Nat) (aS : Nat → Nat) (S_x5 : Int32) (S_x6 : Int32) (S_x7 : Int32) (S_x8 : Int32) (S_x9 : Int32) (S_r0 : (Nat → Int32)) (S_r1 : (Nat → Int32)) (S_r2 : (Nat → Int32)) (S_r3 : (Nat → Int32)) (S_r4 : (Nat → Int32)) (a1 : Int32) (z : Unit) (h : fX2_row2 a1 = some z) (ha : a1 = (2 : Int32)) : Mt l yX2_row cX2_row 2 (some (.array .int)) 0 0 D cI cB cS (sW cI uS aS S_x5 S_x6 S_x7 S_x8 S_x9 S_r0 S_r1 S_r2 S_r3 S_r4) (sW cI uS aS S_x5 S_x6 S_x7 S_x8 S_x9 S_r0 S_r1 S_r2 S_r3 S_r4) [.ref uS, .int a1] (some (.ref (aS 2))) := by
  refine entryA (by decide +kernel) rfl (Nat.le_of_ble_eq_true rfl) (Or.inr ⟨_, rfl⟩) ?_
  intro p e s m below meth c A ls QQ R ar F hRet jP jD jS jl
  obtain ⟨hx, hb, hml, hown, hts, jK, hA, hf1, hf2⟩ := id F
  have jl : lv_has ls 2 [(0, .ref uS), (1, .int a1)] := jl
  unfold fX2_row2 at h
  refine lv_iload_n hx hb dX2_row_0 rfl (lv_at jl 1 rfl) ?_
  refine swIn (k := 2) (tgt := 42) hx hb ha dX2_row_1 (by decide) (by decide) rfl (by decide) ?_
  refine lv_aload_n hx hb dX2_row_42 rfl (lv_at jl 0 rfl) ?_
  refine va_get (D := D) (ci := 2) (v := .ref (aS 2)) (C := RX2) (T := TX2) (N := 10) hx hb hts in2 hown jK.1 jP 0 rfl rfl 2 (by decide) (hts _ w_61) (fun _ h9 => h9) rfl dX2_row_43 ?_
  obtain rfl := Option.some.inj h
  exact hRet _ _ _ _ jP jD jS dX2_row_46
def fX2_row3 (a1 : Int32) : Option Unit :=
  some ()
set_option maxRecDepth 100000 in
set_option maxHeartbeats 4000000 in
theorem kX2_row3 (l : Launch) (D : va_G) (cI cB cS : ClassId) (uS : Nat) (aS : Nat → Nat) (S_x5 : Int32) (S_x6 : Int32) (S_x7 : Int32) (S_x8 : Int32) (S_x9 : Int32) (S_r0 : (Nat → Int32)) (S_r1 : (Nat → Int32)) (S_r2 : (Nat → Int32)) (S_r3 : (Nat → Int32)) (S_r4 : (Nat → Int32)) (a1 : Int32) (z : Unit) (h : fX2_row3 a1 = some z) (ha : a1 = (3 : Int32)) : Mt l yX2_row cX2_row 2 (some (.array .int)) 0 0 D cI cB cS (sW cI uS aS S_x5 S_x6 S_x7 S_x8 S_x9 S_r0 S_r1 S_r2 S_r3 S_r4) (sW cI uS aS S_x5 S_x6 S_x7 S_x8 S_x9 S_r0 S_r1 S_r2 S_r3 S_r4) [.ref uS, .int a1] (some (.ref (aS 3))) := by
  refine entryA (by decide +kernel) rfl (Nat.le_of_ble_eq_true rfl) (Or.inr ⟨_, rfl⟩) ?_
  intro p e s m below meth c A ls QQ R ar F hRet jP jD jS jl
  obtain ⟨hx, hb, hml, hown, hts, jK, hA, hf1, hf2⟩ := id F
  have jl : lv_has ls 2 [(0, .ref uS), (1, .int a1)] := jl
  unfold fX2_row3 at h
  refine lv_iload_n hx hb dX2_row_0 rfl (lv_at jl 1 rfl) ?_
  refine swIn (k := 3) (tgt := 47) hx hb ha dX2_row_1 (by decide) (by decide) rfl (by decide) ?_
  refine lv_aload_n hx hb dX2_row_47 rfl (lv_at jl 0 rfl) ?_
  refine va_get (D := D) (ci := 2) (v := .ref (aS 3)) (C := RX2) (T := TX2) (N := 10) hx hb hts in2 hown jK.1 jP 0 rfl rfl 3 (by decide) (hts _ w_62) (fun _ h9 => h9) rfl dX2_row_48 ?_
  obtain rfl := Option.some.inj h
  exact hRet _ _ _ _ jP jD jS dX2_row_51
def fX2_row4 (a1 : Int32) : Option Unit :=
  some ()
set_option maxRecDepth 100000 in
set_option maxHeartbeats 4000000 in
theorem kX2_row4 (l : Launch) (D : va_G) (cI cB cS : ClassId) (uS : Nat) (aS : Nat → Nat) (S_x5 : Int32) (S_x6 : Int32) (S_x7 : Int32) (S_x8 : Int32) (S_x9 : Int32) (S_r0 : (Nat → Int32)) (S_r1 : (Nat → Int32)) (S_r2 : (Nat → Int32)) (S_r3 : (Nat → Int32)) (S_r4 : (Nat → Int32)) (a1 : Int32) (z : Unit) (h : fX2_row4 a1 = some z) (ha0 : ¬ a1 = (0 : Int32)) (ha1 : ¬ a1 = (1 : Int32)) (ha2 : ¬ a1 = (2 : Int32)) (ha3 : ¬ a1 = (3 : Int32)) : Mt l yX2_row cX2_row 2 (some (.array .int)) 0 0 D cI cB cS (sW cI uS aS S_x5 S_x6 S_x7 S_x8 S_x9 S_r0 S_r1 S_r2 S_r3 S_r4) (sW cI uS aS S_x5 S_x6 S_x7 S_x8 S_x9 S_r0 S_r1 S_r2 S_r3 S_r4) [.ref uS, .int a1] (some (.ref (aS 4))) := by
  refine entryA (by decide +kernel) rfl (Nat.le_of_ble_eq_true rfl) (Or.inr ⟨_, rfl⟩) ?_
  intro p e s m below meth c A ls QQ R ar F hRet jP jD jS jl
  obtain ⟨hx, hb, hml, hown, hts, jK, hA, hf1, hf2⟩ := id F
  have jl : lv_has ls 2 [(0, .ref uS), (1, .int a1)] := jl
  unfold fX2_row4 at h
  refine lv_iload_n hx hb dX2_row_0 rfl (lv_at jl 1 rfl) ?_
  refine lv_tableOut (tgt := 52) hx hb dX2_row_1 (swNot 3 (by decide) (fun k hk => by rcases (by omega : k = 0 ∨ k = 1 ∨ k = 2 ∨ k = 3) with rfl | rfl | rfl | rfl <;> assumption)) (by decide) ?_
  refine lv_aload_n hx hb dX2_row_52 rfl (lv_at jl 0 rfl) ?_
  refine va_get (D := D) (ci := 2) (v := .ref (aS 4)) (C := RX2) (T := TX2) (N := 10) hx hb hts in2 hown jK.1 jP 0 rfl rfl 4 (by decide) (hts _ w_63) (fun _ h9 => h9) rfl dX2_row_53 ?_
  obtain rfl := Option.some.inj h
  exact hRet _ _ _ _ jP jD jS dX2_row_56
theorem okX2_clear : okV yX2_clear cX2_clear 1 none 0 := ⟨w_65, w_66, w_67, w_31, by decide, by decide, by decide +kernel⟩
def fX2_clear : Option (Int32 × Int32 × Int32 × Int32 × Int32) :=
  some ((0 : Int32), (50 : Int32), (6 : Int32), (1 : Int32), (5 : Int32))
set_option maxRecDepth 100000 in
set_option maxHeartbeats 4000000 in
theorem kX2_clear (l : Launch) (D : va_G) (cI cB cS : ClassId) (uS : Nat) (aS : Nat → Nat) (S_x5 : Int32) (S_x6 : Int32) (S_x7 : Int32) (S_x8 : Int32) (S_x9 : Int32) (S_r0 : (Nat → Int32)) (S_r1 : (Nat → Int32)) (S_r2 : (Nat → Int32)) (S_r3 : (Nat → Int32)) (S_r4 : (Nat → Int32)) (z : (Int32 × Int32 × Int32 × Int32 × Int32)) (h : fX2_clear = some z) : Mt l yX2_clear cX2_clear 1 none 0 0 D cI cB cS (sW cI uS aS S_x5 S_x6 S_x7 S_x8 S_x9 S_r0 S_r1 S_r2 S_r3 S_r4) (sW cI uS aS z.1 z.2.1 z.2.2.1 z.2.2.2.1 z.2.2.2.2 S_r0 S_r1 S_r2 S_r3 S_r4) [.ref uS] none := by
  refine entryV (by decide +kernel) rfl (Nat.le_of_ble_eq_true rfl) ?_
  intro p e s m below meth c A ls QQ R ar F hRet jP jD jS jl
  obtain ⟨hx, hb, hml, hown, hts, jK, hA, hf1, hf2⟩ := id F
  have jl : lv_has ls 1 [(0, .ref uS)] := jl
  unfold fX2_clear at h
  refine lv_aload_n hx hb dX2_clear_0 rfl (lv_at jl 0 rfl) ?_
  refine lv_iconst (v := (0 : Int32)) hx hb dX2_clear_1 (by decide) ?_
  refine va_put (D := D) (ci := 2) (v := .int (0 : Int32)) (ty := .int) (C := RX2) (T := TX2) (N := 10) hx hb hts in2 tyX2 tyX2_ok nmX2 hown jK.1 jP jD jS 0 rfl rfl 5 (by decide) (hts _ w_68) (fun _ h9 => h9) rfl (by decide +kernel) rfl rfl (Nat.le_of_ble_eq_true rfl) dX2_clear_2 (fun H locs jP jD jS => ?_)
  have jP : va_P D vwCl (sW cI uS aS (0 : Int32) S_x6 S_x7 S_x8 S_x9 S_r0 S_r1 S_r2 S_r3 S_r4) H := jP
  have jD : va_D A (sW cI uS aS (0 : Int32) S_x6 S_x7 S_x8 S_x9 S_r0 S_r1 S_r2 S_r3 S_r4) := jD
  refine lv_aload_n hx hb dX2_clear_5 rfl (lv_at jl 0 rfl) ?_
  refine lv_bipush (v := (50 : Int32)) hx hb dX2_clear_6 (by decide) ?_
  refine va_put (D := D) (ci := 2) (v := .int (50 : Int32)) (ty := .int) (C := RX2) (T := TX2) (N := 10) hx hb hts in2 tyX2 tyX2_ok nmX2 hown jK.1 jP jD jS 0 rfl rfl 6 (by decide) (hts _ w_69) (fun _ h9 => h9) rfl (by decide +kernel) rfl rfl (Nat.le_of_ble_eq_true rfl) dX2_clear_8 (fun H locs jP jD jS => ?_)
  have jP : va_P D vwCl (sW cI uS aS (0 : Int32) (50 : Int32) S_x7 S_x8 S_x9 S_r0 S_r1 S_r2 S_r3 S_r4) H := jP
  have jD : va_D A (sW cI uS aS (0 : Int32) (50 : Int32) S_x7 S_x8 S_x9 S_r0 S_r1 S_r2 S_r3 S_r4) := jD
  refine lv_aload_n hx hb dX2_clear_11 rfl (lv_at jl 0 rfl) ?_
  refine lv_bipush (v := (6 : Int32)) hx hb dX2_clear_12 (by decide) ?_
  refine va_put (D := D) (ci := 2) (v := .int (6 : Int32)) (ty := .int) (C := RX2) (T := TX2) (N := 10) hx hb hts in2 tyX2 tyX2_ok nmX2 hown jK.1 jP jD jS 0 rfl rfl 7 (by decide) (hts _ w_70) (fun _ h9 => h9) rfl (by decide +kernel) rfl rfl (Nat.le_of_ble_eq_true rfl) dX2_clear_14 (fun H locs jP jD jS => ?_)
  have jP : va_P D vwCl (sW cI uS aS (0 : Int32) (50 : Int32) (6 : Int32) S_x8 S_x9 S_r0 S_r1 S_r2 S_r3 S_r4) H := jP
  have jD : va_D A (sW cI uS aS (0 : Int32) (50 : Int32) (6 : Int32) S_x8 S_x9 S_r0 S_r1 S_r2 S_r3 S_r4) := jD
  refine lv_aload_n hx hb dX2_clear_17 rfl (lv_at jl 0 rfl) ?_
  refine lv_iconst (v := (1 : Int32)) hx hb dX2_clear_18 (by decide) ?_
  refine va_put (D := D) (ci := 2) (v := .int (1 : Int32)) (ty := .int) (C := RX2) (T := TX2) (N := 10) hx hb hts in2 tyX2 tyX2_ok nmX2 hown jK.1 jP jD jS 0 rfl rfl 8 (by decide) (hts _ w_71) (fun _ h9 => h9) rfl (by decide +kernel) rfl rfl (Nat.le_of_ble_eq_true rfl) dX2_clear_19 (fun H locs jP jD jS => ?_)
  have jP : va_P D vwCl (sW cI uS aS (0 : Int32) (50 : Int32) (6 : Int32) (1 : Int32) S_x9 S_r0 S_r1 S_r2 S_r3 S_r4) H := jP
  have jD : va_D A (sW cI uS aS (0 : Int32) (50 : Int32) (6 : Int32) (1 : Int32) S_x9 S_r0 S_r1 S_r2 S_r3 S_r4) := jD
  refine lv_aload_n hx hb dX2_clear_22 rfl (lv_at jl 0 rfl) ?_
  refine lv_iconst (v := (5 : Int32)) hx hb dX2_clear_23 (by decide) ?_
  refine va_put (D := D) (ci := 2) (v := .int (5 : Int32)) (ty := .int) (C := RX2) (T := TX2) (N := 10) hx hb hts in2 tyX2 tyX2_ok nmX2 hown jK.1 jP jD jS 0 rfl rfl 9 (by decide) (hts _ w_72) (fun _ h9 => h9) rfl (by decide +kernel) rfl rfl (Nat.le_of_ble_eq_true rfl) dX2_clear_24 (fun H locs jP jD jS => ?_)
  have jP : va_P D vwCl (sW cI uS aS (0 : Int32) (50 : Int32) (6 : Int32) (1 : Int32) (5 : Int32) S_r0 S_r1 S_r2 S_r3 S_r4) H := jP
  have jD : va_D A (sW cI uS aS (0 : Int32) (50 : Int32) (6 : Int32) (1 : Int32) (5 : Int32) S_r0 S_r1 S_r2 S_r3 S_r4) := jD
  obtain rfl := Option.some.inj h
  exact hRet _ _ _ _ jP jD jS dX2_clear_27
theorem okX2_copy : okV yX2_copy cX2_copy 3 none 1 := ⟨w_603, w_604, w_605, w_31, by decide, by decide, by decide +kernel⟩
def fX2_copy (O_r0 : (Nat → Int32)) (O_r1 : (Nat → Int32)) (O_r2 : (Nat → Int32)) (O_r3 : (Nat → Int32)) (O_r4 : (Nat → Int32)) (O_x5 : Int32) (O_x6 : Int32) (O_x7 : Int32) (O_x8 : Int32) (O_x9 : Int32) (S_r0 : (Nat → Int32)) (S_r1 : (Nat → Int32)) (S_r2 : (Nat → Int32)) (S_r3 : (Nat → Int32)) (S_r4 : (Nat → Int32)) : Option ((Nat → Int32) × (Nat → Int32) × (Nat → Int32) × (Nat → Int32) × (Nat → Int32) × Int32 × Int32 × Int32 × Int32 × Int32) :=
  bd (fX2_row0 (0 : Int32)) (fun t1 => bd (fX2_row0 (0 : Int32)) (fun t3 => bd (fX2_row1 (1 : Int32)) (fun t5 => bd (fX2_row1 (1 : Int32)) (fun t7 => bd (fX2_row2 (2 : Int32)) (fun t9 => bd (fX2_row2 (2 : Int32)) (fun t11 => bd (fX2_row3 (3 : Int32)) (fun t13 => bd (fX2_row3 (3 : Int32)) (fun t15 => bd (fX2_row4 (4 : Int32)) (fun t17 => bd (fX2_row4 (4 : Int32)) (fun t19 => some ((va_cpy O_r0 S_r0 (0 : Int32).toNatClampNeg (0 : Int32).toNatClampNeg (8 : Int32).toNatClampNeg), (va_cpy O_r1 S_r1 (0 : Int32).toNatClampNeg (0 : Int32).toNatClampNeg (8 : Int32).toNatClampNeg), (va_cpy O_r2 S_r2 (0 : Int32).toNatClampNeg (0 : Int32).toNatClampNeg (8 : Int32).toNatClampNeg), (va_cpy O_r3 S_r3 (0 : Int32).toNatClampNeg (0 : Int32).toNatClampNeg (8 : Int32).toNatClampNeg), (va_cpy O_r4 S_r4 (0 : Int32).toNatClampNeg (0 : Int32).toNatClampNeg (8 : Int32).toNatClampNeg), O_x5, O_x6, O_x7, O_x8, O_x9)))))))))))
set_option maxRecDepth 100000 in
set_option maxHeartbeats 4000000 in
theorem kX2_copy (l : Launch) (D : va_G) (cI cB cS : ClassId) (uS : Nat) (aS : Nat → Nat) (S_x5 : Int32) (S_x6 : Int32) (S_x7 : Int32) (S_x8 : Int32) (S_x9 : Int32) (S_r0 : (Nat → Int32)) (S_r1 : (Nat → Int32)) (S_r2 : (Nat → Int32)) (S_r3 : (Nat → Int32)) (S_r4 : (Nat → Int32)) (uO : Nat) (aO : Nat → Nat) (O_x5 : Int32) (O_x6 : Int32) (O_x7 : Int32) (O_x8 : Int32) (O_x9 : Int32) (O_r0 : (Nat → Int32)) (O_r1 : (Nat → Int32)) (O_r2 : (Nat → Int32)) (O_r3 : (Nat → Int32)) (O_r4 : (Nat → Int32)) (z : ((Nat → Int32) × (Nat → Int32) × (Nat → Int32) × (Nat → Int32) × (Nat → Int32) × Int32 × Int32 × Int32 × Int32 × Int32)) (h : fX2_copy O_r0 O_r1 O_r2 O_r3 O_r4 O_x5 O_x6 O_x7 O_x8 O_x9 S_r0 S_r1 S_r2 S_r3 S_r4 = some z) : Mt l yX2_copy cX2_copy 3 none 1 60 D cI cB cS (sW cI uS aS S_x5 S_x6 S_x7 S_x8 S_x9 S_r0 S_r1 S_r2 S_r3 S_r4 ++ (sW cI uO aO O_x5 O_x6 O_x7 O_x8 O_x9 O_r0 O_r1 O_r2 O_r3 O_r4)) (sW cI uS aS z.2.2.2.2.2.1 z.2.2.2.2.2.2.1 z.2.2.2.2.2.2.2.1 z.2.2.2.2.2.2.2.2.1 z.2.2.2.2.2.2.2.2.2 z.1 z.2.1 z.2.2.1 z.2.2.2.1 z.2.2.2.2.1 ++ (sW cI uO aO O_x5 O_x6 O_x7 O_x8 O_x9 O_r0 O_r1 O_r2 O_r3 O_r4)) [.ref uS, .ref uO] none := by
  refine entryV (by decide +kernel) rfl (Nat.le_of_ble_eq_true rfl) ?_
  intro p e s m below meth c A ls QQ R ar F hRet jP jD jS jl
  obtain ⟨hx, hb, hml, hown, hts, jK, hA, hf1, hf2⟩ := id F
  have jl : lv_has ls 3 [(0, .ref uS), (1, .ref uO)] := jl
  unfold fX2_copy at h
  refine lv_iconst (v := (0 : Int32)) hx hb dX2_copy_0 (by decide) ?_
  refine lv_istore_n (lv' := [(2, .int (0 : Int32)), (0, .ref uS), (1, .ref uO)]) hx hb dX2_copy_1 rfl jl (by decide) rfl (fun ls jl => ?_)
  refine lv_iload_n hx hb dX2_copy_2 rfl (lv_at jl 0 rfl) ?_
  refine lv_iconst (v := (4 : Int32)) hx hb dX2_copy_3 (by decide) ?_
  refine lv_icmp_gt (tgt := 30) hx hb dX2_copy_4 (by decide) (fun q => absurd q (by decide)) (fun _ => ?_)
  refine lv_aload_n hx hb dX2_copy_7 rfl (lv_at jl 2 rfl) ?_
  refine lv_iload_n hx hb dX2_copy_8 rfl (lv_at jl 0 rfl) ?_
  obtain ⟨t1, hc2, h⟩ := bd_some h
  refine callP (wc := (sW cI uO aO O_x5 O_x6 O_x7 O_x8 O_x9 O_r0 O_r1 O_r2 O_r3 O_r4)) (wr := (sW cI uS aS S_x5 S_x6 S_x7 S_x8 S_x9 S_r0 S_r1 S_r2 S_r3 S_r4)) (w1 := (sW cI uO aO O_x5 O_x6 O_x7 O_x8 O_x9 O_r0 O_r1 O_r2 O_r3 O_r4)) (ws1 := (sW cI uS aS S_x5 S_x6 S_x7 S_x8 S_x9 S_r0 S_r1 S_r2 S_r3 S_r4 ++ (sW cI uO aO O_x5 O_x6 O_x7 O_x8 O_x9 O_r0 O_r1 O_r2 O_r3 O_r4))) (As := [.int (0 : Int32)]) (rest := []) (st1 := [.ref (aO 0)]) 0 [6, 7, 8, 9, 10, 11] [0, 1, 2, 3, 4, 5] [0, 1, 2, 3, 4, 5, 6, 7, 8, 9, 10, 11] F (kX2_row0 l D cI cB cS uO aO O_x5 O_x6 O_x7 O_x8 O_x9 O_r0 O_r1 O_r2 O_r3 O_r4 (0 : Int32) _ hc2 rfl) okX2_row w_610 (by decide) (by decide) ⟨Nat.zero_le _, Nat.zero_le _⟩ rfl rfl rfl jP jD jS rfl jl.1 rfl rfl (Nat.le_of_ble_eq_true rfl) dX2_copy_9 rfl rfl (by decide) (by decide) (by decide) rfl (by decide) (fun H locs jP jD jS => ?_)
  refine lv_iconst (v := (0 : Int32)) hx hb dX2_copy_12 (by decide) ?_
  refine lv_aload_n hx hb dX2_copy_13 rfl (lv_at jl 1 rfl) ?_
  refine lv_iload_n hx hb dX2_copy_14 rfl (lv_at jl 0 rfl) ?_
  obtain ⟨t3, hc4, h⟩ := bd_some h
  refine callP (wc := (sW cI uS aS S_x5 S_x6 S_x7 S_x8 S_x9 S_r0 S_r1 S_r2 S_r3 S_r4)) (wr := (sW cI uO aO O_x5 O_x6 O_x7 O_x8 O_x9 O_r0 O_r1 O_r2 O_r3 O_r4)) (w1 := (sW cI uS aS S_x5 S_x6 S_x7 S_x8 S_x9 S_r0 S_r1 S_r2 S_r3 S_r4)) (ws1 := (sW cI uS aS S_x5 S_x6 S_x7 S_x8 S_x9 S_r0 S_r1 S_r2 S_r3 S_r4 ++ (sW cI uO aO O_x5 O_x6 O_x7 O_x8 O_x9 O_r0 O_r1 O_r2 O_r3 O_r4))) (As := [.int (0 : Int32)]) (rest := [.int (0 : Int32), .ref (aO 0)]) (st1 := [.ref (aS 0), .int (0 : Int32), .ref (aO 0)]) 0 [0, 1, 2, 3, 4, 5] [6, 7, 8, 9, 10, 11] [6, 7, 8, 9, 10, 11, 0, 1, 2, 3, 4, 5] F (kX2_row0 l D cI cB cS uS aS S_x5 S_x6 S_x7 S_x8 S_x9 S_r0 S_r1 S_r2 S_r3 S_r4 (0 : Int32) _ hc4 rfl) okX2_row w_610 (by decide) (by decide) ⟨Nat.zero_le _, Nat.zero_le _⟩ rfl rfl rfl jP jD jS rfl jl.1 rfl rfl (Nat.le_of_ble_eq_true rfl) dX2_copy_15 rfl rfl (by decide) (by decide) (by decide) rfl (by decide) (fun H locs jP jD jS => ?_)
  refine lv_iconst (v := (0 : Int32)) hx hb dX2_copy_18 (by decide) ?_
  refine lv_bipush (v := (8 : Int32)) hx hb dX2_copy_19 (by decide) ?_
  refine va_copyi (f := O_r0) (g := S_r0) hx hb (hml.trans jl.1.symm) hown (hts _ w_606) (hts _ w_607) (hts _ w_608) (hts _ w_609) jK.1 jP jD jS 7 1 0 0 rfl rfl rfl rfl rfl (by decide) (by decide) (by decide) (by decide) (by decide) (fun _ _ => rfl) (Nat.le_trans (by decide) hf1) (Nat.le_trans (Nat.le_of_ble_eq_true rfl) hf2) dX2_copy_21 (fun H locs jP jD jS => ?_)
  have jP : va_P D vwCl (sW cI uS aS S_x5 S_x6 S_x7 S_x8 S_x9 (va_cpy O_r0 S_r0 (0 : Int32).toNatClampNeg (0 : Int32).toNatClampNeg (8 : Int32).toNatClampNeg) S_r1 S_r2 S_r3 S_r4 ++ (sW cI uO aO O_x5 O_x6 O_x7 O_x8 O_x9 O_r0 O_r1 O_r2 O_r3 O_r4)) H := jP
  have jD : va_D A (sW cI uS aS S_x5 S_x6 S_x7 S_x8 S_x9 (va_cpy O_r0 S_r0 (0 : Int32).toNatClampNeg (0 : Int32).toNatClampNeg (8 : Int32).toNatClampNeg) S_r1 S_r2 S_r3 S_r4 ++ (sW cI uO aO O_x5 O_x6 O_x7 O_x8 O_x9 O_r0 O_r1 O_r2 O_r3 O_r4)) := jD
  refine lv_iinc (v := (1 : Int32)) (lv' := [(2, .int (1 : Int32)), (0, .ref uS), (1, .ref uO)]) hx hb dX2_copy_24 jl (k := 0) rfl (by decide) (by decide) rfl (fun ls jl => ?_)
  refine lv_goto (tgt := 2) hx hb dX2_copy_27 (by decide) ?_
  refine lv_iload_n hx hb dX2_copy_2 rfl (lv_at jl 0 rfl) ?_
  refine lv_iconst (v := (4 : Int32)) hx hb dX2_copy_3 (by decide) ?_
  refine lv_icmp_gt (tgt := 30) hx hb dX2_copy_4 (by decide) (fun q => absurd q (by decide)) (fun _ => ?_)
  refine lv_aload_n hx hb dX2_copy_7 rfl (lv_at jl 2 rfl) ?_
  refine lv_iload_n hx hb dX2_copy_8 rfl (lv_at jl 0 rfl) ?_
  obtain ⟨t5, hc6, h⟩ := bd_some h
  refine callP (wc := (sW cI uO aO O_x5 O_x6 O_x7 O_x8 O_x9 O_r0 O_r1 O_r2 O_r3 O_r4)) (wr := (sW cI uS aS S_x5 S_x6 S_x7 S_x8 S_x9 (va_cpy O_r0 S_r0 (0 : Int32).toNatClampNeg (0 : Int32).toNatClampNeg (8 : Int32).toNatClampNeg) S_r1 S_r2 S_r3 S_r4)) (w1 := (sW cI uO aO O_x5 O_x6 O_x7 O_x8 O_x9 O_r0 O_r1 O_r2 O_r3 O_r4)) (ws1 := (sW cI uS aS S_x5 S_x6 S_x7 S_x8 S_x9 (va_cpy O_r0 S_r0 (0 : Int32).toNatClampNeg (0 : Int32).toNatClampNeg (8 : Int32).toNatClampNeg) S_r1 S_r2 S_r3 S_r4 ++ (sW cI uO aO O_x5 O_x6 O_x7 O_x8 O_x9 O_r0 O_r1 O_r2 O_r3 O_r4))) (As := [.int (1 : Int32)]) (rest := []) (st1 := [.ref (aO 1)]) 0 [6, 7, 8, 9, 10, 11] [0, 1, 2, 3, 4, 5] [0, 1, 2, 3, 4, 5, 6, 7, 8, 9, 10, 11] F (kX2_row1 l D cI cB cS uO aO O_x5 O_x6 O_x7 O_x8 O_x9 O_r0 O_r1 O_r2 O_r3 O_r4 (1 : Int32) _ hc6 rfl) okX2_row w_610 (by decide) (by decide) ⟨Nat.zero_le _, Nat.zero_le _⟩ rfl rfl rfl jP jD jS rfl jl.1 rfl rfl (Nat.le_of_ble_eq_true rfl) dX2_copy_9 rfl rfl (by decide) (by decide) (by decide) rfl (by decide) (fun H locs jP jD jS => ?_)
  refine lv_iconst (v := (0 : Int32)) hx hb dX2_copy_12 (by decide) ?_
  refine lv_aload_n hx hb dX2_copy_13 rfl (lv_at jl 1 rfl) ?_
  refine lv_iload_n hx hb dX2_copy_14 rfl (lv_at jl 0 rfl) ?_
  obtain ⟨t7, hc8, h⟩ := bd_some h
  refine callP (wc := (sW cI uS aS S_x5 S_x6 S_x7 S_x8 S_x9 (va_cpy O_r0 S_r0 (0 : Int32).toNatClampNeg (0 : Int32).toNatClampNeg (8 : Int32).toNatClampNeg) S_r1 S_r2 S_r3 S_r4)) (wr := (sW cI uO aO O_x5 O_x6 O_x7 O_x8 O_x9 O_r0 O_r1 O_r2 O_r3 O_r4)) (w1 := (sW cI uS aS S_x5 S_x6 S_x7 S_x8 S_x9 (va_cpy O_r0 S_r0 (0 : Int32).toNatClampNeg (0 : Int32).toNatClampNeg (8 : Int32).toNatClampNeg) S_r1 S_r2 S_r3 S_r4)) (ws1 := (sW cI uS aS S_x5 S_x6 S_x7 S_x8 S_x9 (va_cpy O_r0 S_r0 (0 : Int32).toNatClampNeg (0 : Int32).toNatClampNeg (8 : Int32).toNatClampNeg) S_r1 S_r2 S_r3 S_r4 ++ (sW cI uO aO O_x5 O_x6 O_x7 O_x8 O_x9 O_r0 O_r1 O_r2 O_r3 O_r4))) (As := [.int (1 : Int32)]) (rest := [.int (0 : Int32), .ref (aO 1)]) (st1 := [.ref (aS 1), .int (0 : Int32), .ref (aO 1)]) 0 [0, 1, 2, 3, 4, 5] [6, 7, 8, 9, 10, 11] [6, 7, 8, 9, 10, 11, 0, 1, 2, 3, 4, 5] F (kX2_row1 l D cI cB cS uS aS S_x5 S_x6 S_x7 S_x8 S_x9 (va_cpy O_r0 S_r0 (0 : Int32).toNatClampNeg (0 : Int32).toNatClampNeg (8 : Int32).toNatClampNeg) S_r1 S_r2 S_r3 S_r4 (1 : Int32) _ hc8 rfl) okX2_row w_610 (by decide) (by decide) ⟨Nat.zero_le _, Nat.zero_le _⟩ rfl rfl rfl jP jD jS rfl jl.1 rfl rfl (Nat.le_of_ble_eq_true rfl) dX2_copy_15 rfl rfl (by decide) (by decide) (by decide) rfl (by decide) (fun H locs jP jD jS => ?_)
  refine lv_iconst (v := (0 : Int32)) hx hb dX2_copy_18 (by decide) ?_
  refine lv_bipush (v := (8 : Int32)) hx hb dX2_copy_19 (by decide) ?_
  refine va_copyi (f := O_r1) (g := S_r1) hx hb (hml.trans jl.1.symm) hown (hts _ w_606) (hts _ w_607) (hts _ w_608) (hts _ w_609) jK.1 jP jD jS 8 2 0 0 rfl rfl rfl rfl rfl (by decide) (by decide) (by decide) (by decide) (by decide) (fun _ _ => rfl) (Nat.le_trans (by decide) hf1) (Nat.le_trans (Nat.le_of_ble_eq_true rfl) hf2) dX2_copy_21 (fun H locs jP jD jS => ?_)
  have jP : va_P D vwCl (sW cI uS aS S_x5 S_x6 S_x7 S_x8 S_x9 (va_cpy O_r0 S_r0 (0 : Int32).toNatClampNeg (0 : Int32).toNatClampNeg (8 : Int32).toNatClampNeg) (va_cpy O_r1 S_r1 (0 : Int32).toNatClampNeg (0 : Int32).toNatClampNeg (8 : Int32).toNatClampNeg) S_r2 S_r3 S_r4 ++ (sW cI uO aO O_x5 O_x6 O_x7 O_x8 O_x9 O_r0 O_r1 O_r2 O_r3 O_r4)) H := jP
  have jD : va_D A (sW cI uS aS S_x5 S_x6 S_x7 S_x8 S_x9 (va_cpy O_r0 S_r0 (0 : Int32).toNatClampNeg (0 : Int32).toNatClampNeg (8 : Int32).toNatClampNeg) (va_cpy O_r1 S_r1 (0 : Int32).toNatClampNeg (0 : Int32).toNatClampNeg (8 : Int32).toNatClampNeg) S_r2 S_r3 S_r4 ++ (sW cI uO aO O_x5 O_x6 O_x7 O_x8 O_x9 O_r0 O_r1 O_r2 O_r3 O_r4)) := jD
  refine lv_iinc (v := (2 : Int32)) (lv' := [(2, .int (2 : Int32)), (0, .ref uS), (1, .ref uO)]) hx hb dX2_copy_24 jl (k := 0) rfl (by decide) (by decide) rfl (fun ls jl => ?_)
  refine lv_goto (tgt := 2) hx hb dX2_copy_27 (by decide) ?_
  refine lv_iload_n hx hb dX2_copy_2 rfl (lv_at jl 0 rfl) ?_
  refine lv_iconst (v := (4 : Int32)) hx hb dX2_copy_3 (by decide) ?_
  refine lv_icmp_gt (tgt := 30) hx hb dX2_copy_4 (by decide) (fun q => absurd q (by decide)) (fun _ => ?_)
  refine lv_aload_n hx hb dX2_copy_7 rfl (lv_at jl 2 rfl) ?_
  refine lv_iload_n hx hb dX2_copy_8 rfl (lv_at jl 0 rfl) ?_
  obtain ⟨t9, hc10, h⟩ := bd_some h
  refine callP (wc := (sW cI uO aO O_x5 O_x6 O_x7 O_x8 O_x9 O_r0 O_r1 O_r2 O_r3 O_r4)) (wr := (sW cI uS aS S_x5 S_x6 S_x7 S_x8 S_x9 (va_cpy O_r0 S_r0 (0 : Int32).toNatClampNeg (0 : Int32).toNatClampNeg (8 : Int32).toNatClampNeg) (va_cpy O_r1 S_r1 (0 : Int32).toNatClampNeg (0 : Int32).toNatClampNeg (8 : Int32).toNatClampNeg) S_r2 S_r3 S_r4)) (w1 := (sW cI uO aO O_x5 O_x6 O_x7 O_x8 O_x9 O_r0 O_r1 O_r2 O_r3 O_r4)) (ws1 := (sW cI uS aS S_x5 S_x6 S_x7 S_x8 S_x9 (va_cpy O_r0 S_r0 (0 : Int32).toNatClampNeg (0 : Int32).toNatClampNeg (8 : Int32).toNatClampNeg) (va_cpy O_r1 S_r1 (0 : Int32).toNatClampNeg (0 : Int32).toNatClampNeg (8 : Int32).toNatClampNeg) S_r2 S_r3 S_r4 ++ (sW cI uO aO O_x5 O_x6 O_x7 O_x8 O_x9 O_r0 O_r1 O_r2 O_r3 O_r4))) (As := [.int (2 : Int32)]) (rest := []) (st1 := [.ref (aO 2)]) 0 [6, 7, 8, 9, 10, 11] [0, 1, 2, 3, 4, 5] [0, 1, 2, 3, 4, 5, 6, 7, 8, 9, 10, 11] F (kX2_row2 l D cI cB cS uO aO O_x5 O_x6 O_x7 O_x8 O_x9 O_r0 O_r1 O_r2 O_r3 O_r4 (2 : Int32) _ hc10 rfl) okX2_row w_610 (by decide) (by decide) ⟨Nat.zero_le _, Nat.zero_le _⟩ rfl rfl rfl jP jD jS rfl jl.1 rfl rfl (Nat.le_of_ble_eq_true rfl) dX2_copy_9 rfl rfl (by decide) (by decide) (by decide) rfl (by decide) (fun H locs jP jD jS => ?_)
  refine lv_iconst (v := (0 : Int32)) hx hb dX2_copy_12 (by decide) ?_
  refine lv_aload_n hx hb dX2_copy_13 rfl (lv_at jl 1 rfl) ?_
  refine lv_iload_n hx hb dX2_copy_14 rfl (lv_at jl 0 rfl) ?_
  obtain ⟨t11, hc12, h⟩ := bd_some h
  refine callP (wc := (sW cI uS aS S_x5 S_x6 S_x7 S_x8 S_x9 (va_cpy O_r0 S_r0 (0 : Int32).toNatClampNeg (0 : Int32).toNatClampNeg (8 : Int32).toNatClampNeg) (va_cpy O_r1 S_r1 (0 : Int32).toNatClampNeg (0 : Int32).toNatClampNeg (8 : Int32).toNatClampNeg) S_r2 S_r3 S_r4)) (wr := (sW cI uO aO O_x5 O_x6 O_x7 O_x8 O_x9 O_r0 O_r1 O_r2 O_r3 O_r4)) (w1 := (sW cI uS aS S_x5 S_x6 S_x7 S_x8 S_x9 (va_cpy O_r0 S_r0 (0 : Int32).toNatClampNeg (0 : Int32).toNatClampNeg (8 : Int32).toNatClampNeg) (va_cpy O_r1 S_r1 (0 : Int32).toNatClampNeg (0 : Int32).toNatClampNeg (8 : Int32).toNatClampNeg) S_r2 S_r3 S_r4)) (ws1 := (sW cI uS aS S_x5 S_x6 S_x7 S_x8 S_x9 (va_cpy O_r0 S_r0 (0 : Int32).toNatClampNeg (0 : Int32).toNatClampNeg (8 : Int32).toNatClampNeg) (va_cpy O_r1 S_r1 (0 : Int32).toNatClampNeg (0 : Int32).toNatClampNeg (8 : Int32).toNatClampNeg) S_r2 S_r3 S_r4 ++ (sW cI uO aO O_x5 O_x6 O_x7 O_x8 O_x9 O_r0 O_r1 O_r2 O_r3 O_r4))) (As := [.int (2 : Int32)]) (rest := [.int (0 : Int32), .ref (aO 2)]) (st1 := [.ref (aS 2), .int (0 : Int32), .ref (aO 2)]) 0 [0, 1, 2, 3, 4, 5] [6, 7, 8, 9, 10, 11] [6, 7, 8, 9, 10, 11, 0, 1, 2, 3, 4, 5] F (kX2_row2 l D cI cB cS uS aS S_x5 S_x6 S_x7 S_x8 S_x9 (va_cpy O_r0 S_r0 (0 : Int32).toNatClampNeg (0 : Int32).toNatClampNeg (8 : Int32).toNatClampNeg) (va_cpy O_r1 S_r1 (0 : Int32).toNatClampNeg (0 : Int32).toNatClampNeg (8 : Int32).toNatClampNeg) S_r2 S_r3 S_r4 (2 : Int32) _ hc12 rfl) okX2_row w_610 (by decide) (by decide) ⟨Nat.zero_le _, Nat.zero_le _⟩ rfl rfl rfl jP jD jS rfl jl.1 rfl rfl (Nat.le_of_ble_eq_true rfl) dX2_copy_15 rfl rfl (by decide) (by decide) (by decide) rfl (by decide) (fun H locs jP jD jS => ?_)
  refine lv_iconst (v := (0 : Int32)) hx hb dX2_copy_18 (by decide) ?_
  refine lv_bipush (v := (8 : Int32)) hx hb dX2_copy_19 (by decide) ?_
  refine va_copyi (f := O_r2) (g := S_r2) hx hb (hml.trans jl.1.symm) hown (hts _ w_606) (hts _ w_607) (hts _ w_608) (hts _ w_609) jK.1 jP jD jS 9 3 0 0 rfl rfl rfl rfl rfl (by decide) (by decide) (by decide) (by decide) (by decide) (fun _ _ => rfl) (Nat.le_trans (by decide) hf1) (Nat.le_trans (Nat.le_of_ble_eq_true rfl) hf2) dX2_copy_21 (fun H locs jP jD jS => ?_)
  have jP : va_P D vwCl (sW cI uS aS S_x5 S_x6 S_x7 S_x8 S_x9 (va_cpy O_r0 S_r0 (0 : Int32).toNatClampNeg (0 : Int32).toNatClampNeg (8 : Int32).toNatClampNeg) (va_cpy O_r1 S_r1 (0 : Int32).toNatClampNeg (0 : Int32).toNatClampNeg (8 : Int32).toNatClampNeg) (va_cpy O_r2 S_r2 (0 : Int32).toNatClampNeg (0 : Int32).toNatClampNeg (8 : Int32).toNatClampNeg) S_r3 S_r4 ++ (sW cI uO aO O_x5 O_x6 O_x7 O_x8 O_x9 O_r0 O_r1 O_r2 O_r3 O_r4)) H := jP
  have jD : va_D A (sW cI uS aS S_x5 S_x6 S_x7 S_x8 S_x9 (va_cpy O_r0 S_r0 (0 : Int32).toNatClampNeg (0 : Int32).toNatClampNeg (8 : Int32).toNatClampNeg) (va_cpy O_r1 S_r1 (0 : Int32).toNatClampNeg (0 : Int32).toNatClampNeg (8 : Int32).toNatClampNeg) (va_cpy O_r2 S_r2 (0 : Int32).toNatClampNeg (0 : Int32).toNatClampNeg (8 : Int32).toNatClampNeg) S_r3 S_r4 ++ (sW cI uO aO O_x5 O_x6 O_x7 O_x8 O_x9 O_r0 O_r1 O_r2 O_r3 O_r4)) := jD
  refine lv_iinc (v := (3 : Int32)) (lv' := [(2, .int (3 : Int32)), (0, .ref uS), (1, .ref uO)]) hx hb dX2_copy_24 jl (k := 0) rfl (by decide) (by decide) rfl (fun ls jl => ?_)
  refine lv_goto (tgt := 2) hx hb dX2_copy_27 (by decide) ?_
  refine lv_iload_n hx hb dX2_copy_2 rfl (lv_at jl 0 rfl) ?_
  refine lv_iconst (v := (4 : Int32)) hx hb dX2_copy_3 (by decide) ?_
  refine lv_icmp_gt (tgt := 30) hx hb dX2_copy_4 (by decide) (fun q => absurd q (by decide)) (fun _ => ?_)
  refine lv_aload_n hx hb dX2_copy_7 rfl (lv_at jl 2 rfl) ?_
  refine lv_iload_n hx hb dX2_copy_8 rfl (lv_at jl 0 rfl) ?_
  obtain ⟨t13, hc14, h⟩ := bd_some h
  refine callP (wc := (sW cI uO aO O_x5 O_x6 O_x7 O_x8 O_x9 O_r0 O_r1 O_r2 O_r3 O_r4)) (wr := (sW cI uS aS S_x5 S_x6 S_x7 S_x8 S_x9 (va_cpy O_r0 S_r0 (0 : Int32).toNatClampNeg (0 : Int32).toNatClampNeg (8 : Int32).toNatClampNeg) (va_cpy O_r1 S_r1 (0 : Int32).toNatClampNeg (0 : Int32).toNatClampNeg (8 : Int32).toNatClampNeg) (va_cpy O_r2 S_r2 (0 : Int32).toNatClampNeg (0 : Int32).toNatClampNeg (8 : Int32).toNatClampNeg) S_r3 S_r4)) (w1 := (sW cI uO aO O_x5 O_x6 O_x7 O_x8 O_x9 O_r0 O_r1 O_r2 O_r3 O_r4)) (ws1 := (sW cI uS aS S_x5 S_x6 S_x7 S_x8 S_x9 (va_cpy O_r0 S_r0 (0 : Int32).toNatClampNeg (0 : Int32).toNatClampNeg (8 : Int32).toNatClampNeg) (va_cpy O_r1 S_r1 (0 : Int32).toNatClampNeg (0 : Int32).toNatClampNeg (8 : Int32).toNatClampNeg) (va_cpy O_r2 S_r2 (0 : Int32).toNatClampNeg (0 : Int32).toNatClampNeg (8 : Int32).toNatClampNeg) S_r3 S_r4 ++ (sW cI uO aO O_x5 O_x6 O_x7 O_x8 O_x9 O_r0 O_r1 O_r2 O_r3 O_r4))) (As := [.int (3 : Int32)]) (rest := []) (st1 := [.ref (aO 3)]) 0 [6, 7, 8, 9, 10, 11] [0, 1, 2, 3, 4, 5] [0, 1, 2, 3, 4, 5, 6, 7, 8, 9, 10, 11] F (kX2_row3 l D cI cB cS uO aO O_x5 O_x6 O_x7 O_x8 O_x9 O_r0 O_r1 O_r2 O_r3 O_r4 (3 : Int32) _ hc14 rfl) okX2_row w_610 (by decide) (by decide) ⟨Nat.zero_le _, Nat.zero_le _⟩ rfl rfl rfl jP jD jS rfl jl.1 rfl rfl (Nat.le_of_ble_eq_true rfl) dX2_copy_9 rfl rfl (by decide) (by decide) (by decide) rfl (by decide) (fun H locs jP jD jS => ?_)
  refine lv_iconst (v := (0 : Int32)) hx hb dX2_copy_12 (by decide) ?_
  refine lv_aload_n hx hb dX2_copy_13 rfl (lv_at jl 1 rfl) ?_
  refine lv_iload_n hx hb dX2_copy_14 rfl (lv_at jl 0 rfl) ?_
  obtain ⟨t15, hc16, h⟩ := bd_some h
  refine callP (wc := (sW cI uS aS S_x5 S_x6 S_x7 S_x8 S_x9 (va_cpy O_r0 S_r0 (0 : Int32).toNatClampNeg (0 : Int32).toNatClampNeg (8 : Int32).toNatClampNeg) (va_cpy O_r1 S_r1 (0 : Int32).toNatClampNeg (0 : Int32).toNatClampNeg (8 : Int32).toNatClampNeg) (va_cpy O_r2 S_r2 (0 : Int32).toNatClampNeg (0 : Int32).toNatClampNeg (8 : Int32).toNatClampNeg) S_r3 S_r4)) (wr := (sW cI uO aO O_x5 O_x6 O_x7 O_x8 O_x9 O_r0 O_r1 O_r2 O_r3 O_r4)) (w1 := (sW cI uS aS S_x5 S_x6 S_x7 S_x8 S_x9 (va_cpy O_r0 S_r0 (0 : Int32).toNatClampNeg (0 : Int32).toNatClampNeg (8 : Int32).toNatClampNeg) (va_cpy O_r1 S_r1 (0 : Int32).toNatClampNeg (0 : Int32).toNatClampNeg (8 : Int32).toNatClampNeg) (va_cpy O_r2 S_r2 (0 : Int32).toNatClampNeg (0 : Int32).toNatClampNeg (8 : Int32).toNatClampNeg) S_r3 S_r4)) (ws1 := (sW cI uS aS S_x5 S_x6 S_x7 S_x8 S_x9 (va_cpy O_r0 S_r0 (0 : Int32).toNatClampNeg (0 : Int32).toNatClampNeg (8 : Int32).toNatClampNeg) (va_cpy O_r1 S_r1 (0 : Int32).toNatClampNeg (0 : Int32).toNatClampNeg (8 : Int32).toNatClampNeg) (va_cpy O_r2 S_r2 (0 : Int32).toNatClampNeg (0 : Int32).toNatClampNeg (8 : Int32).toNatClampNeg) S_r3 S_r4 ++ (sW cI uO aO O_x5 O_x6 O_x7 O_x8 O_x9 O_r0 O_r1 O_r2 O_r3 O_r4))) (As := [.int (3 : Int32)]) (rest := [.int (0 : Int32), .ref (aO 3)]) (st1 := [.ref (aS 3), .int (0 : Int32), .ref (aO 3)]) 0 [0, 1, 2, 3, 4, 5] [6, 7, 8, 9, 10, 11] [6, 7, 8, 9, 10, 11, 0, 1, 2, 3, 4, 5] F (kX2_row3 l D cI cB cS uS aS S_x5 S_x6 S_x7 S_x8 S_x9 (va_cpy O_r0 S_r0 (0 : Int32).toNatClampNeg (0 : Int32).toNatClampNeg (8 : Int32).toNatClampNeg) (va_cpy O_r1 S_r1 (0 : Int32).toNatClampNeg (0 : Int32).toNatClampNeg (8 : Int32).toNatClampNeg) (va_cpy O_r2 S_r2 (0 : Int32).toNatClampNeg (0 : Int32).toNatClampNeg (8 : Int32).toNatClampNeg) S_r3 S_r4 (3 : Int32) _ hc16 rfl) okX2_row w_610 (by decide) (by decide) ⟨Nat.zero_le _, Nat.zero_le _⟩ rfl rfl rfl jP jD jS rfl jl.1 rfl rfl (Nat.le_of_ble_eq_true rfl) dX2_copy_15 rfl rfl (by decide) (by decide) (by decide) rfl (by decide) (fun H locs jP jD jS => ?_)
  refine lv_iconst (v := (0 : Int32)) hx hb dX2_copy_18 (by decide) ?_
  refine lv_bipush (v := (8 : Int32)) hx hb dX2_copy_19 (by decide) ?_
  refine va_copyi (f := O_r3) (g := S_r3) hx hb (hml.trans jl.1.symm) hown (hts _ w_606) (hts _ w_607) (hts _ w_608) (hts _ w_609) jK.1 jP jD jS 10 4 0 0 rfl rfl rfl rfl rfl (by decide) (by decide) (by decide) (by decide) (by decide) (fun _ _ => rfl) (Nat.le_trans (by decide) hf1) (Nat.le_trans (Nat.le_of_ble_eq_true rfl) hf2) dX2_copy_21 (fun H locs jP jD jS => ?_)
  have jP : va_P D vwCl (sW cI uS aS S_x5 S_x6 S_x7 S_x8 S_x9 (va_cpy O_r0 S_r0 (0 : Int32).toNatClampNeg (0 : Int32).toNatClampNeg (8 : Int32).toNatClampNeg) (va_cpy O_r1 S_r1 (0 : Int32).toNatClampNeg (0 : Int32).toNatClampNeg (8 : Int32).toNatClampNeg) (va_cpy O_r2 S_r2 (0 : Int32).toNatClampNeg (0 : Int32).toNatClampNeg (8 : Int32).toNatClampNeg) (va_cpy O_r3 S_r3 (0 : Int32).toNatClampNeg (0 : Int32).toNatClampNeg (8 : Int32).toNatClampNeg) S_r4 ++ (sW cI uO aO O_x5 O_x6 O_x7 O_x8 O_x9 O_r0 O_r1 O_r2 O_r3 O_r4)) H := jP
  have jD : va_D A (sW cI uS aS S_x5 S_x6 S_x7 S_x8 S_x9 (va_cpy O_r0 S_r0 (0 : Int32).toNatClampNeg (0 : Int32).toNatClampNeg (8 : Int32).toNatClampNeg) (va_cpy O_r1 S_r1 (0 : Int32).toNatClampNeg (0 : Int32).toNatClampNeg (8 : Int32).toNatClampNeg) (va_cpy O_r2 S_r2 (0 : Int32).toNatClampNeg (0 : Int32).toNatClampNeg (8 : Int32).toNatClampNeg) (va_cpy O_r3 S_r3 (0 : Int32).toNatClampNeg (0 : Int32).toNatClampNeg (8 : Int32).toNatClampNeg) S_r4 ++ (sW cI uO aO O_x5 O_x6 O_x7 O_x8 O_x9 O_r0 O_r1 O_r2 O_r3 O_r4)) := jD
  refine lv_iinc (v := (4 : Int32)) (lv' := [(2, .int (4 : Int32)), (0, .ref uS), (1, .ref uO)]) hx hb dX2_copy_24 jl (k := 0) rfl (by decide) (by decide) rfl (fun ls jl => ?_)
  refine lv_goto (tgt := 2) hx hb dX2_copy_27 (by decide) ?_
  refine lv_iload_n hx hb dX2_copy_2 rfl (lv_at jl 0 rfl) ?_
  refine lv_iconst (v := (4 : Int32)) hx hb dX2_copy_3 (by decide) ?_
  refine lv_icmp_gt (tgt := 30) hx hb dX2_copy_4 (by decide) (fun q => absurd q (by decide)) (fun _ => ?_)
  refine lv_aload_n hx hb dX2_copy_7 rfl (lv_at jl 2 rfl) ?_
  refine lv_iload_n hx hb dX2_copy_8 rfl (lv_at jl 0 rfl) ?_
  obtain ⟨t17, hc18, h⟩ := bd_some h
  refine callP (wc := (sW cI uO aO O_x5 O_x6 O_x7 O_x8 O_x9 O_r0 O_r1 O_r2 O_r3 O_r4)) (wr := (sW cI uS aS S_x5 S_x6 S_x7 S_x8 S_x9 (va_cpy O_r0 S_r0 (0 : Int32).toNatClampNeg (0 : Int32).toNatClampNeg (8 : Int32).toNatClampNeg) (va_cpy O_r1 S_r1 (0 : Int32).toNatClampNeg (0 : Int32).toNatClampNeg (8 : Int32).toNatClampNeg) (va_cpy O_r2 S_r2 (0 : Int32).toNatClampNeg (0 : Int32).toNatClampNeg (8 : Int32).toNatClampNeg) (va_cpy O_r3 S_r3 (0 : Int32).toNatClampNeg (0 : Int32).toNatClampNeg (8 : Int32).toNatClampNeg) S_r4)) (w1 := (sW cI uO aO O_x5 O_x6 O_x7 O_x8 O_x9 O_r0 O_r1 O_r2 O_r3 O_r4)) (ws1 := (sW cI uS aS S_x5 S_x6 S_x7 S_x8 S_x9 (va_cpy O_r0 S_r0 (0 : Int32).toNatClampNeg (0 : Int32).toNatClampNeg (8 : Int32).toNatClampNeg) (va_cpy O_r1 S_r1 (0 : Int32).toNatClampNeg (0 : Int32).toNatClampNeg (8 : Int32).toNatClampNeg) (va_cpy O_r2 S_r2 (0 : Int32).toNatClampNeg (0 : Int32).toNatClampNeg (8 : Int32).toNatClampNeg) (va_cpy O_r3 S_r3 (0 : Int32).toNatClampNeg (0 : Int32).toNatClampNeg (8 : Int32).toNatClampNeg) S_r4 ++ (sW cI uO aO O_x5 O_x6 O_x7 O_x8 O_x9 O_r0 O_r1 O_r2 O_r3 O_r4))) (As := [.int (4 : Int32)]) (rest := []) (st1 := [.ref (aO 4)]) 0 [6, 7, 8, 9, 10, 11] [0, 1, 2, 3, 4, 5] [0, 1, 2, 3, 4, 5, 6, 7, 8, 9, 10, 11] F (kX2_row4 l D cI cB cS uO aO O_x5 O_x6 O_x7 O_x8 O_x9 O_r0 O_r1 O_r2 O_r3 O_r4 (4 : Int32) _ hc18 (by decide) (by decide) (by decide) (by decide)) okX2_row w_610 (by decide) (by decide) ⟨Nat.zero_le _, Nat.zero_le _⟩ rfl rfl rfl jP jD jS rfl jl.1 rfl rfl (Nat.le_of_ble_eq_true rfl) dX2_copy_9 rfl rfl (by decide) (by decide) (by decide) rfl (by decide) (fun H locs jP jD jS => ?_)
  refine lv_iconst (v := (0 : Int32)) hx hb dX2_copy_12 (by decide) ?_
  refine lv_aload_n hx hb dX2_copy_13 rfl (lv_at jl 1 rfl) ?_
  refine lv_iload_n hx hb dX2_copy_14 rfl (lv_at jl 0 rfl) ?_
  obtain ⟨t19, hc20, h⟩ := bd_some h
  refine callP (wc := (sW cI uS aS S_x5 S_x6 S_x7 S_x8 S_x9 (va_cpy O_r0 S_r0 (0 : Int32).toNatClampNeg (0 : Int32).toNatClampNeg (8 : Int32).toNatClampNeg) (va_cpy O_r1 S_r1 (0 : Int32).toNatClampNeg (0 : Int32).toNatClampNeg (8 : Int32).toNatClampNeg) (va_cpy O_r2 S_r2 (0 : Int32).toNatClampNeg (0 : Int32).toNatClampNeg (8 : Int32).toNatClampNeg) (va_cpy O_r3 S_r3 (0 : Int32).toNatClampNeg (0 : Int32).toNatClampNeg (8 : Int32).toNatClampNeg) S_r4)) (wr := (sW cI uO aO O_x5 O_x6 O_x7 O_x8 O_x9 O_r0 O_r1 O_r2 O_r3 O_r4)) (w1 := (sW cI uS aS S_x5 S_x6 S_x7 S_x8 S_x9 (va_cpy O_r0 S_r0 (0 : Int32).toNatClampNeg (0 : Int32).toNatClampNeg (8 : Int32).toNatClampNeg) (va_cpy O_r1 S_r1 (0 : Int32).toNatClampNeg (0 : Int32).toNatClampNeg (8 : Int32).toNatClampNeg) (va_cpy O_r2 S_r2 (0 : Int32).toNatClampNeg (0 : Int32).toNatClampNeg (8 : Int32).toNatClampNeg) (va_cpy O_r3 S_r3 (0 : Int32).toNatClampNeg (0 : Int32).toNatClampNeg (8 : Int32).toNatClampNeg) S_r4)) (ws1 := (sW cI uS aS S_x5 S_x6 S_x7 S_x8 S_x9 (va_cpy O_r0 S_r0 (0 : Int32).toNatClampNeg (0 : Int32).toNatClampNeg (8 : Int32).toNatClampNeg) (va_cpy O_r1 S_r1 (0 : Int32).toNatClampNeg (0 : Int32).toNatClampNeg (8 : Int32).toNatClampNeg) (va_cpy O_r2 S_r2 (0 : Int32).toNatClampNeg (0 : Int32).toNatClampNeg (8 : Int32).toNatClampNeg) (va_cpy O_r3 S_r3 (0 : Int32).toNatClampNeg (0 : Int32).toNatClampNeg (8 : Int32).toNatClampNeg) S_r4 ++ (sW cI uO aO O_x5 O_x6 O_x7 O_x8 O_x9 O_r0 O_r1 O_r2 O_r3 O_r4))) (As := [.int (4 : Int32)]) (rest := [.int (0 : Int32), .ref (aO 4)]) (st1 := [.ref (aS 4), .int (0 : Int32), .ref (aO 4)]) 0 [0, 1, 2, 3, 4, 5] [6, 7, 8, 9, 10, 11] [6, 7, 8, 9, 10, 11, 0, 1, 2, 3, 4, 5] F (kX2_row4 l D cI cB cS uS aS S_x5 S_x6 S_x7 S_x8 S_x9 (va_cpy O_r0 S_r0 (0 : Int32).toNatClampNeg (0 : Int32).toNatClampNeg (8 : Int32).toNatClampNeg) (va_cpy O_r1 S_r1 (0 : Int32).toNatClampNeg (0 : Int32).toNatClampNeg (8 : Int32).toNatClampNeg) (va_cpy O_r2 S_r2 (0 : Int32).toNatClampNeg (0 : Int32).toNatClampNeg (8 : Int32).toNatClampNeg) (va_cpy O_r3 S_r3 (0 : Int32).toNatClampNeg (0 : Int32).toNatClampNeg (8 : Int32).toNatClampNeg) S_r4 (4 : Int32) _ hc20 (by decide) (by decide) (by decide) (by decide)) okX2_row w_610 (by decide) (by decide) ⟨Nat.zero_le _, Nat.zero_le _⟩ rfl rfl rfl jP jD jS rfl jl.1 rfl rfl (Nat.le_of_ble_eq_true rfl) dX2_copy_15 rfl rfl (by decide) (by decide) (by decide) rfl (by decide) (fun H locs jP jD jS => ?_)
  refine lv_iconst (v := (0 : Int32)) hx hb dX2_copy_18 (by decide) ?_
  refine lv_bipush (v := (8 : Int32)) hx hb dX2_copy_19 (by decide) ?_
  refine va_copyi (f := O_r4) (g := S_r4) hx hb (hml.trans jl.1.symm) hown (hts _ w_606) (hts _ w_607) (hts _ w_608) (hts _ w_609) jK.1 jP jD jS 11 5 0 0 rfl rfl rfl rfl rfl (by decide) (by decide) (by decide) (by decide) (by decide) (fun _ _ => rfl) (Nat.le_trans (by decide) hf1) (Nat.le_trans (Nat.le_of_ble_eq_true rfl) hf2) dX2_copy_21 (fun H locs jP jD jS => ?_)
  have jP : va_P D vwCl (sW cI uS aS S_x5 S_x6 S_x7 S_x8 S_x9 (va_cpy O_r0 S_r0 (0 : Int32).toNatClampNeg (0 : Int32).toNatClampNeg (8 : Int32).toNatClampNeg) (va_cpy O_r1 S_r1 (0 : Int32).toNatClampNeg (0 : Int32).toNatClampNeg (8 : Int32).toNatClampNeg) (va_cpy O_r2 S_r2 (0 : Int32).toNatClampNeg (0 : Int32).toNatClampNeg (8 : Int32).toNatClampNeg) (va_cpy O_r3 S_r3 (0 : Int32).toNatClampNeg (0 : Int32).toNatClampNeg (8 : Int32).toNatClampNeg) (va_cpy O_r4 S_r4 (0 : Int32).toNatClampNeg (0 : Int32).toNatClampNeg (8 : Int32).toNatClampNeg) ++ (sW cI uO aO O_x5 O_x6 O_x7 O_x8 O_x9 O_r0 O_r1 O_r2 O_r3 O_r4)) H := jP
  have jD : va_D A (sW cI uS aS S_x5 S_x6 S_x7 S_x8 S_x9 (va_cpy O_r0 S_r0 (0 : Int32).toNatClampNeg (0 : Int32).toNatClampNeg (8 : Int32).toNatClampNeg) (va_cpy O_r1 S_r1 (0 : Int32).toNatClampNeg (0 : Int32).toNatClampNeg (8 : Int32).toNatClampNeg) (va_cpy O_r2 S_r2 (0 : Int32).toNatClampNeg (0 : Int32).toNatClampNeg (8 : Int32).toNatClampNeg) (va_cpy O_r3 S_r3 (0 : Int32).toNatClampNeg (0 : Int32).toNatClampNeg (8 : Int32).toNatClampNeg) (va_cpy O_r4 S_r4 (0 : Int32).toNatClampNeg (0 : Int32).toNatClampNeg (8 : Int32).toNatClampNeg) ++ (sW cI uO aO O_x5 O_x6 O_x7 O_x8 O_x9 O_r0 O_r1 O_r2 O_r3 O_r4)) := jD
  refine lv_iinc (v := (5 : Int32)) (lv' := [(2, .int (5 : Int32)), (0, .ref uS), (1, .ref uO)]) hx hb dX2_copy_24 jl (k := 0) rfl (by decide) (by decide) rfl (fun ls jl => ?_)
  refine lv_goto (tgt := 2) hx hb dX2_copy_27 (by decide) ?_
  refine lv_iload_n hx hb dX2_copy_2 rfl (lv_at jl 0 rfl) ?_
  refine lv_iconst (v := (4 : Int32)) hx hb dX2_copy_3 (by decide) ?_
  refine lv_icmp_gt (tgt := 30) hx hb dX2_copy_4 (by decide) (fun _ => ?_) (fun q => absurd q (by decide))
  refine lv_aload_n hx hb dX2_copy_30 rfl (lv_at jl 1 rfl) ?_
  refine lv_aload_n hx hb dX2_copy_31 rfl (lv_at jl 2 rfl) ?_
  refine va_get (D := D) (ci := 2) (v := .int O_x5) (C := RX2) (T := TX2) (N := 10) hx hb hts in2 hown jK.1 jP 6 rfl rfl 5 (by decide) (hts _ w_68) (fun _ h9 => h9) rfl dX2_copy_32 ?_
  refine va_put (D := D) (ci := 2) (v := .int O_x5) (ty := .int) (C := RX2) (T := TX2) (N := 10) hx hb hts in2 tyX2 tyX2_ok nmX2 hown jK.1 jP jD jS 0 rfl rfl 5 (by decide) (hts _ w_68) (fun _ h9 => h9) rfl (by decide +kernel) rfl rfl (Nat.le_of_ble_eq_true rfl) dX2_copy_35 (fun H locs jP jD jS => ?_)
  have jP : va_P D vwCl (sW cI uS aS O_x5 S_x6 S_x7 S_x8 S_x9 (va_cpy O_r0 S_r0 (0 : Int32).toNatClampNeg (0 : Int32).toNatClampNeg (8 : Int32).toNatClampNeg) (va_cpy O_r1 S_r1 (0 : Int32).toNatClampNeg (0 : Int32).toNatClampNeg (8 : Int32).toNatClampNeg) (va_cpy O_r2 S_r2 (0 : Int32).toNatClampNeg (0 : Int32).toNatClampNeg (8 : Int32).toNatClampNeg) (va_cpy O_r3 S_r3 (0 : Int32).toNatClampNeg (0 : Int32).toNatClampNeg (8 : Int32).toNatClampNeg) (va_cpy O_r4 S_r4 (0 : Int32).toNatClampNeg (0 : Int32).toNatClampNeg (8 : Int32).toNatClampNeg) ++ (sW cI uO aO O_x5 O_x6 O_x7 O_x8 O_x9 O_r0 O_r1 O_r2 O_r3 O_r4)) H := jP
  have jD : va_D A (sW cI uS aS O_x5 S_x6 S_x7 S_x8 S_x9 (va_cpy O_r0 S_r0 (0 : Int32).toNatClampNeg (0 : Int32).toNatClampNeg (8 : Int32).toNatClampNeg) (va_cpy O_r1 S_r1 (0 : Int32).toNatClampNeg (0 : Int32).toNatClampNeg (8 : Int32).toNatClampNeg) (va_cpy O_r2 S_r2 (0 : Int32).toNatClampNeg (0 : Int32).toNatClampNeg (8 : Int32).toNatClampNeg) (va_cpy O_r3 S_r3 (0 : Int32).toNatClampNeg (0 : Int32).toNatClampNeg (8 : Int32).toNatClampNeg) (va_cpy O_r4 S_r4 (0 : Int32).toNatClampNeg (0 : Int32).toNatClampNeg (8 : Int32).toNatClampNeg) ++ (sW cI uO aO O_x5 O_x6 O_x7 O_x8 O_x9 O_r0 O_r1 O_r2 O_r3 O_r4)) := jD
  refine lv_aload_n hx hb dX2_copy_38 rfl (lv_at jl 1 rfl) ?_
  refine lv_aload_n hx hb dX2_copy_39 rfl (lv_at jl 2 rfl) ?_
  refine va_get (D := D) (ci := 2) (v := .int O_x6) (C := RX2) (T := TX2) (N := 10) hx hb hts in2 hown jK.1 jP 6 rfl rfl 6 (by decide) (hts _ w_69) (fun _ h9 => h9) rfl dX2_copy_40 ?_
  refine va_put (D := D) (ci := 2) (v := .int O_x6) (ty := .int) (C := RX2) (T := TX2) (N := 10) hx hb hts in2 tyX2 tyX2_ok nmX2 hown jK.1 jP jD jS 0 rfl rfl 6 (by decide) (hts _ w_69) (fun _ h9 => h9) rfl (by decide +kernel) rfl rfl (Nat.le_of_ble_eq_true rfl) dX2_copy_43 (fun H locs jP jD jS => ?_)
  have jP : va_P D vwCl (sW cI uS aS O_x5 O_x6 S_x7 S_x8 S_x9 (va_cpy O_r0 S_r0 (0 : Int32).toNatClampNeg (0 : Int32).toNatClampNeg (8 : Int32).toNatClampNeg) (va_cpy O_r1 S_r1 (0 : Int32).toNatClampNeg (0 : Int32).toNatClampNeg (8 : Int32).toNatClampNeg) (va_cpy O_r2 S_r2 (0 : Int32).toNatClampNeg (0 : Int32).toNatClampNeg (8 : Int32).toNatClampNeg) (va_cpy O_r3 S_r3 (0 : Int32).toNatClampNeg (0 : Int32).toNatClampNeg (8 : Int32).toNatClampNeg) (va_cpy O_r4 S_r4 (0 : Int32).toNatClampNeg (0 : Int32).toNatClampNeg (8 : Int32).toNatClampNeg) ++ (sW cI uO aO O_x5 O_x6 O_x7 O_x8 O_x9 O_r0 O_r1 O_r2 O_r3 O_r4)) H := jP
  have jD : va_D A (sW cI uS aS O_x5 O_x6 S_x7 S_x8 S_x9 (va_cpy O_r0 S_r0 (0 : Int32).toNatClampNeg (0 : Int32).toNatClampNeg (8 : Int32).toNatClampNeg) (va_cpy O_r1 S_r1 (0 : Int32).toNatClampNeg (0 : Int32).toNatClampNeg (8 : Int32).toNatClampNeg) (va_cpy O_r2 S_r2 (0 : Int32).toNatClampNeg (0 : Int32).toNatClampNeg (8 : Int32).toNatClampNeg) (va_cpy O_r3 S_r3 (0 : Int32).toNatClampNeg (0 : Int32).toNatClampNeg (8 : Int32).toNatClampNeg) (va_cpy O_r4 S_r4 (0 : Int32).toNatClampNeg (0 : Int32).toNatClampNeg (8 : Int32).toNatClampNeg) ++ (sW cI uO aO O_x5 O_x6 O_x7 O_x8 O_x9 O_r0 O_r1 O_r2 O_r3 O_r4)) := jD
  refine lv_aload_n hx hb dX2_copy_46 rfl (lv_at jl 1 rfl) ?_
  refine lv_aload_n hx hb dX2_copy_47 rfl (lv_at jl 2 rfl) ?_
  refine va_get (D := D) (ci := 2) (v := .int O_x7) (C := RX2) (T := TX2) (N := 10) hx hb hts in2 hown jK.1 jP 6 rfl rfl 7 (by decide) (hts _ w_70) (fun _ h9 => h9) rfl dX2_copy_48 ?_
  refine va_put (D := D) (ci := 2) (v := .int O_x7) (ty := .int) (C := RX2) (T := TX2) (N := 10) hx hb hts in2 tyX2 tyX2_ok nmX2 hown jK.1 jP jD jS 0 rfl rfl 7 (by decide) (hts _ w_70) (fun _ h9 => h9) rfl (by decide +kernel) rfl rfl (Nat.le_of_ble_eq_true rfl) dX2_copy_51 (fun H locs jP jD jS => ?_)
  have jP : va_P D vwCl (sW cI uS aS O_x5 O_x6 O_x7 S_x8 S_x9 (va_cpy O_r0 S_r0 (0 : Int32).toNatClampNeg (0 : Int32).toNatClampNeg (8 : Int32).toNatClampNeg) (va_cpy O_r1 S_r1 (0 : Int32).toNatClampNeg (0 : Int32).toNatClampNeg (8 : Int32).toNatClampNeg) (va_cpy O_r2 S_r2 (0 : Int32).toNatClampNeg (0 : Int32).toNatClampNeg (8 : Int32).toNatClampNeg) (va_cpy O_r3 S_r3 (0 : Int32).toNatClampNeg (0 : Int32).toNatClampNeg (8 : Int32).toNatClampNeg) (va_cpy O_r4 S_r4 (0 : Int32).toNatClampNeg (0 : Int32).toNatClampNeg (8 : Int32).toNatClampNeg) ++ (sW cI uO aO O_x5 O_x6 O_x7 O_x8 O_x9 O_r0 O_r1 O_r2 O_r3 O_r4)) H := jP
  have jD : va_D A (sW cI uS aS O_x5 O_x6 O_x7 S_x8 S_x9 (va_cpy O_r0 S_r0 (0 : Int32).toNatClampNeg (0 : Int32).toNatClampNeg (8 : Int32).toNatClampNeg) (va_cpy O_r1 S_r1 (0 : Int32).toNatClampNeg (0 : Int32).toNatClampNeg (8 : Int32).toNatClampNeg) (va_cpy O_r2 S_r2 (0 : Int32).toNatClampNeg (0 : Int32).toNatClampNeg (8 : Int32).toNatClampNeg) (va_cpy O_r3 S_r3 (0 : Int32).toNatClampNeg (0 : Int32).toNatClampNeg (8 : Int32).toNatClampNeg) (va_cpy O_r4 S_r4 (0 : Int32).toNatClampNeg (0 : Int32).toNatClampNeg (8 : Int32).toNatClampNeg) ++ (sW cI uO aO O_x5 O_x6 O_x7 O_x8 O_x9 O_r0 O_r1 O_r2 O_r3 O_r4)) := jD
  refine lv_aload_n hx hb dX2_copy_54 rfl (lv_at jl 1 rfl) ?_
  refine lv_aload_n hx hb dX2_copy_55 rfl (lv_at jl 2 rfl) ?_
  refine va_get (D := D) (ci := 2) (v := .int O_x8) (C := RX2) (T := TX2) (N := 10) hx hb hts in2 hown jK.1 jP 6 rfl rfl 8 (by decide) (hts _ w_71) (fun _ h9 => h9) rfl dX2_copy_56 ?_
  refine va_put (D := D) (ci := 2) (v := .int O_x8) (ty := .int) (C := RX2) (T := TX2) (N := 10) hx hb hts in2 tyX2 tyX2_ok nmX2 hown jK.1 jP jD jS 0 rfl rfl 8 (by decide) (hts _ w_71) (fun _ h9 => h9) rfl (by decide +kernel) rfl rfl (Nat.le_of_ble_eq_true rfl) dX2_copy_59 (fun H locs jP jD jS => ?_)
  have jP : va_P D vwCl (sW cI uS aS O_x5 O_x6 O_x7 O_x8 S_x9 (va_cpy O_r0 S_r0 (0 : Int32).toNatClampNeg (0 : Int32).toNatClampNeg (8 : Int32).toNatClampNeg) (va_cpy O_r1 S_r1 (0 : Int32).toNatClampNeg (0 : Int32).toNatClampNeg (8 : Int32).toNatClampNeg) (va_cpy O_r2 S_r2 (0 : Int32).toNatClampNeg (0 : Int32).toNatClampNeg (8 : Int32).toNatClampNeg) (va_cpy O_r3 S_r3 (0 : Int32).toNatClampNeg (0 : Int32).toNatClampNeg (8 : Int32).toNatClampNeg) (va_cpy O_r4 S_r4 (0 : Int32).toNatClampNeg (0 : Int32).toNatClampNeg (8 : Int32).toNatClampNeg) ++ (sW cI uO aO O_x5 O_x6 O_x7 O_x8 O_x9 O_r0 O_r1 O_r2 O_r3 O_r4)) H := jP
  have jD : va_D A (sW cI uS aS O_x5 O_x6 O_x7 O_x8 S_x9 (va_cpy O_r0 S_r0 (0 : Int32).toNatClampNeg (0 : Int32).toNatClampNeg (8 : Int32).toNatClampNeg) (va_cpy O_r1 S_r1 (0 : Int32).toNatClampNeg (0 : Int32).toNatClampNeg (8 : Int32).toNatClampNeg) (va_cpy O_r2 S_r2 (0 : Int32).toNatClampNeg (0 : Int32).toNatClampNeg (8 : Int32).toNatClampNeg) (va_cpy O_r3 S_r3 (0 : Int32).toNatClampNeg (0 : Int32).toNatClampNeg (8 : Int32).toNatClampNeg) (va_cpy O_r4 S_r4 (0 : Int32).toNatClampNeg (0 : Int32).toNatClampNeg (8 : Int32).toNatClampNeg) ++ (sW cI uO aO O_x5 O_x6 O_x7 O_x8 O_x9 O_r0 O_r1 O_r2 O_r3 O_r4)) := jD
  refine lv_aload_n hx hb dX2_copy_62 rfl (lv_at jl 1 rfl) ?_
  refine lv_aload_n hx hb dX2_copy_63 rfl (lv_at jl 2 rfl) ?_
  refine va_get (D := D) (ci := 2) (v := .int O_x9) (C := RX2) (T := TX2) (N := 10) hx hb hts in2 hown jK.1 jP 6 rfl rfl 9 (by decide) (hts _ w_72) (fun _ h9 => h9) rfl dX2_copy_64 ?_
  refine va_put (D := D) (ci := 2) (v := .int O_x9) (ty := .int) (C := RX2) (T := TX2) (N := 10) hx hb hts in2 tyX2 tyX2_ok nmX2 hown jK.1 jP jD jS 0 rfl rfl 9 (by decide) (hts _ w_72) (fun _ h9 => h9) rfl (by decide +kernel) rfl rfl (Nat.le_of_ble_eq_true rfl) dX2_copy_67 (fun H locs jP jD jS => ?_)
  have jP : va_P D vwCl (sW cI uS aS O_x5 O_x6 O_x7 O_x8 O_x9 (va_cpy O_r0 S_r0 (0 : Int32).toNatClampNeg (0 : Int32).toNatClampNeg (8 : Int32).toNatClampNeg) (va_cpy O_r1 S_r1 (0 : Int32).toNatClampNeg (0 : Int32).toNatClampNeg (8 : Int32).toNatClampNeg) (va_cpy O_r2 S_r2 (0 : Int32).toNatClampNeg (0 : Int32).toNatClampNeg (8 : Int32).toNatClampNeg) (va_cpy O_r3 S_r3 (0 : Int32).toNatClampNeg (0 : Int32).toNatClampNeg (8 : Int32).toNatClampNeg) (va_cpy O_r4 S_r4 (0 : Int32).toNatClampNeg (0 : Int32).toNatClampNeg (8 : Int32).toNatClampNeg) ++ (sW cI uO aO O_x5 O_x6 O_x7 O_x8 O_x9 O_r0 O_r1 O_r2 O_r3 O_r4)) H := jP
  have jD : va_D A (sW cI uS aS O_x5 O_x6 O_x7 O_x8 O_x9 (va_cpy O_r0 S_r0 (0 : Int32).toNatClampNeg (0 : Int32).toNatClampNeg (8 : Int32).toNatClampNeg) (va_cpy O_r1 S_r1 (0 : Int32).toNatClampNeg (0 : Int32).toNatClampNeg (8 : Int32).toNatClampNeg) (va_cpy O_r2 S_r2 (0 : Int32).toNatClampNeg (0 : Int32).toNatClampNeg (8 : Int32).toNatClampNeg) (va_cpy O_r3 S_r3 (0 : Int32).toNatClampNeg (0 : Int32).toNatClampNeg (8 : Int32).toNatClampNeg) (va_cpy O_r4 S_r4 (0 : Int32).toNatClampNeg (0 : Int32).toNatClampNeg (8 : Int32).toNatClampNeg) ++ (sW cI uO aO O_x5 O_x6 O_x7 O_x8 O_x9 O_r0 O_r1 O_r2 O_r3 O_r4)) := jD
  obtain rfl := Option.some.inj h
  exact hRet _ _ _ _ jP jD jS dX2_copy_70
theorem okX2_add : okV yX2_add cX2_add 5 none 4 := ⟨w_173, w_174, w_175, w_31, by decide, by decide, by decide +kernel⟩
def fX2_add (S_r0 : (Nat → Int32)) (S_r1 : (Nat → Int32)) (S_r2 : (Nat → Int32)) (S_r3 : (Nat → Int32)) (S_r4 : (Nat → Int32)) (S_x5 : Int32) (a1 : Int32) (a2 : Int32) (a3 : Int32) (a4 : Int32) : Option ((Nat → Int32) × (Nat → Int32) × (Nat → Int32) × (Nat → Int32) × (Nat → Int32) × Int32) :=
  if (8 : Int32) ≤ S_x5 then (some (S_r0, S_r1, S_r2, S_r3, S_r4, S_x5)) else (ckI S_x5 8 (ckI S_x5 8 (ckI S_x5 8 (ckI S_x5 8 (ckI S_x5 8 (some ((upd S_r0 (S_x5).toNatClampNeg a1), (upd S_r1 (S_x5).toNatClampNeg a2), (upd S_r2 (S_x5).toNatClampNeg a3), (upd S_r3 (S_x5).toNatClampNeg a4), (upd S_r4 (S_x5).toNatClampNeg (0 : Int32)), (S_x5 + (1 : Int32)))))))))
set_option maxRecDepth 100000 in
set_option maxHeartbeats 4000000 in
theorem kX2_add (l : Launch) (D : va_G) (cI cB cS : ClassId) (uS : Nat) (aS : Nat → Nat) (S_x5 : Int32) (S_x6 : Int32) (S_x7 : Int32) (S_x8 : Int32) (S_x9 : Int32) (S_r0 : (Nat → Int32)) (S_r1 : (Nat → Int32)) (S_r2 : (Nat → Int32)) (S_r3 : (Nat → Int32)) (S_r4 : (Nat → Int32)) (a1 : Int32) (a2 : Int32) (a3 : Int32) (a4 : Int32) (z : ((Nat → Int32) × (Nat → Int32) × (Nat → Int32) × (Nat → Int32) × (Nat → Int32) × Int32)) (h : fX2_add S_r0 S_r1 S_r2 S_r3 S_r4 S_x5 a1 a2 a3 a4 = some z) : Mt l yX2_add cX2_add 5 none 0 0 D cI cB cS (sW cI uS aS S_x5 S_x6 S_x7 S_x8 S_x9 S_r0 S_r1 S_r2 S_r3 S_r4) (sW cI uS aS z.2.2.2.2.2 S_x6 S_x7 S_x8 S_x9 z.1 z.2.1 z.2.2.1 z.2.2.2.1 z.2.2.2.2.1) [.ref uS, .int a1, .int a2, .int a3, .int a4] none := by
  refine entryV (by decide +kernel) rfl (Nat.le_of_ble_eq_true rfl) ?_
  intro p e s m below meth c A ls QQ R ar F hRet jP jD jS jl
  obtain ⟨hx, hb, hml, hown, hts, jK, hA, hf1, hf2⟩ := id F
  have jl : lv_has ls 5 [(0, .ref uS), (1, .int a1), (2, .int a2), (3, .int a3), (4, .int a4)] := jl
  unfold fX2_add at h
  refine lv_aload_n hx hb dX2_add_0 rfl (lv_at jl 0 rfl) ?_
  refine va_get (D := D) (ci := 2) (v := .int S_x5) (C := RX2) (T := TX2) (N := 10) hx hb hts in2 hown jK.1 jP 0 rfl rfl 5 (by decide) (hts _ w_68) (fun _ h9 => h9) rfl dX2_add_1 ?_
  refine lv_bipush (v := (8 : Int32)) hx hb dX2_add_4 (by decide) ?_
  refine lv_icmp_ge (tgt := 70) hx hb dX2_add_6 (by decide) (fun c1 => ?_) (fun c1 => ?_)
  · have h := itp c1 h
    obtain rfl := Option.some.inj h
    exact hRet _ _ _ _ jP jD jS dX2_add_70
  · have h := itn c1 h
    refine lv_aload_n hx hb dX2_add_9 rfl (lv_at jl 0 rfl) ?_
    refine va_get (D := D) (ci := 2) (v := .ref (aS 0)) (C := RX2) (T := TX2) (N := 10) hx hb hts in2 hown jK.1 jP 0 rfl rfl 0 (by decide) (hts _ w_59) (fun _ h9 => h9) rfl dX2_add_10 ?_
    refine lv_aload_n hx hb dX2_add_13 rfl (lv_at jl 0 rfl) ?_
    refine va_get (D := D) (ci := 2) (v := .int S_x5) (C := RX2) (T := TX2) (N := 10) hx hb hts in2 hown jK.1 jP 0 rfl rfl 5 (by decide) (hts _ w_68) (fun _ h9 => h9) rfl dX2_add_14 ?_
    refine lv_iload_n hx hb dX2_add_17 rfl (lv_at jl 1 rfl) ?_
    obtain ⟨hin, h⟩ := ckI_some h
    refine va_iast (f := S_r0) hx hb jK.1 jP jD jS 1 0 rfl rfl hin dX2_add_18 (fun H locs jP jD jS => ?_)
    have jP : va_P D vwCl (sW cI uS aS S_x5 S_x6 S_x7 S_x8 S_x9 (upd S_r0 (S_x5).toNatClampNeg a1) S_r1 S_r2 S_r3 S_r4) H := jP
    have jD : va_D A (sW cI uS aS S_x5 S_x6 S_x7 S_x8 S_x9 (upd S_r0 (S_x5).toNatClampNeg a1) S_r1 S_r2 S_r3 S_r4) := jD
    refine lv_aload_n hx hb dX2_add_19 rfl (lv_at jl 0 rfl) ?_
    refine va_get (D := D) (ci := 2) (v := .ref (aS 1)) (C := RX2) (T := TX2) (N := 10) hx hb hts in2 hown jK.1 jP 0 rfl rfl 1 (by decide) (hts _ w_60) (fun _ h9 => h9) rfl dX2_add_20 ?_
    refine lv_aload_n hx hb dX2_add_23 rfl (lv_at jl 0 rfl) ?_
    refine va_get (D := D) (ci := 2) (v := .int S_x5) (C := RX2) (T := TX2) (N := 10) hx hb hts in2 hown jK.1 jP 0 rfl rfl 5 (by decide) (hts _ w_68) (fun _ h9 => h9) rfl dX2_add_24 ?_
    refine lv_iload_n hx hb dX2_add_27 rfl (lv_at jl 2 rfl) ?_
    obtain ⟨hin, h⟩ := ckI_some h
    refine va_iast (f := S_r1) hx hb jK.1 jP jD jS 2 0 rfl rfl hin dX2_add_28 (fun H locs jP jD jS => ?_)
    have jP : va_P D vwCl (sW cI uS aS S_x5 S_x6 S_x7 S_x8 S_x9 (upd S_r0 (S_x5).toNatClampNeg a1) (upd S_r1 (S_x5).toNatClampNeg a2) S_r2 S_r3 S_r4) H := jP
    have jD : va_D A (sW cI uS aS S_x5 S_x6 S_x7 S_x8 S_x9 (upd S_r0 (S_x5).toNatClampNeg a1) (upd S_r1 (S_x5).toNatClampNeg a2) S_r2 S_r3 S_r4) := jD
    refine lv_aload_n hx hb dX2_add_29 rfl (lv_at jl 0 rfl) ?_
    refine va_get (D := D) (ci := 2) (v := .ref (aS 2)) (C := RX2) (T := TX2) (N := 10) hx hb hts in2 hown jK.1 jP 0 rfl rfl 2 (by decide) (hts _ w_61) (fun _ h9 => h9) rfl dX2_add_30 ?_
    refine lv_aload_n hx hb dX2_add_33 rfl (lv_at jl 0 rfl) ?_
    refine va_get (D := D) (ci := 2) (v := .int S_x5) (C := RX2) (T := TX2) (N := 10) hx hb hts in2 hown jK.1 jP 0 rfl rfl 5 (by decide) (hts _ w_68) (fun _ h9 => h9) rfl dX2_add_34 ?_
    refine lv_iload_n hx hb dX2_add_37 rfl (lv_at jl 3 rfl) ?_
    obtain ⟨hin, h⟩ := ckI_some h
    refine va_iast (f := S_r2) hx hb jK.1 jP jD jS 3 0 rfl rfl hin dX2_add_38 (fun H locs jP jD jS => ?_)
    have jP : va_P D vwCl (sW cI uS aS S_x5 S_x6 S_x7 S_x8 S_x9 (upd S_r0 (S_x5).toNatClampNeg a1) (upd S_r1 (S_x5).toNatClampNeg a2) (upd S_r2 (S_x5).toNatClampNeg a3) S_r3 S_r4) H := jP
    have jD : va_D A (sW cI uS aS S_x5 S_x6 S_x7 S_x8 S_x9 (upd S_r0 (S_x5).toNatClampNeg a1) (upd S_r1 (S_x5).toNatClampNeg a2) (upd S_r2 (S_x5).toNatClampNeg a3) S_r3 S_r4) := jD
    refine lv_aload_n hx hb dX2_add_39 rfl (lv_at jl 0 rfl) ?_
    refine va_get (D := D) (ci := 2) (v := .ref (aS 3)) (C := RX2) (T := TX2) (N := 10) hx hb hts in2 hown jK.1 jP 0 rfl rfl 3 (by decide) (hts _ w_62) (fun _ h9 => h9) rfl dX2_add_40 ?_
    refine lv_aload_n hx hb dX2_add_43 rfl (lv_at jl 0 rfl) ?_
    refine va_get (D := D) (ci := 2) (v := .int S_x5) (C := RX2) (T := TX2) (N := 10) hx hb hts in2 hown jK.1 jP 0 rfl rfl 5 (by decide) (hts _ w_68) (fun _ h9 => h9) rfl dX2_add_44 ?_
    refine lv_iload hx hb dX2_add_47 (lv_at jl 4 rfl) ?_
    obtain ⟨hin, h⟩ := ckI_some h
    refine va_iast (f := S_r3) hx hb jK.1 jP jD jS 4 0 rfl rfl hin dX2_add_49 (fun H locs jP jD jS => ?_)
    have jP : va_P D vwCl (sW cI uS aS S_x5 S_x6 S_x7 S_x8 S_x9 (upd S_r0 (S_x5).toNatClampNeg a1) (upd S_r1 (S_x5).toNatClampNeg a2) (upd S_r2 (S_x5).toNatClampNeg a3) (upd S_r3 (S_x5).toNatClampNeg a4) S_r4) H := jP
    have jD : va_D A (sW cI uS aS S_x5 S_x6 S_x7 S_x8 S_x9 (upd S_r0 (S_x5).toNatClampNeg a1) (upd S_r1 (S_x5).toNatClampNeg a2) (upd S_r2 (S_x5).toNatClampNeg a3) (upd S_r3 (S_x5).toNatClampNeg a4) S_r4) := jD
    refine lv_aload_n hx hb dX2_add_50 rfl (lv_at jl 0 rfl) ?_
    refine va_get (D := D) (ci := 2) (v := .ref (aS 4)) (C := RX2) (T := TX2) (N := 10) hx hb hts in2 hown jK.1 jP 0 rfl rfl 4 (by decide) (hts _ w_63) (fun _ h9 => h9) rfl dX2_add_51 ?_
    refine lv_aload_n hx hb dX2_add_54 rfl (lv_at jl 0 rfl) ?_
    refine va_get (D := D) (ci := 2) (v := .int S_x5) (C := RX2) (T := TX2) (N := 10) hx hb hts in2 hown jK.1 jP 0 rfl rfl 5 (by decide) (hts _ w_68) (fun _ h9 => h9) rfl dX2_add_55 ?_
    refine lv_iconst (v := (0 : Int32)) hx hb dX2_add_58 (by decide) ?_
    obtain ⟨hin, h⟩ := ckI_some h
    refine va_iast (f := S_r4) hx hb jK.1 jP jD jS 5 0 rfl rfl hin dX2_add_59 (fun H locs jP jD jS => ?_)
    have jP : va_P D vwCl (sW cI uS aS S_x5 S_x6 S_x7 S_x8 S_x9 (upd S_r0 (S_x5).toNatClampNeg a1) (upd S_r1 (S_x5).toNatClampNeg a2) (upd S_r2 (S_x5).toNatClampNeg a3) (upd S_r3 (S_x5).toNatClampNeg a4) (upd S_r4 (S_x5).toNatClampNeg (0 : Int32))) H := jP
    have jD : va_D A (sW cI uS aS S_x5 S_x6 S_x7 S_x8 S_x9 (upd S_r0 (S_x5).toNatClampNeg a1) (upd S_r1 (S_x5).toNatClampNeg a2) (upd S_r2 (S_x5).toNatClampNeg a3) (upd S_r3 (S_x5).toNatClampNeg a4) (upd S_r4 (S_x5).toNatClampNeg (0 : Int32))) := jD
    refine lv_aload_n hx hb dX2_add_60 rfl (lv_at jl 0 rfl) ?_
    refine lv_dup hx hb dX2_add_61 rfl ?_
    refine va_get (D := D) (ci := 2) (v := .int S_x5) (C := RX2) (T := TX2) (N := 10) hx hb hts in2 hown jK.1 jP 0 rfl rfl 5 (by decide) (hts _ w_68) (fun _ h9 => h9) rfl dX2_add_62 ?_
    refine lv_iconst (v := (1 : Int32)) hx hb dX2_add_65 (by decide) ?_
    refine lv_iadd hx hb dX2_add_66 ?_
    refine va_put (D := D) (ci := 2) (v := .int (S_x5 + (1 : Int32))) (ty := .int) (C := RX2) (T := TX2) (N := 10) hx hb hts in2 tyX2 tyX2_ok nmX2 hown jK.1 jP jD jS 0 rfl rfl 5 (by decide) (hts _ w_68) (fun _ h9 => h9) rfl (by decide +kernel) rfl rfl (Nat.le_of_ble_eq_true rfl) dX2_add_67 (fun H locs jP jD jS => ?_)
    have jP : va_P D vwCl (sW cI uS aS (S_x5 + (1 : Int32)) S_x6 S_x7 S_x8 S_x9 (upd S_r0 (S_x5).toNatClampNeg a1) (upd S_r1 (S_x5).toNatClampNeg a2) (upd S_r2 (S_x5).toNatClampNeg a3) (upd S_r3 (S_x5).toNatClampNeg a4) (upd S_r4 (S_x5).toNatClampNeg (0 : Int32))) H := jP
    have jD : va_D A (sW cI uS aS (S_x5 + (1 : Int32)) S_x6 S_x7 S_x8 S_x9 (upd S_r0 (S_x5).toNatClampNeg a1) (upd S_r1 (S_x5).toNatClampNeg a2) (upd S_r2 (S_x5).toNatClampNeg a3) (upd S_r3 (S_x5).toNatClampNeg a4) (upd S_r4 (S_x5).toNatClampNeg (0 : Int32))) := jD
    obtain rfl := Option.some.inj h
    exact hRet _ _ _ _ jP jD jS dX2_add_70
theorem okX2_remove : okV yX2_remove cX2_remove 4 none 1 := ⟨w_700, w_701, w_702, w_31, by decide, by decide, by decide +kernel⟩
def fX2_remove (S_r0 : (Nat → Int32)) (S_r1 : (Nat → Int32)) (S_r2 : (Nat → Int32)) (S_r3 : (Nat → Int32)) (S_r4 : (Nat → Int32)) (S_x5 : Int32) (a1 : Int32) : Option ((Nat → Int32) × (Nat → Int32) × (Nat → Int32) × (Nat → Int32) × (Nat → Int32) × Int32) :=
  bd (fX5_isWithin a1 (0 : Int32) (S_x5 - (1 : Int32))) (fun t1 => if t1 = (0 : Int32) then (some (S_r0, S_r1, S_r2, S_r3, S_r4, S_x5)) else (bd (fX2_row0 (0 : Int32)) (fun t4 => ckC (a1 + (1 : Int32)) a1 ((S_x5 - a1) - (1 : Int32)) 8 8 (bd (fX2_row1 (1 : Int32)) (fun t6 => ckC (a1 + (1 : Int32)) a1 ((S_x5 - a1) - (1 : Int32)) 8 8 (bd (fX2_row2 (2 : Int32)) (fun t8 => ckC (a1 + (1 : Int32)) a1 ((S_x5 - a1) - (1 : Int32)) 8 8 (bd (fX2_row3 (3 : Int32)) (fun t10 => ckC (a1 + (1 : Int32)) a1 ((S_x5 - a1) - (1 : Int32)) 8 8 (bd (fX2_row4 (4 : Int32)) (fun t12 => ckC (a1 + (1 : Int32)) a1 ((S_x5 - a1) - (1 : Int32)) 8 8 (some ((va_cpy S_r0 S_r0 (a1 + (1 : Int32)).toNatClampNeg a1.toNatClampNeg ((S_x5 - a1) - (1 : Int32)).toNatClampNeg), (va_cpy S_r1 S_r1 (a1 + (1 : Int32)).toNatClampNeg a1.toNatClampNeg ((S_x5 - a1) - (1 : Int32)).toNatClampNeg), (va_cpy S_r2 S_r2 (a1 + (1 : Int32)).toNatClampNeg a1.toNatClampNeg ((S_x5 - a1) - (1 : Int32)).toNatClampNeg), (va_cpy S_r3 S_r3 (a1 + (1 : Int32)).toNatClampNeg a1.toNatClampNeg ((S_x5 - a1) - (1 : Int32)).toNatClampNeg), (va_cpy S_r4 S_r4 (a1 + (1 : Int32)).toNatClampNeg a1.toNatClampNeg ((S_x5 - a1) - (1 : Int32)).toNatClampNeg), (S_x5 - (1 : Int32)))))))))))))))
set_option maxRecDepth 100000 in
set_option maxHeartbeats 4000000 in
theorem kX2_remove (l : Launch) (D : va_G) (cI cB cS : ClassId) (uS : Nat) (aS : Nat → Nat) (S_x5 : Int32) (S_x6 : Int32) (S_x7 : Int32) (S_x8 : Int32) (S_x9 : Int32) (S_r0 : (Nat → Int32)) (S_r1 : (Nat → Int32)) (S_r2 : (Nat → Int32)) (S_r3 : (Nat → Int32)) (S_r4 : (Nat → Int32)) (a1 : Int32) (z : ((Nat → Int32) × (Nat → Int32) × (Nat → Int32) × (Nat → Int32) × (Nat → Int32) × Int32)) (h : fX2_remove S_r0 S_r1 S_r2 S_r3 S_r4 S_x5 a1 = some z) : Mt l yX2_remove cX2_remove 4 none 1 60 D cI cB cS (sW cI uS aS S_x5 S_x6 S_x7 S_x8 S_x9 S_r0 S_r1 S_r2 S_r3 S_r4) (sW cI uS aS z.2.2.2.2.2 S_x6 S_x7 S_x8 S_x9 z.1 z.2.1 z.2.2.1 z.2.2.2.1 z.2.2.2.2.1) [.ref uS, .int a1] none := by
  refine entryV (by decide +kernel) rfl (Nat.le_of_ble_eq_true rfl) ?_
  intro p e s m below meth c A ls QQ R ar F hRet jP jD jS jl
  obtain ⟨hx, hb, hml, hown, hts, jK, hA, hf1, hf2⟩ := id F
  have jl : lv_has ls 4 [(0, .ref uS), (1, .int a1)] := jl
  unfold fX2_remove at h
  refine lv_iload_n hx hb dX2_remove_0 rfl (lv_at jl 1 rfl) ?_
  refine lv_iconst (v := (0 : Int32)) hx hb dX2_remove_1 (by decide) ?_
  refine lv_aload_n hx hb dX2_remove_2 rfl (lv_at jl 0 rfl) ?_
  refine va_get (D := D) (ci := 2) (v := .int S_x5) (C := RX2) (T := TX2) (N := 10) hx hb hts in2 hown jK.1 jP 0 rfl rfl 5 (by decide) (hts _ w_68) (fun _ h9 => h9) rfl dX2_remove_3 ?_
  refine lv_iconst (v := (1 : Int32)) hx hb dX2_remove_6 (by decide) ?_
  refine lv_isub hx hb dX2_remove_7 ?_
  obtain ⟨t1, hc2, h⟩ := bd_some h
  refine call0N (As := [.int a1, .int (0 : Int32), .int (S_x5 - (1 : Int32))]) (rest := []) (st1 := [.int t1]) F (kX5_isWithin l D cI cB cS  a1 (0 : Int32) (S_x5 - (1 : Int32)) _ hc2 ) okX5_isWithin nl_3 (by decide) (by decide) ⟨Nat.zero_le _, Nat.zero_le _⟩ jP jD jS rfl jl.1 rfl rfl (Nat.le_of_ble_eq_true rfl) dX2_remove_8 (fun H locs jP jD jS => ?_)
  refine lv_if_eq (tgt := 60) hx hb dX2_remove_11 (by decide) (fun c3 => ?_) (fun c3 => ?_)
  · have h := itp c3 h
    obtain rfl := Option.some.inj h
    exact hRet _ _ _ _ jP jD jS dX2_remove_60
  · have h := itn c3 h
    refine lv_iconst (v := (0 : Int32)) hx hb dX2_remove_14 (by decide) ?_
    refine lv_istore_n (lv' := [(2, .int (0 : Int32)), (0, .ref uS), (1, .int a1)]) hx hb dX2_remove_15 rfl jl (by decide) rfl (fun ls jl => ?_)
    refine lv_iload_n hx hb dX2_remove_16 rfl (lv_at jl 0 rfl) ?_
    refine lv_iconst (v := (4 : Int32)) hx hb dX2_remove_17 (by decide) ?_
    refine lv_icmp_gt (tgt := 50) hx hb dX2_remove_18 (by decide) (fun q => absurd q (by decide)) (fun _ => ?_)
    refine lv_aload_n hx hb dX2_remove_21 rfl (lv_at jl 1 rfl) ?_
    refine lv_iload_n hx hb dX2_remove_22 rfl (lv_at jl 0 rfl) ?_
    obtain ⟨t4, hc5, h⟩ := bd_some h
    refine callW (w1 := (sW cI uS aS S_x5 S_x6 S_x7 S_x8 S_x9 S_r0 S_r1 S_r2 S_r3 S_r4)) (As := [.int (0 : Int32)]) (rest := []) (st1 := [.ref (aS 0)]) 0 F (kX2_row0 l D cI cB cS uS aS S_x5 S_x6 S_x7 S_x8 S_x9 S_r0 S_r1 S_r2 S_r3 S_r4 (0 : Int32) _ hc5 rfl) okX2_row w_610 (by decide) (by decide) ⟨Nat.zero_le _, Nat.zero_le _⟩ rfl rfl rfl jP jD jS rfl jl.1 rfl rfl (Nat.le_of_ble_eq_true rfl) dX2_remove_23 (fun H locs jP jD jS => ?_)
    refine lv_astore_n (lv' := [(3, .ref (aS 0)), (2, .int (0 : Int32)), (0, .ref uS), (1, .int a1)]) hx hb dX2_remove_26 rfl jl (by decide) rfl (fun ls jl => ?_)
    refine lv_aload_n hx hb dX2_remove_27 rfl (lv_at jl 0 rfl) ?_
    refine lv_iload_n hx hb dX2_remove_28 rfl (lv_at jl 3 rfl) ?_
    refine lv_iconst (v := (1 : Int32)) hx hb dX2_remove_29 (by decide) ?_
    refine lv_iadd hx hb dX2_remove_30 ?_
    refine lv_aload_n hx hb dX2_remove_31 rfl (lv_at jl 0 rfl) ?_
    refine lv_iload_n hx hb dX2_remove_32 rfl (lv_at jl 3 rfl) ?_
    refine lv_aload_n hx hb dX2_remove_33 rfl (lv_at jl 2 rfl) ?_
    refine va_get (D := D) (ci := 2) (v := .int S_x5) (C := RX2) (T := TX2) (N := 10) hx hb hts in2 hown jK.1 jP 0 rfl rfl 5 (by decide) (hts _ w_68) (fun _ h9 => h9) rfl dX2_remove_34 ?_
    refine lv_iload_n hx hb dX2_remove_37 rfl (lv_at jl 3 rfl) ?_
    refine lv_isub hx hb dX2_remove_38 ?_
    refine lv_iconst (v := (1 : Int32)) hx hb dX2_remove_39 (by decide) ?_
    refine lv_isub hx hb dX2_remove_40 ?_
    obtain ⟨hcp, h⟩ := ckC_some h
    refine va_copyi (f := S_r0) (g := S_r0) hx hb (hml.trans jl.1.symm) hown (hts _ w_606) (hts _ w_607) (hts _ w_608) (hts _ w_609) jK.1 jP jD jS 1 1 0 0 rfl rfl rfl rfl rfl hcp.1 hcp.2.1 hcp.2.2.1 hcp.2.2.2.1 hcp.2.2.2.2 (fun _ _ => rfl) (Nat.le_trans (by decide) hf1) (Nat.le_trans (Nat.le_of_ble_eq_true rfl) hf2) dX2_remove_41 (fun H locs jP jD jS => ?_)
    have jP : va_P D vwCl (sW cI uS aS S_x5 S_x6 S_x7 S_x8 S_x9 (va_cpy S_r0 S_r0 (a1 + (1 : Int32)).toNatClampNeg a1.toNatClampNeg ((S_x5 - a1) - (1 : Int32)).toNatClampNeg) S_r1 S_r2 S_r3 S_r4) H := jP
    have jD : va_D A (sW cI uS aS S_x5 S_x6 S_x7 S_x8 S_x9 (va_cpy S_r0 S_r0 (a1 + (1 : Int32)).toNatClampNeg a1.toNatClampNeg ((S_x5 - a1) - (1 : Int32)).toNatClampNeg) S_r1 S_r2 S_r3 S_r4) := jD
    refine lv_iinc (v := (1 : Int32)) (lv' := [(2, .int (1 : Int32)), (3, .ref (aS 0)), (0, .ref uS), (1, .int a1)]) hx hb dX2_remove_44 jl (k := 1) rfl (by decide) (by decide) rfl (fun ls jl => ?_)
    refine lv_goto (tgt := 16) hx hb dX2_remove_47 (by decide) ?_
    refine lv_iload_n hx hb dX2_remove_16 rfl (lv_at jl 0 rfl) ?_
    refine lv_iconst (v := (4 : Int32)) hx hb dX2_remove_17 (by decide) ?_
    refine lv_icmp_gt (tgt := 50) hx hb dX2_remove_18 (by decide) (fun q => absurd q (by decide)) (fun _ => ?_)
    refine lv_aload_n hx hb dX2_remove_21 rfl (lv_at jl 2 rfl) ?_
    refine lv_iload_n hx hb dX2_remove_22 rfl (lv_at jl 0 rfl) ?_
    obtain ⟨t6, hc7, h⟩ := bd_some h
    refine callW (w1 := (sW cI uS aS S_x5 S_x6 S_x7 S_x8 S_x9 (va_cpy S_r0 S_r0 (a1 + (1 : Int32)).toNatClampNeg a1.toNatClampNeg ((S_x5 - a1) - (1 : Int32)).toNatClampNeg) S_r1 S_r2 S_r3 S_r4)) (As := [.int (1 : Int32)]) (rest := []) (st1 := [.ref (aS 1)]) 0 F (kX2_row1 l D cI cB cS uS aS S_x5 S_x6 S_x7 S_x8 S_x9 (va_cpy S_r0 S_r0 (a1 + (1 : Int32)).toNatClampNeg a1.toNatClampNeg ((S_x5 - a1) - (1 : Int32)).toNatClampNeg) S_r1 S_r2 S_r3 S_r4 (1 : Int32) _ hc7 rfl) okX2_row w_610 (by decide) (by decide) ⟨Nat.zero_le _, Nat.zero_le _⟩ rfl rfl rfl jP jD jS rfl jl.1 rfl rfl (Nat.le_of_ble_eq_true rfl) dX2_remove_23 (fun H locs jP jD jS => ?_)
    refine lv_astore_n (lv' := [(3, .ref (aS 1)), (2, .int (1 : Int32)), (0, .ref uS), (1, .int a1)]) hx hb dX2_remove_26 rfl jl (by decide) rfl (fun ls jl => ?_)
    refine lv_aload_n hx hb dX2_remove_27 rfl (lv_at jl 0 rfl) ?_
    refine lv_iload_n hx hb dX2_remove_28 rfl (lv_at jl 3 rfl) ?_
    refine lv_iconst (v := (1 : Int32)) hx hb dX2_remove_29 (by decide) ?_
    refine lv_iadd hx hb dX2_remove_30 ?_
    refine lv_aload_n hx hb dX2_remove_31 rfl (lv_at jl 0 rfl) ?_
    refine lv_iload_n hx hb dX2_remove_32 rfl (lv_at jl 3 rfl) ?_
    refine lv_aload_n hx hb dX2_remove_33 rfl (lv_at jl 2 rfl) ?_
    refine va_get (D := D) (ci := 2) (v := .int S_x5) (C := RX2) (T := TX2) (N := 10) hx hb hts in2 hown jK.1 jP 0 rfl rfl 5 (by decide) (hts _ w_68) (fun _ h9 => h9) rfl dX2_remove_34 ?_
    refine lv_iload_n hx hb dX2_remove_37 rfl (lv_at jl 3 rfl) ?_
    refine lv_isub hx hb dX2_remove_38 ?_
    refine lv_iconst (v := (1 : Int32)) hx hb dX2_remove_39 (by decide) ?_
    refine lv_isub hx hb dX2_remove_40 ?_
    obtain ⟨hcp, h⟩ := ckC_some h
    refine va_copyi (f := S_r1) (g := S_r1) hx hb (hml.trans jl.1.symm) hown (hts _ w_606) (hts _ w_607) (hts _ w_608) (hts _ w_609) jK.1 jP jD jS 2 2 0 0 rfl rfl rfl rfl rfl hcp.1 hcp.2.1 hcp.2.2.1 hcp.2.2.2.1 hcp.2.2.2.2 (fun _ _ => rfl) (Nat.le_trans (by decide) hf1) (Nat.le_trans (Nat.le_of_ble_eq_true rfl) hf2) dX2_remove_41 (fun H locs jP jD jS => ?_)
    have jP : va_P D vwCl (sW cI uS aS S_x5 S_x6 S_x7 S_x8 S_x9 (va_cpy S_r0 S_r0 (a1 + (1 : Int32)).toNatClampNeg a1.toNatClampNeg ((S_x5 - a1) - (1 : Int32)).toNatClampNeg) (va_cpy S_r1 S_r1 (a1 + (1 : Int32)).toNatClampNeg a1.toNatClampNeg ((S_x5 - a1) - (1 : Int32)).toNatClampNeg) S_r2 S_r3 S_r4) H := jP
    have jD : va_D A (sW cI uS aS S_x5 S_x6 S_x7 S_x8 S_x9 (va_cpy S_r0 S_r0 (a1 + (1 : Int32)).toNatClampNeg a1.toNatClampNeg ((S_x5 - a1) - (1 : Int32)).toNatClampNeg) (va_cpy S_r1 S_r1 (a1 + (1 : Int32)).toNatClampNeg a1.toNatClampNeg ((S_x5 - a1) - (1 : Int32)).toNatClampNeg) S_r2 S_r3 S_r4) := jD
    refine lv_iinc (v := (2 : Int32)) (lv' := [(2, .int (2 : Int32)), (3, .ref (aS 1)), (0, .ref uS), (1, .int a1)]) hx hb dX2_remove_44 jl (k := 1) rfl (by decide) (by decide) rfl (fun ls jl => ?_)
    refine lv_goto (tgt := 16) hx hb dX2_remove_47 (by decide) ?_
    refine lv_iload_n hx hb dX2_remove_16 rfl (lv_at jl 0 rfl) ?_
    refine lv_iconst (v := (4 : Int32)) hx hb dX2_remove_17 (by decide) ?_
    refine lv_icmp_gt (tgt := 50) hx hb dX2_remove_18 (by decide) (fun q => absurd q (by decide)) (fun _ => ?_)
    refine lv_aload_n hx hb dX2_remove_21 rfl (lv_at jl 2 rfl) ?_
    refine lv_iload_n hx hb dX2_remove_22 rfl (lv_at jl 0 rfl) ?_
    obtain ⟨t8, hc9, h⟩ := bd_some h
    refine callW (w1 := (sW cI uS aS S_x5 S_x6 S_x7 S_x8 S_x9 (va_cpy S_r0 S_r0 (a1 + (1 : Int32)).toNatClampNeg a1.toNatClampNeg ((S_x5 - a1) - (1 : Int32)).toNatClampNeg) (va_cpy S_r1 S_r1 (a1 + (1 : Int32)).toNatClampNeg a1.toNatClampNeg ((S_x5 - a1) - (1 : Int32)).toNatClampNeg) S_r2 S_r3 S_r4)) (As := [.int (2 : Int32)]) (rest := []) (st1 := [.ref (aS 2)]) 0 F (kX2_row2 l D cI cB cS uS aS S_x5 S_x6 S_x7 S_x8 S_x9 (va_cpy S_r0 S_r0 (a1 + (1 : Int32)).toNatClampNeg a1.toNatClampNeg ((S_x5 - a1) - (1 : Int32)).toNatClampNeg) (va_cpy S_r1 S_r1 (a1 + (1 : Int32)).toNatClampNeg a1.toNatClampNeg ((S_x5 - a1) - (1 : Int32)).toNatClampNeg) S_r2 S_r3 S_r4 (2 : Int32) _ hc9 rfl) okX2_row w_610 (by decide) (by decide) ⟨Nat.zero_le _, Nat.zero_le _⟩ rfl rfl rfl jP jD jS rfl jl.1 rfl rfl (Nat.le_of_ble_eq_true rfl) dX2_remove_23 (fun H locs jP jD jS => ?_)
    refine lv_astore_n (lv' := [(3, .ref (aS 2)), (2, .int (2 : Int32)), (0, .ref uS), (1, .int a1)]) hx hb dX2_remove_26 rfl jl (by decide) rfl (fun ls jl => ?_)
    refine lv_aload_n hx hb dX2_remove_27 rfl (lv_at jl 0 rfl) ?_
    refine lv_iload_n hx hb dX2_remove_28 rfl (lv_at jl 3 rfl) ?_
    refine lv_iconst (v := (1 : Int32)) hx hb dX2_remove_29 (by decide) ?_
    refine lv_iadd hx hb dX2_remove_30 ?_
    refine lv_aload_n hx hb dX2_remove_31 rfl (lv_at jl 0 rfl) ?_
    refine lv_iload_n hx hb dX2_remove_32 rfl (lv_at jl 3 rfl) ?_
    refine lv_aload_n hx hb dX2_remove_33 rfl (lv_at jl 2 rfl) ?_
    refine va_get (D := D) (ci := 2) (v := .int S_x5) (C := RX2) (T := TX2) (N := 10) hx hb hts in2 hown jK.1 jP 0 rfl rfl 5 (by decide) (hts _ w_68) (fun _ h9 => h9) rfl dX2_remove_34 ?_
    refine lv_iload_n hx hb dX2_remove_37 rfl (lv_at jl 3 rfl) ?_
    refine lv_isub hx hb dX2_remove_38 ?_
    refine lv_iconst (v := (1 : Int32)) hx hb dX2_remove_39 (by decide) ?_
    refine lv_isub hx hb dX2_remove_40 ?_
    obtain ⟨hcp, h⟩ := ckC_some h
    refine va_copyi (f := S_r2) (g := S_r2) hx hb (hml.trans jl.1.symm) hown (hts _ w_606) (hts _ w_607) (hts _ w_608) (hts _ w_609) jK.1 jP jD jS 3 3 0 0 rfl rfl rfl rfl rfl hcp.1 hcp.2.1 hcp.2.2.1 hcp.2.2.2.1 hcp.2.2.2.2 (fun _ _ => rfl) (Nat.le_trans (by decide) hf1) (Nat.le_trans (Nat.le_of_ble_eq_true rfl) hf2) dX2_remove_41 (fun H locs jP jD jS => ?_)
    have jP : va_P D vwCl (sW cI uS aS S_x5 S_x6 S_x7 S_x8 S_x9 (va_cpy S_r0 S_r0 (a1 + (1 : Int32)).toNatClampNeg a1.toNatClampNeg ((S_x5 - a1) - (1 : Int32)).toNatClampNeg) (va_cpy S_r1 S_r1 (a1 + (1 : Int32)).toNatClampNeg a1.toNatClampNeg ((S_x5 - a1) - (1 : Int32)).toNatClampNeg) (va_cpy S_r2 S_r2 (a1 + (1 : Int32)).toNatClampNeg a1.toNatClampNeg ((S_x5 - a1) - (1 : Int32)).toNatClampNeg) S_r3 S_r4) H := jP
    have jD : va_D A (sW cI uS aS S_x5 S_x6 S_x7 S_x8 S_x9 (va_cpy S_r0 S_r0 (a1 + (1 : Int32)).toNatClampNeg a1.toNatClampNeg ((S_x5 - a1) - (1 : Int32)).toNatClampNeg) (va_cpy S_r1 S_r1 (a1 + (1 : Int32)).toNatClampNeg a1.toNatClampNeg ((S_x5 - a1) - (1 : Int32)).toNatClampNeg) (va_cpy S_r2 S_r2 (a1 + (1 : Int32)).toNatClampNeg a1.toNatClampNeg ((S_x5 - a1) - (1 : Int32)).toNatClampNeg) S_r3 S_r4) := jD
    refine lv_iinc (v := (3 : Int32)) (lv' := [(2, .int (3 : Int32)), (3, .ref (aS 2)), (0, .ref uS), (1, .int a1)]) hx hb dX2_remove_44 jl (k := 1) rfl (by decide) (by decide) rfl (fun ls jl => ?_)
    refine lv_goto (tgt := 16) hx hb dX2_remove_47 (by decide) ?_
    refine lv_iload_n hx hb dX2_remove_16 rfl (lv_at jl 0 rfl) ?_
    refine lv_iconst (v := (4 : Int32)) hx hb dX2_remove_17 (by decide) ?_
    refine lv_icmp_gt (tgt := 50) hx hb dX2_remove_18 (by decide) (fun q => absurd q (by decide)) (fun _ => ?_)
    refine lv_aload_n hx hb dX2_remove_21 rfl (lv_at jl 2 rfl) ?_
    refine lv_iload_n hx hb dX2_remove_22 rfl (lv_at jl 0 rfl) ?_
    obtain ⟨t10, hc11, h⟩ := bd_some h
    refine callW (w1 := (sW cI uS aS S_x5 S_x6 S_x7 S_x8 S_x9 (va_cpy S_r0 S_r0 (a1 + (1 : Int32)).toNatClampNeg a1.toNatClampNeg ((S_x5 - a1) - (1 : Int32)).toNatClampNeg) (va_cpy S_r1 S_r1 (a1 + (1 : Int32)).toNatClampNeg a1.toNatClampNeg ((S_x5 - a1) - (1 : Int32)).toNatClampNeg) (va_cpy S_r2 S_r2 (a1 + (1 : Int32)).toNatClampNeg a1.toNatClampNeg ((S_x5 - a1) - (1 : Int32)).toNatClampNeg) S_r3 S_r4)) (As := [.int (3 : Int32)]) (rest := []) (st1 := [.ref (aS 3)]) 0 F (kX2_row3 l D cI cB cS uS aS S_x5 S_x6 S_x7 S_x8 S_x9 (va_cpy S_r0 S_r0 (a1 + (1 : Int32)).toNatClampNeg a1.toNatClampNeg ((S_x5 - a1) - (1 : Int32)).toNatClampNeg) (va_cpy S_r1 S_r1 (a1 + (1 : Int32)).toNatClampNeg a1.toNatClampNeg ((S_x5 - a1) - (1 : Int32)).toNatClampNeg) (va_cpy S_r2 S_r2 (a1 + (1 : Int32)).toNatClampNeg a1.toNatClampNeg ((S_x5 - a1) - (1 : Int32)).toNatClampNeg) S_r3 S_r4 (3 : Int32) _ hc11 rfl) okX2_row w_610 (by decide) (by decide) ⟨Nat.zero_le _, Nat.zero_le _⟩ rfl rfl rfl jP jD jS rfl jl.1 rfl rfl (Nat.le_of_ble_eq_true rfl) dX2_remove_23 (fun H locs jP jD jS => ?_)
    refine lv_astore_n (lv' := [(3, .ref (aS 3)), (2, .int (3 : Int32)), (0, .ref uS), (1, .int a1)]) hx hb dX2_remove_26 rfl jl (by decide) rfl (fun ls jl => ?_)
    refine lv_aload_n hx hb dX2_remove_27 rfl (lv_at jl 0 rfl) ?_
    refine lv_iload_n hx hb dX2_remove_28 rfl (lv_at jl 3 rfl) ?_
    refine lv_iconst (v := (1 : Int32)) hx hb dX2_remove_29 (by decide) ?_
    refine lv_iadd hx hb dX2_remove_30 ?_
    refine lv_aload_n hx hb dX2_remove_31 rfl (lv_at jl 0 rfl) ?_
    refine lv_iload_n hx hb dX2_remove_32 rfl (lv_at jl 3 rfl) ?_
    refine lv_aload_n hx hb dX2_remove_33 rfl (lv_at jl 2 rfl) ?_
    refine va_get (D := D) (ci := 2) (v := .int S_x5) (C := RX2) (T := TX2) (N := 10) hx hb hts in2 hown jK.1 jP 0 rfl rfl 5 (by decide) (hts _ w_68) (fun _ h9 => h9) rfl dX2_remove_34 ?_
    refine lv_iload_n hx hb dX2_remove_37 rfl (lv_at jl 3 rfl) ?_
    refine lv_isub hx hb dX2_remove_38 ?_
    refine lv_iconst (v := (1 : Int32)) hx hb dX2_remove_39 (by decide) ?_
    refine lv_isub hx hb dX2_remove_40 ?_
    obtain ⟨hcp, h⟩ := ckC_some h
    refine va_copyi (f := S_r3) (g := S_r3) hx hb (hml.trans jl.1.symm) hown (hts _ w_606) (hts _ w_607) (hts _ w_608) (hts _ w_609) jK.1 jP jD jS 4 4 0 0 rfl rfl rfl rfl rfl hcp.1 hcp.2.1 hcp.2.2.1 hcp.2.2.2.1 hcp.2.2.2.2 (fun _ _ => rfl) (Nat.le_trans (by decide) hf1) (Nat.le_trans (Nat.le_of_ble_eq_true rfl) hf2) dX2_remove_41 (fun H locs jP jD jS => ?_)
    have jP : va_P D vwCl (sW cI uS aS S_x5 S_x6 S_x7 S_x8 S_x9 (va_cpy S_r0 S_r0 (a1 + (1 : Int32)).toNatClampNeg a1.toNatClampNeg ((S_x5 - a1) - (1 : Int32)).toNatClampNeg) (va_cpy S_r1 S_r1 (a1 + (1 : Int32)).toNatClampNeg a1.toNatClampNeg ((S_x5 - a1) - (1 : Int32)).toNatClampNeg) (va_cpy S_r2 S_r2 (a1 + (1 : Int32)).toNatClampNeg a1.toNatClampNeg ((S_x5 - a1) - (1 : Int32)).toNatClampNeg) (va_cpy S_r3 S_r3 (a1 + (1 : Int32)).toNatClampNeg a1.toNatClampNeg ((S_x5 - a1) - (1 : Int32)).toNatClampNeg) S_r4) H := jP
    have jD : va_D A (sW cI uS aS S_x5 S_x6 S_x7 S_x8 S_x9 (va_cpy S_r0 S_r0 (a1 + (1 : Int32)).toNatClampNeg a1.toNatClampNeg ((S_x5 - a1) - (1 : Int32)).toNatClampNeg) (va_cpy S_r1 S_r1 (a1 + (1 : Int32)).toNatClampNeg a1.toNatClampNeg ((S_x5 - a1) - (1 : Int32)).toNatClampNeg) (va_cpy S_r2 S_r2 (a1 + (1 : Int32)).toNatClampNeg a1.toNatClampNeg ((S_x5 - a1) - (1 : Int32)).toNatClampNeg) (va_cpy S_r3 S_r3 (a1 + (1 : Int32)).toNatClampNeg a1.toNatClampNeg ((S_x5 - a1) - (1 : Int32)).toNatClampNeg) S_r4) := jD
    refine lv_iinc (v := (4 : Int32)) (lv' := [(2, .int (4 : Int32)), (3, .ref (aS 3)), (0, .ref uS), (1, .int a1)]) hx hb dX2_remove_44 jl (k := 1) rfl (by decide) (by decide) rfl (fun ls jl => ?_)
    refine lv_goto (tgt := 16) hx hb dX2_remove_47 (by decide) ?_
    refine lv_iload_n hx hb dX2_remove_16 rfl (lv_at jl 0 rfl) ?_
    refine lv_iconst (v := (4 : Int32)) hx hb dX2_remove_17 (by decide) ?_
    refine lv_icmp_gt (tgt := 50) hx hb dX2_remove_18 (by decide) (fun q => absurd q (by decide)) (fun _ => ?_)
    refine lv_aload_n hx hb dX2_remove_21 rfl (lv_at jl 2 rfl) ?_
    refine lv_iload_n hx hb dX2_remove_22 rfl (lv_at jl 0 rfl) ?_
    obtain ⟨t12, hc13, h⟩ := bd_some h
    refine callW (w1 := (sW cI uS aS S_x5 S_x6 S_x7 S_x8 S_x9 (va_cpy S_r0 S_r0 (a1 + (1 : Int32)).toNatClampNeg a1.toNatClampNeg ((S_x5 - a1) - (1 : Int32)).toNatClampNeg) (va_cpy S_r1 S_r1 (a1 + (1 : Int32)).toNatClampNeg a1.toNatClampNeg ((S_x5 - a1) - (1 : Int32)).toNatClampNeg) (va_cpy S_r2 S_r2 (a1 + (1 : Int32)).toNatClampNeg a1.toNatClampNeg ((S_x5 - a1) - (1 : Int32)).toNatClampNeg) (va_cpy S_r3 S_r3 (a1 + (1 : Int32)).toNatClampNeg a1.toNatClampNeg ((S_x5 - a1) - (1 : Int32)).toNatClampNeg) S_r4)) (As := [.int (4 : Int32)]) (rest := []) (st1 := [.ref (aS 4)]) 0 F (kX2_row4 l D cI cB cS uS aS S_x5 S_x6 S_x7 S_x8 S_x9 (va_cpy S_r0 S_r0 (a1 + (1 : Int32)).toNatClampNeg a1.toNatClampNeg ((S_x5 - a1) - (1 : Int32)).toNatClampNeg) (va_cpy S_r1 S_r1 (a1 + (1 : Int32)).toNatClampNeg a1.toNatClampNeg ((S_x5 - a1) - (1 : Int32)).toNatClampNeg) (va_cpy S_r2 S_r2 (a1 + (1 : Int32)).toNatClampNeg a1.toNatClampNeg ((S_x5 - a1) - (1 : Int32)).toNatClampNeg) (va_cpy S_r3 S_r3 (a1 + (1 : Int32)).toNatClampNeg a1.toNatClampNeg ((S_x5 - a1) - (1 : Int32)).toNatClampNeg) S_r4 (4 : Int32) _ hc13 (by decide) (by decide) (by decide) (by decide)) okX2_row w_610 (by decide) (by decide) ⟨Nat.zero_le _, Nat.zero_le _⟩ rfl rfl rfl jP jD jS rfl jl.1 rfl rfl (Nat.le_of_ble_eq_true rfl) dX2_remove_23 (fun H locs jP jD jS => ?_)
    refine lv_astore_n (lv' := [(3, .ref (aS 4)), (2, .int (4 : Int32)), (0, .ref uS), (1, .int a1)]) hx hb dX2_remove_26 rfl jl (by decide) rfl (fun ls jl => ?_)
    refine lv_aload_n hx hb dX2_remove_27 rfl (lv_at jl 0 rfl) ?_
    refine lv_iload_n hx hb dX2_remove_28 rfl (lv_at jl 3 rfl) ?_
    refine lv_iconst (v := (1 : Int32)) hx hb dX2_remove_29 (by decide) ?_
    refine lv_iadd hx hb dX2_remove_30 ?_
    refine lv_aload_n hx hb dX2_remove_31 rfl (lv_at jl 0 rfl) ?_
    refine lv_iload_n hx hb dX2_remove_32 rfl (lv_at jl 3 rfl) ?_
    refine lv_aload_n hx hb dX2_remove_33 rfl (lv_at jl 2 rfl) ?_
    refine va_get (D := D) (ci := 2) (v := .int S_x5) (C := RX2) (T := TX2) (N := 10) hx hb hts in2 hown jK.1 jP 0 rfl rfl 5 (by decide) (hts _ w_68) (fun _ h9 => h9) rfl dX2_remove_34 ?_
    refine lv_iload_n hx hb dX2_remove_37 rfl (lv_at jl 3 rfl) ?_
    refine lv_isub hx hb dX2_remove_38 ?_
    refine lv_iconst (v := (1 : Int32)) hx hb dX2_remove_39 (by decide) ?_
    refine lv_isub hx hb dX2_remove_40 ?_
    obtain ⟨hcp, h⟩ := ckC_some h
    refine va_copyi (f := S_r4) (g := S_r4) hx hb (hml.trans jl.1.symm) hown (hts _ w_606) (hts _ w_607) (hts _ w_608) (hts _ w_609) jK.1 jP jD jS 5 5 0 0 rfl rfl rfl rfl rfl hcp.1 hcp.2.1 hcp.2.2.1 hcp.2.2.2.1 hcp.2.2.2.2 (fun _ _ => rfl) (Nat.le_trans (by decide) hf1) (Nat.le_trans (Nat.le_of_ble_eq_true rfl) hf2) dX2_remove_41 (fun H locs jP jD jS => ?_)
    have jP : va_P D vwCl (sW cI uS aS S_x5 S_x6 S_x7 S_x8 S_x9 (va_cpy S_r0 S_r0 (a1 + (1 : Int32)).toNatClampNeg a1.toNatClampNeg ((S_x5 - a1) - (1 : Int32)).toNatClampNeg) (va_cpy S_r1 S_r1 (a1 + (1 : Int32)).toNatClampNeg a1.toNatClampNeg ((S_x5 - a1) - (1 : Int32)).toNatClampNeg) (va_cpy S_r2 S_r2 (a1 + (1 : Int32)).toNatClampNeg a1.toNatClampNeg ((S_x5 - a1) - (1 : Int32)).toNatClampNeg) (va_cpy S_r3 S_r3 (a1 + (1 : Int32)).toNatClampNeg a1.toNatClampNeg ((S_x5 - a1) - (1 : Int32)).toNatClampNeg) (va_cpy S_r4 S_r4 (a1 + (1 : Int32)).toNatClampNeg a1.toNatClampNeg ((S_x5 - a1) - (1 : Int32)).toNatClampNeg)) H := jP
    have jD : va_D A (sW cI uS aS S_x5 S_x6 S_x7 S_x8 S_x9 (va_cpy S_r0 S_r0 (a1 + (1 : Int32)).toNatClampNeg a1.toNatClampNeg ((S_x5 - a1) - (1 : Int32)).toNatClampNeg) (va_cpy S_r1 S_r1 (a1 + (1 : Int32)).toNatClampNeg a1.toNatClampNeg ((S_x5 - a1) - (1 : Int32)).toNatClampNeg) (va_cpy S_r2 S_r2 (a1 + (1 : Int32)).toNatClampNeg a1.toNatClampNeg ((S_x5 - a1) - (1 : Int32)).toNatClampNeg) (va_cpy S_r3 S_r3 (a1 + (1 : Int32)).toNatClampNeg a1.toNatClampNeg ((S_x5 - a1) - (1 : Int32)).toNatClampNeg) (va_cpy S_r4 S_r4 (a1 + (1 : Int32)).toNatClampNeg a1.toNatClampNeg ((S_x5 - a1) - (1 : Int32)).toNatClampNeg)) := jD
    refine lv_iinc (v := (5 : Int32)) (lv' := [(2, .int (5 : Int32)), (3, .ref (aS 4)), (0, .ref uS), (1, .int a1)]) hx hb dX2_remove_44 jl (k := 1) rfl (by decide) (by decide) rfl (fun ls jl => ?_)
    refine lv_goto (tgt := 16) hx hb dX2_remove_47 (by decide) ?_
    refine lv_iload_n hx hb dX2_remove_16 rfl (lv_at jl 0 rfl) ?_
    refine lv_iconst (v := (4 : Int32)) hx hb dX2_remove_17 (by decide) ?_
    refine lv_icmp_gt (tgt := 50) hx hb dX2_remove_18 (by decide) (fun _ => ?_) (fun q => absurd q (by decide))
    refine lv_aload_n hx hb dX2_remove_50 rfl (lv_at jl 2 rfl) ?_
    refine lv_dup hx hb dX2_remove_51 rfl ?_
    refine va_get (D := D) (ci := 2) (v := .int S_x5) (C := RX2) (T := TX2) (N := 10) hx hb hts in2 hown jK.1 jP 0 rfl rfl 5 (by decide) (hts _ w_68) (fun _ h9 => h9) rfl dX2_remove_52 ?_
    refine lv_iconst (v := (1 : Int32)) hx hb dX2_remove_55 (by decide) ?_
    refine lv_isub hx hb dX2_remove_56 ?_
    refine va_put (D := D) (ci := 2) (v := .int (S_x5 - (1 : Int32))) (ty := .int) (C := RX2) (T := TX2) (N := 10) hx hb hts in2 tyX2 tyX2_ok nmX2 hown jK.1 jP jD jS 0 rfl rfl 5 (by decide) (hts _ w_68) (fun _ h9 => h9) rfl (by decide +kernel) rfl rfl (Nat.le_of_ble_eq_true rfl) dX2_remove_57 (fun H locs jP jD jS => ?_)
    have jP : va_P D vwCl (sW cI uS aS (S_x5 - (1 : Int32)) S_x6 S_x7 S_x8 S_x9 (va_cpy S_r0 S_r0 (a1 + (1 : Int32)).toNatClampNeg a1.toNatClampNeg ((S_x5 - a1) - (1 : Int32)).toNatClampNeg) (va_cpy S_r1 S_r1 (a1 + (1 : Int32)).toNatClampNeg a1.toNatClampNeg ((S_x5 - a1) - (1 : Int32)).toNatClampNeg) (va_cpy S_r2 S_r2 (a1 + (1 : Int32)).toNatClampNeg a1.toNatClampNeg ((S_x5 - a1) - (1 : Int32)).toNatClampNeg) (va_cpy S_r3 S_r3 (a1 + (1 : Int32)).toNatClampNeg a1.toNatClampNeg ((S_x5 - a1) - (1 : Int32)).toNatClampNeg) (va_cpy S_r4 S_r4 (a1 + (1 : Int32)).toNatClampNeg a1.toNatClampNeg ((S_x5 - a1) - (1 : Int32)).toNatClampNeg)) H := jP
    have jD : va_D A (sW cI uS aS (S_x5 - (1 : Int32)) S_x6 S_x7 S_x8 S_x9 (va_cpy S_r0 S_r0 (a1 + (1 : Int32)).toNatClampNeg a1.toNatClampNeg ((S_x5 - a1) - (1 : Int32)).toNatClampNeg) (va_cpy S_r1 S_r1 (a1 + (1 : Int32)).toNatClampNeg a1.toNatClampNeg ((S_x5 - a1) - (1 : Int32)).toNatClampNeg) (va_cpy S_r2 S_r2 (a1 + (1 : Int32)).toNatClampNeg a1.toNatClampNeg ((S_x5 - a1) - (1 : Int32)).toNatClampNeg) (va_cpy S_r3 S_r3 (a1 + (1 : Int32)).toNatClampNeg a1.toNatClampNeg ((S_x5 - a1) - (1 : Int32)).toNatClampNeg) (va_cpy S_r4 S_r4 (a1 + (1 : Int32)).toNatClampNeg a1.toNatClampNeg ((S_x5 - a1) - (1 : Int32)).toNatClampNeg)) := jD
    obtain rfl := Option.some.inj h
    exact hRet _ _ _ _ jP jD jS dX2_remove_60
theorem okX2_allows : okV yX2_allows cX2_allows 4 (some .boolean) 3 := ⟨w_300, w_301, w_302, w_31, by decide, by decide, by decide +kernel⟩
def fX2_allows (S_r0 : (Nat → Int32)) (S_r4 : (Nat → Int32)) (a1 : Int32) (a2 : Int32) (a3 : Int32) : Option Int32 :=
  if a2 = (0 : Int32) then (ckI a1 8 (bd (fX5_isWithin a3 (if (1 : Int32) < (S_r4 a1.toNatClampNeg) then (S_r4 a1.toNatClampNeg) else (1 : Int32)) (50 : Int32)) (fun t5 => ckB t5 (some t5)))) else (if a2 = (1 : Int32) then (bd (fX5_isWithin a3 (0 : Int32) (99 : Int32)) (fun t7 => ckB t7 (some t7))) else (if a2 = (2 : Int32) then (bd (fX5_isWithin a3 (0 : Int32) (99 : Int32)) (fun t9 => ckB t9 (some t9))) else (if a2 = (3 : Int32) then (bd (fX5_isWithin a3 (0 : Int32) (10 : Int32)) (fun t11 => ckB t11 (some t11))) else (ckI a1 8 (bd (fX5_isWithin a3 (0 : Int32) (S_r0 a1.toNatClampNeg)) (fun t13 => ckB t13 (some t13)))))))
set_option maxRecDepth 100000 in
set_option maxHeartbeats 4000000 in
theorem kX2_allows (l : Launch) (D : va_G) (cI cB cS : ClassId) (uS : Nat) (aS : Nat → Nat) (S_x5 : Int32) (S_x6 : Int32) (S_x7 : Int32) (S_x8 : Int32) (S_x9 : Int32) (S_r0 : (Nat → Int32)) (S_r1 : (Nat → Int32)) (S_r2 : (Nat → Int32)) (S_r3 : (Nat → Int32)) (S_r4 : (Nat → Int32)) (a1 : Int32) (a2 : Int32) (a3 : Int32) (z : Int32) (h : fX2_allows S_r0 S_r4 a1 a2 a3 = some z) : Mt l yX2_allows cX2_allows 4 (some .boolean) 1 40 D cI cB cS (sW cI uS aS S_x5 S_x6 S_x7 S_x8 S_x9 S_r0 S_r1 S_r2 S_r3 S_r4) (sW cI uS aS S_x5 S_x6 S_x7 S_x8 S_x9 S_r0 S_r1 S_r2 S_r3 S_r4) [.ref uS, .int a1, .int a2, .int a3] (some (.int z)) := by
  refine entryZ (by decide +kernel) rfl (Nat.le_of_ble_eq_true rfl) ?_
  intro p e s m below meth c A ls QQ R ar F hRet jP jD jS jl
  obtain ⟨hx, hb, hml, hown, hts, jK, hA, hf1, hf2⟩ := id F
  have jl : lv_has ls 4 [(0, .ref uS), (1, .int a1), (2, .int a2), (3, .int a3)] := jl
  unfold fX2_allows at h
  refine lv_iload_n hx hb dX2_allows_0 rfl (lv_at jl 2 rfl) ?_
  by_cases hk1 : a2 = (0 : Int32)
  · have h := itp hk1 h
    refine swIn (k := 0) (tgt := 32) hx hb hk1 dX2_allows_1 (by decide) (by decide) rfl (by decide) ?_
    refine lv_iload_n hx hb dX2_allows_32 rfl (lv_at jl 3 rfl) ?_
    refine lv_iconst (v := (1 : Int32)) hx hb dX2_allows_33 (by decide) ?_
    refine lv_aload_n hx hb dX2_allows_34 rfl (lv_at jl 0 rfl) ?_
    refine va_get (D := D) (ci := 2) (v := .ref (aS 4)) (C := RX2) (T := TX2) (N := 10) hx hb hts in2 hown jK.1 jP 0 rfl rfl 4 (by decide) (hts _ w_63) (fun _ h9 => h9) rfl dX2_allows_35 ?_
    refine lv_iload_n hx hb dX2_allows_38 rfl (lv_at jl 1 rfl) ?_
    obtain ⟨hin, h⟩ := ckI_some h
    refine va_iald (f := S_r4) hx hb jK.1 jP 5 0 rfl rfl hin dX2_allows_39 ?_
    refine va_mmax hx hb (hml.trans jl.1.symm) hown (hts _ w_303) (hts _ w_304) (hts _ w_305) (hts _ w_306) (Nat.le_trans (by decide) hf1) (Nat.le_trans (Nat.le_of_ble_eq_true rfl) hf2) (Nat.zero_le _) (Nat.zero_le _) dX2_allows_40 ?_
    refine lv_bipush (v := (50 : Int32)) hx hb dX2_allows_43 (by decide) ?_
    obtain ⟨t5, hc6, h⟩ := bd_some h
    refine call0N (As := [.int a3, .int (if (1 : Int32) < (S_r4 a1.toNatClampNeg) then (S_r4 a1.toNatClampNeg) else (1 : Int32)), .int (50 : Int32)]) (rest := []) (st1 := [.int t5]) F (kX5_isWithin l D cI cB cS  a3 (if (1 : Int32) < (S_r4 a1.toNatClampNeg) then (S_r4 a1.toNatClampNeg) else (1 : Int32)) (50 : Int32) _ hc6 ) okX5_isWithin nl_3 (by decide) (by decide) ⟨Nat.zero_le _, Nat.zero_le _⟩ jP jD jS rfl jl.1 rfl rfl (Nat.le_of_ble_eq_true rfl) dX2_allows_45 (fun H locs jP jD jS => ?_)
    obtain ⟨hbz, h⟩ := ckB_some h
    obtain rfl := Option.some.inj h
    exact hRet _ _ _ _ hbz jP jD jS dX2_allows_48
  · have h := itn hk1 h
    by_cases hk2 : a2 = (1 : Int32)
    · have h := itp hk2 h
      refine swIn (k := 1) (tgt := 49) hx hb hk2 dX2_allows_1 (by decide) (by decide) rfl (by decide) ?_
      refine lv_iload_n hx hb dX2_allows_49 rfl (lv_at jl 3 rfl) ?_
      refine lv_iconst (v := (0 : Int32)) hx hb dX2_allows_50 (by decide) ?_
      refine lv_bipush (v := (99 : Int32)) hx hb dX2_allows_51 (by decide) ?_
      obtain ⟨t7, hc8, h⟩ := bd_some h
      refine call0N (As := [.int a3, .int (0 : Int32), .int (99 : Int32)]) (rest := []) (st1 := [.int t7]) F (kX5_isWithin l D cI cB cS  a3 (0 : Int32) (99 : Int32) _ hc8 ) okX5_isWithin nl_3 (by decide) (by decide) ⟨Nat.zero_le _, Nat.zero_le _⟩ jP jD jS rfl jl.1 rfl rfl (Nat.le_of_ble_eq_true rfl) dX2_allows_53 (fun H locs jP jD jS => ?_)
      obtain ⟨hbz, h⟩ := ckB_some h
      obtain rfl := Option.some.inj h
      exact hRet _ _ _ _ hbz jP jD jS dX2_allows_56
    · have h := itn hk2 h
      by_cases hk3 : a2 = (2 : Int32)
      · have h := itp hk3 h
        refine swIn (k := 2) (tgt := 57) hx hb hk3 dX2_allows_1 (by decide) (by decide) rfl (by decide) ?_
        refine lv_iload_n hx hb dX2_allows_57 rfl (lv_at jl 3 rfl) ?_
        refine lv_iconst (v := (0 : Int32)) hx hb dX2_allows_58 (by decide) ?_
        refine lv_bipush (v := (99 : Int32)) hx hb dX2_allows_59 (by decide) ?_
        obtain ⟨t9, hc10, h⟩ := bd_some h
        refine call0N (As := [.int a3, .int (0 : Int32), .int (99 : Int32)]) (rest := []) (st1 := [.int t9]) F (kX5_isWithin l D cI cB cS  a3 (0 : Int32) (99 : Int32) _ hc10 ) okX5_isWithin nl_3 (by decide) (by decide) ⟨Nat.zero_le _, Nat.zero_le _⟩ jP jD jS rfl jl.1 rfl rfl (Nat.le_of_ble_eq_true rfl) dX2_allows_61 (fun H locs jP jD jS => ?_)
        obtain ⟨hbz, h⟩ := ckB_some h
        obtain rfl := Option.some.inj h
        exact hRet _ _ _ _ hbz jP jD jS dX2_allows_64
      · have h := itn hk3 h
        by_cases hk4 : a2 = (3 : Int32)
        · have h := itp hk4 h
          refine swIn (k := 3) (tgt := 65) hx hb hk4 dX2_allows_1 (by decide) (by decide) rfl (by decide) ?_
          refine lv_iload_n hx hb dX2_allows_65 rfl (lv_at jl 3 rfl) ?_
          refine lv_iconst (v := (0 : Int32)) hx hb dX2_allows_66 (by decide) ?_
          refine lv_bipush (v := (10 : Int32)) hx hb dX2_allows_67 (by decide) ?_
          obtain ⟨t11, hc12, h⟩ := bd_some h
          refine call0N (As := [.int a3, .int (0 : Int32), .int (10 : Int32)]) (rest := []) (st1 := [.int t11]) F (kX5_isWithin l D cI cB cS  a3 (0 : Int32) (10 : Int32) _ hc12 ) okX5_isWithin nl_3 (by decide) (by decide) ⟨Nat.zero_le _, Nat.zero_le _⟩ jP jD jS rfl jl.1 rfl rfl (Nat.le_of_ble_eq_true rfl) dX2_allows_69 (fun H locs jP jD jS => ?_)
          obtain ⟨hbz, h⟩ := ckB_some h
          obtain rfl := Option.some.inj h
          exact hRet _ _ _ _ hbz jP jD jS dX2_allows_72
        · have h := itn hk4 h
          refine lv_tableOut (tgt := 73) hx hb dX2_allows_1 (swNot 3 (by decide) (fun k hk => by rcases (by omega : k = 0 ∨ k = 1 ∨ k = 2 ∨ k = 3) with rfl | rfl | rfl | rfl <;> assumption)) (by decide) ?_
          refine lv_iload_n hx hb dX2_allows_73 rfl (lv_at jl 3 rfl) ?_
          refine lv_iconst (v := (0 : Int32)) hx hb dX2_allows_74 (by decide) ?_
          refine lv_aload_n hx hb dX2_allows_75 rfl (lv_at jl 0 rfl) ?_
          refine va_get (D := D) (ci := 2) (v := .ref (aS 0)) (C := RX2) (T := TX2) (N := 10) hx hb hts in2 hown jK.1 jP 0 rfl rfl 0 (by decide) (hts _ w_59) (fun _ h9 => h9) rfl dX2_allows_76 ?_
          refine lv_iload_n hx hb dX2_allows_79 rfl (lv_at jl 1 rfl) ?_
          obtain ⟨hin, h⟩ := ckI_some h
          refine va_iald (f := S_r0) hx hb jK.1 jP 1 0 rfl rfl hin dX2_allows_80 ?_
          obtain ⟨t13, hc14, h⟩ := bd_some h
          refine call0N (As := [.int a3, .int (0 : Int32), .int (S_r0 a1.toNatClampNeg)]) (rest := []) (st1 := [.int t13]) F (kX5_isWithin l D cI cB cS  a3 (0 : Int32) (S_r0 a1.toNatClampNeg) _ hc14 ) okX5_isWithin nl_3 (by decide) (by decide) ⟨Nat.zero_le _, Nat.zero_le _⟩ jP jD jS rfl jl.1 rfl rfl (Nat.le_of_ble_eq_true rfl) dX2_allows_81 (fun H locs jP jD jS => ?_)
          obtain ⟨hbz, h⟩ := ckB_some h
          obtain rfl := Option.some.inj h
          exact hRet _ _ _ _ hbz jP jD jS dX2_allows_84
theorem okX2_surplus : okV yX2_surplus cX2_surplus 2 (some .int) 1 := ⟨w_406, w_407, w_408, w_31, by decide, by decide, by decide +kernel⟩
def fX2_surplus (S_r1 : (Nat → Int32)) (S_r2 : (Nat → Int32)) (a1 : Int32) : Option Int32 :=
  ckI a1 8 (ckI a1 8 (some ((S_r2 a1.toNatClampNeg) - (S_r1 a1.toNatClampNeg))))
set_option maxRecDepth 100000 in
set_option maxHeartbeats 4000000 in
theorem kX2_surplus (l : Launch) (D : va_G) (cI cB cS : ClassId) (uS : Nat) (aS : Nat → Nat) (S_x5 : Int32) (S_x6 : Int32) (S_x7 : Int32) (S_x8 : Int32) (S_x9 : Int32) (S_r0 : (Nat → Int32)) (S_r1 : (Nat → Int32)) (S_r2 : (Nat → Int32)) (S_r3 : (Nat → Int32)) (S_r4 : (Nat → Int32)) (a1 : Int32) (z : Int32) (h : fX2_surplus S_r1 S_r2 a1 = some z) : Mt l yX2_surplus cX2_surplus 2 (some .int) 0 0 D cI cB cS (sW cI uS aS S_x5 S_x6 S_x7 S_x8 S_x9 S_r0 S_r1 S_r2 S_r3 S_r4) (sW cI uS aS S_x5 S_x6 S_x7 S_x8 S_x9 S_r0 S_r1 S_r2 S_r3 S_r4) [.ref uS, .int a1] (some (.int z)) := by
  refine entryI (by decide +kernel) rfl (Nat.le_of_ble_eq_true rfl) ?_
  intro p e s m below meth c A ls QQ R ar F hRet jP jD jS jl
  obtain ⟨hx, hb, hml, hown, hts, jK, hA, hf1, hf2⟩ := id F
  have jl : lv_has ls 2 [(0, .ref uS), (1, .int a1)] := jl
  unfold fX2_surplus at h
  refine lv_aload_n hx hb dX2_surplus_0 rfl (lv_at jl 0 rfl) ?_
  refine va_get (D := D) (ci := 2) (v := .ref (aS 2)) (C := RX2) (T := TX2) (N := 10) hx hb hts in2 hown jK.1 jP 0 rfl rfl 2 (by decide) (hts _ w_61) (fun _ h9 => h9) rfl dX2_surplus_1 ?_
  refine lv_iload_n hx hb dX2_surplus_4 rfl (lv_at jl 1 rfl) ?_
  obtain ⟨hin, h⟩ := ckI_some h
  refine va_iald (f := S_r2) hx hb jK.1 jP 3 0 rfl rfl hin dX2_surplus_5 ?_
  refine lv_aload_n hx hb dX2_surplus_6 rfl (lv_at jl 0 rfl) ?_
  refine va_get (D := D) (ci := 2) (v := .ref (aS 1)) (C := RX2) (T := TX2) (N := 10) hx hb hts in2 hown jK.1 jP 0 rfl rfl 1 (by decide) (hts _ w_60) (fun _ h9 => h9) rfl dX2_surplus_7 ?_
  refine lv_iload_n hx hb dX2_surplus_10 rfl (lv_at jl 1 rfl) ?_
  obtain ⟨hin, h⟩ := ckI_some h
  refine va_iald (f := S_r1) hx hb jK.1 jP 2 0 rfl rfl hin dX2_surplus_11 ?_
  refine lv_isub hx hb dX2_surplus_12 ?_
  obtain rfl := Option.some.inj h
  exact hRet _ _ _ _ jP jD jS dX2_surplus_13
theorem okX2_isGood : okV yX2_isGood cX2_isGood 2 (some .boolean) 1 := ⟨w_329, w_330, w_331, w_31, by decide, by decide, by decide +kernel⟩
def fX2_isGood (S_r2 : (Nat → Int32)) (S_x6 : Int32) (a1 : Int32) : Option Int32 :=
  ckI a1 8 (if (S_r2 a1.toNatClampNeg) < S_x6 then (some (0 : Int32)) else (some (1 : Int32)))
set_option maxRecDepth 100000 in
set_option maxHeartbeats 4000000 in
theorem kX2_isGood (l : Launch) (D : va_G) (cI cB cS : ClassId) (uS : Nat) (aS : Nat → Nat) (S_x5 : Int32) (S_x6 : Int32) (S_x7 : Int32) (S_x8 : Int32) (S_x9 : Int32) (S_r0 : (Nat → Int32)) (S_r1 : (Nat → Int32)) (S_r2 : (Nat → Int32)) (S_r3 : (Nat → Int32)) (S_r4 : (Nat → Int32)) (a1 : Int32) (z : Int32) (h : fX2_isGood S_r2 S_x6 a1 = some z) : Mt l yX2_isGood cX2_isGood 2 (some .boolean) 0 0 D cI cB cS (sW cI uS aS S_x5 S_x6 S_x7 S_x8 S_x9 S_r0 S_r1 S_r2 S_r3 S_r4) (sW cI uS aS S_x5 S_x6 S_x7 S_x8 S_x9 S_r0 S_r1 S_r2 S_r3 S_r4) [.ref uS, .int a1] (some (.int z)) := by
  refine entryZ (by decide +kernel) rfl (Nat.le_of_ble_eq_true rfl) ?_
  intro p e s m below meth c A ls QQ R ar F hRet jP jD jS jl
  obtain ⟨hx, hb, hml, hown, hts, jK, hA, hf1, hf2⟩ := id F
  have jl : lv_has ls 2 [(0, .ref uS), (1, .int a1)] := jl
  unfold fX2_isGood at h
  refine lv_aload_n hx hb dX2_isGood_0 rfl (lv_at jl 0 rfl) ?_
  refine va_get (D := D) (ci := 2) (v := .ref (aS 2)) (C := RX2) (T := TX2) (N := 10) hx hb hts in2 hown jK.1 jP 0 rfl rfl 2 (by decide) (hts _ w_61) (fun _ h9 => h9) rfl dX2_isGood_1 ?_
  refine lv_iload_n hx hb dX2_isGood_4 rfl (lv_at jl 1 rfl) ?_
  obtain ⟨hin, h⟩ := ckI_some h
  refine va_iald (f := S_r2) hx hb jK.1 jP 3 0 rfl rfl hin dX2_isGood_5 ?_
  refine lv_aload_n hx hb dX2_isGood_6 rfl (lv_at jl 0 rfl) ?_
  refine va_get (D := D) (ci := 2) (v := .int S_x6) (C := RX2) (T := TX2) (N := 10) hx hb hts in2 hown jK.1 jP 0 rfl rfl 6 (by decide) (hts _ w_69) (fun _ h9 => h9) rfl dX2_isGood_7 ?_
  refine lv_icmp_lt (tgt := 17) hx hb dX2_isGood_10 (by decide) (fun c1 => ?_) (fun c1 => ?_)
  · have h := itp c1 h
    refine lv_iconst (v := (0 : Int32)) hx hb dX2_isGood_17 (by decide) ?_
    obtain rfl := Option.some.inj h
    exact hRet _ _ _ _ (Or.inl rfl) jP jD jS dX2_isGood_18
  · have h := itn c1 h
    refine lv_iconst (v := (1 : Int32)) hx hb dX2_isGood_13 (by decide) ?_
    refine lv_goto (tgt := 18) hx hb dX2_isGood_14 (by decide) ?_
    obtain rfl := Option.some.inj h
    exact hRet _ _ _ _ (Or.inr rfl) jP jD jS dX2_isGood_18
theorem okX2_sumOf : okV yX2_sumOf cX2_sumOf 5 (some .int) 1 := ⟨w_810, w_811, w_812, w_31, by decide, by decide, by decide +kernel⟩
def fX2_sumOf0_b11 (S_x5 : Int32) (S_r0 : (Nat → Int32)) (v1 : (Int32 × Int32)) : Option ((Int32 × Int32) ⊕ Int32) :=
  if S_x5 ≤ v1.2 then (some (.inr v1.1)) else (ckI v1.2 8 (some (.inl ((v1.1 + (S_r0 v1.2.toNatClampNeg)), (v1.2 + (1 : Int32))))))
def fX2_sumOf0 (S_r0 : (Nat → Int32)) (S_x5 : Int32) (a1 : Int32) : Option Int32 :=
  bd (fX2_row0 a1) (fun t1 => bd (loopF (fX2_sumOf0_b11 S_x5 S_r0) 1000 ((0 : Int32), (0 : Int32))) (fun T3 => some T3))
set_option maxRecDepth 100000 in
set_option maxHeartbeats 4000000 in
theorem kX2_sumOf0 (l : Launch) (D : va_G) (cI cB cS : ClassId) (uS : Nat) (aS : Nat → Nat) (S_x5 : Int32) (S_x6 : Int32) (S_x7 : Int32) (S_x8 : Int32) (S_x9 : Int32) (S_r0 : (Nat → Int32)) (S_r1 : (Nat → Int32)) (S_r2 : (Nat → Int32)) (S_r3 : (Nat → Int32)) (S_r4 : (Nat → Int32)) (a1 : Int32) (z : Int32) (h : fX2_sumOf0 S_r0 S_x5 a1 = some z) (ha : a1 = (0 : Int32)) : Mt l yX2_sumOf cX2_sumOf 5 (some .int) 1 21 D cI cB cS (sW cI uS aS S_x5 S_x6 S_x7 S_x8 S_x9 S_r0 S_r1 S_r2 S_r3 S_r4) (sW cI uS aS S_x5 S_x6 S_x7 S_x8 S_x9 S_r0 S_r1 S_r2 S_r3 S_r4) [.ref uS, .int a1] (some (.int z)) := by
  refine entryI (by decide +kernel) rfl (Nat.le_of_ble_eq_true rfl) ?_
  intro p e s m below meth c A ls QQ R ar F hRet jP jD jS jl
  obtain ⟨hx, hb, hml, hown, hts, jK, hA, hf1, hf2⟩ := id F
  have jl : lv_has ls 5 [(0, .ref uS), (1, .int a1)] := jl
  unfold fX2_sumOf0 at h
  refine lv_aload_n hx hb dX2_sumOf_0 rfl (lv_at jl 0 rfl) ?_
  refine lv_iload_n hx hb dX2_sumOf_1 rfl (lv_at jl 1 rfl) ?_
  obtain ⟨t1, hc2, h⟩ := bd_some h
  refine callW (w1 := (sW cI uS aS S_x5 S_x6 S_x7 S_x8 S_x9 S_r0 S_r1 S_r2 S_r3 S_r4)) (As := [.int a1]) (rest := []) (st1 := [.ref (aS 0)]) 0 F (kX2_row0 l D cI cB cS uS aS S_x5 S_x6 S_x7 S_x8 S_x9 S_r0 S_r1 S_r2 S_r3 S_r4 a1 _ hc2 ha) okX2_row w_610 (by decide) (by decide) ⟨Nat.zero_le _, Nat.zero_le _⟩ rfl rfl rfl jP jD jS rfl jl.1 rfl rfl (Nat.le_of_ble_eq_true rfl) dX2_sumOf_2 (fun H locs jP jD jS => ?_)
  refine lv_astore_n (lv' := [(2, .ref (aS 0)), (0, .ref uS), (1, .int a1)]) hx hb dX2_sumOf_5 rfl jl (by decide) rfl (fun ls jl => ?_)
  refine lv_iconst (v := (0 : Int32)) hx hb dX2_sumOf_6 (by decide) ?_
  refine lv_istore_n (lv' := [(3, .int (0 : Int32)), (2, .ref (aS 0)), (0, .ref uS), (1, .int a1)]) hx hb dX2_sumOf_7 rfl jl (by decide) rfl (fun ls jl => ?_)
  refine lv_iconst (v := (0 : Int32)) hx hb dX2_sumOf_8 (by decide) ?_
  refine lv_istore (lv' := [(4, .int (0 : Int32)), (3, .int (0 : Int32)), (2, .ref (aS 0)), (0, .ref uS), (1, .int a1)]) hx hb dX2_sumOf_9 jl (by decide) rfl (fun ls jl => ?_)
  obtain ⟨T3, hT3, hz3⟩ := bd_some h
  clear h
  have hE3 : ∀ (H : Heap) (locs : List Loc) (ls : Array Slot), va_P D vwCl (sW cI uS aS S_x5 S_x6 S_x7 S_x8 S_x9 S_r0 S_r1 S_r2 S_r3 S_r4) H → va_D A (sW cI uS aS S_x5 S_x6 S_x7 S_x8 S_x9 S_r0 S_r1 S_r2 S_r3 S_r4) → va_S A s.heap H locs → lv_has ls 5 [(3, .int T3)] → W p l e R s m ar below meth c H locs 0 0 QQ (F0 m 33 ls []) := by
    clear jP jD jS jl
    intro H locs ls jP jD jS jl
    refine lv_iload_n hx hb dX2_sumOf_33 rfl (lv_at jl 0 rfl) ?_
    obtain rfl := Option.some.inj hz3
    exact hRet _ _ _ _ jP jD jS dX2_sumOf_34
  have hL3 : ∀ (n : Nat) (v3 : (Int32 × Int32)), loopF (fX2_sumOf0_b11 S_x5 S_r0) n v3 = some T3 → ∀ (H : Heap) (locs : List Loc) (ls : Array Slot), va_P D vwCl (sW cI uS aS S_x5 S_x6 S_x7 S_x8 S_x9 S_r0 S_r1 S_r2 S_r3 S_r4) H → va_D A (sW cI uS aS S_x5 S_x6 S_x7 S_x8 S_x9 S_r0 S_r1 S_r2 S_r3 S_r4) → va_S A s.heap H locs → lv_has ls 5 [(0, .ref uS), (2, .ref (aS 0)), (3, .int v3.1), (4, .int v3.2)] → W p l e R s m ar below meth c H locs 0 0 QQ (F0 m 11 ls []) := by
    clear jP jD jS jl hT3
    intro n
    induction n with
    | zero => intro v3 hq; exact (loop_none hq).elim
    | succ n ih =>
      intro v3 hq H locs ls jP jD jS jl
      obtain ⟨o3, hv3, hq3⟩ := loop_some hq
      clear hq
      unfold fX2_sumOf0_b11 at hv3
      refine lv_iload hx hb dX2_sumOf_11 (lv_at jl 3 rfl) ?_
      refine lv_aload_n hx hb dX2_sumOf_13 rfl (lv_at jl 0 rfl) ?_
      refine va_get (D := D) (ci := 2) (v := .int S_x5) (C := RX2) (T := TX2) (N := 10) hx hb hts in2 hown jK.1 jP 0 rfl rfl 5 (by decide) (hts _ w_68) (fun _ h9 => h9) rfl dX2_sumOf_14 ?_
      refine lv_icmp_ge (tgt := 33) hx hb dX2_sumOf_17 (by decide) (fun c4 => ?_) (fun c4 => ?_)
      · have hv3 := itp c4 hv3
        obtain rfl := Option.some.inj hv3
        obtain rfl := nxt_r hq3
        exact hE3 _ _ _ jP jD jS (lv_sub jl [2] rfl)
      · have hv3 := itn c4 hv3
        refine lv_iload_n hx hb dX2_sumOf_20 rfl (lv_at jl 2 rfl) ?_
        refine lv_aload_n hx hb dX2_sumOf_21 rfl (lv_at jl 1 rfl) ?_
        refine lv_iload hx hb dX2_sumOf_22 (lv_at jl 3 rfl) ?_
        obtain ⟨hin, hv3⟩ := ckI_some hv3
        refine va_iald (f := S_r0) hx hb jK.1 jP 1 0 rfl rfl hin dX2_sumOf_24 ?_
        refine lv_iadd hx hb dX2_sumOf_25 ?_
        refine lv_istore_n (lv' := [(3, .int (v3.1 + (S_r0 v3.2.toNatClampNeg))), (0, .ref uS), (2, .ref (aS 0)), (4, .int v3.2)]) hx hb dX2_sumOf_26 rfl jl (by decide) rfl (fun ls jl => ?_)
        refine lv_iinc (v := (v3.2 + (1 : Int32))) (lv' := [(4, .int (v3.2 + (1 : Int32))), (3, .int (v3.1 + (S_r0 v3.2.toNatClampNeg))), (0, .ref uS), (2, .ref (aS 0))]) hx hb dX2_sumOf_27 jl (k := 3) rfl rfl (by decide) rfl (fun ls jl => ?_)
        refine lv_goto (tgt := 11) hx hb dX2_sumOf_30 (by decide) ?_
        obtain rfl := Option.some.inj hv3
        exact ih _ (nxt_l hq3) _ _ _ jP jD jS (lv_sub jl [2, 3, 1, 0] rfl)
  exact hL3 1000 _ hT3 _ _ _ jP jD jS (lv_sub jl [3, 2, 1, 0] rfl)
def fX2_sumOf4_b11 (S_x5 : Int32) (S_r4 : (Nat → Int32)) (v1 : (Int32 × Int32)) : Option ((Int32 × Int32) ⊕ Int32) :=
  if S_x5 ≤ v1.2 then (some (.inr v1.1)) else (ckI v1.2 8 (some (.inl ((v1.1 + (S_r4 v1.2.toNatClampNeg)), (v1.2 + (1 : Int32))))))
def fX2_sumOf4 (S_r4 : (Nat → Int32)) (S_x5 : Int32) (a1 : Int32) : Option Int32 :=
  bd (fX2_row4 a1) (fun t1 => bd (loopF (fX2_sumOf4_b11 S_x5 S_r4) 1000 ((0 : Int32), (0 : Int32))) (fun T3 => some T3))
set_option maxRecDepth 100000 in
set_option maxHeartbeats 4000000 in
theorem kX2_sumOf4 (l : Launch) (D : va_G) (cI cB cS : ClassId) (uS : Nat) (aS : Nat → Nat) (S_x5 : Int32) (S_x6 : Int32) (S_x7 : Int32) (S_x8 : Int32) (S_x9 : Int32) (S_r0 : (Nat → Int32)) (S_r1 : (Nat → Int32)) (S_r2 : (Nat → Int32)) (S_r3 : (Nat → Int32)) (S_r4 : (Nat → Int32)) (a1 : Int32) (z : Int32) (h : fX2_sumOf4 S_r4 S_x5 a1 = some z) (ha0 : ¬ a1 = (0 : Int32)) (ha1 : ¬ a1 = (1 : Int32)) (ha2 : ¬ a1 = (2 : Int32)) (ha3 : ¬ a1 = (3 : Int32)) : Mt l yX2_sumOf cX2_sumOf 5 (some .int) 1 21 D cI cB cS (sW cI uS aS S_x5 S_x6 S_x7 S_x8 S_x9 S_r0 S_r1 S_r2 S_r3 S_r4) (sW cI uS aS S_x5 S_x6 S_x7 S_x8 S_x9 S_r0 S_r1 S_r2 S_r3 S_r4) [.ref uS, .int a1] (some (.int z)) := by
  refine entryI (by decide +kernel) rfl (Nat.le_of_ble_eq_true rfl) ?_
  intro p e s m below meth c A ls QQ R ar F hRet jP jD jS jl
  obtain ⟨hx, hb, hml, hown, hts, jK, hA, hf1, hf2⟩ := id F
  have jl : lv_has ls 5 [(0, .ref uS), (1, .int a1)] := jl
  unfold fX2_sumOf4 at h
  refine lv_aload_n hx hb dX2_sumOf_0 rfl (lv_at jl 0 rfl) ?_
  refine lv_iload_n hx hb dX2_sumOf_1 rfl (lv_at jl 1 rfl) ?_
  obtain ⟨t1, hc2, h⟩ := bd_some h
  refine callW (w1 := (sW cI uS aS S_x5 S_x6 S_x7 S_x8 S_x9 S_r0 S_r1 S_r2 S_r3 S_r4)) (As := [.int a1]) (rest := []) (st1 := [.ref (aS 4)]) 0 F (kX2_row4 l D cI cB cS uS aS S_x5 S_x6 S_x7 S_x8 S_x9 S_r0 S_r1 S_r2 S_r3 S_r4 a1 _ hc2 ha0 ha1 ha2 ha3) okX2_row w_610 (by decide) (by decide) ⟨Nat.zero_le _, Nat.zero_le _⟩ rfl rfl rfl jP jD jS rfl jl.1 rfl rfl (Nat.le_of_ble_eq_true rfl) dX2_sumOf_2 (fun H locs jP jD jS => ?_)
  refine lv_astore_n (lv' := [(2, .ref (aS 4)), (0, .ref uS), (1, .int a1)]) hx hb dX2_sumOf_5 rfl jl (by decide) rfl (fun ls jl => ?_)
  refine lv_iconst (v := (0 : Int32)) hx hb dX2_sumOf_6 (by decide) ?_
  refine lv_istore_n (lv' := [(3, .int (0 : Int32)), (2, .ref (aS 4)), (0, .ref uS), (1, .int a1)]) hx hb dX2_sumOf_7 rfl jl (by decide) rfl (fun ls jl => ?_)
  refine lv_iconst (v := (0 : Int32)) hx hb dX2_sumOf_8 (by decide) ?_
  refine lv_istore (lv' := [(4, .int (0 : Int32)), (3, .int (0 : Int32)), (2, .ref (aS 4)), (0, .ref uS), (1, .int a1)]) hx hb dX2_sumOf_9 jl (by decide) rfl (fun ls jl => ?_)
  obtain ⟨T3, hT3, hz3⟩ := bd_some h
  clear h
  have hE3 : ∀ (H : Heap) (locs : List Loc) (ls : Array Slot), va_P D vwCl (sW cI uS aS S_x5 S_x6 S_x7 S_x8 S_x9 S_r0 S_r1 S_r2 S_r3 S_r4) H → va_D A (sW cI uS aS S_x5 S_x6 S_x7 S_x8 S_x9 S_r0 S_r1 S_r2 S_r3 S_r4) → va_S A s.heap H locs → lv_has ls 5 [(3, .int T3)] → W p l e R s m ar below meth c H locs 0 0 QQ (F0 m 33 ls []) := by
    clear jP jD jS jl
    intro H locs ls jP jD jS jl
    refine lv_iload_n hx hb dX2_sumOf_33 rfl (lv_at jl 0 rfl) ?_
    obtain rfl := Option.some.inj hz3
    exact hRet _ _ _ _ jP jD jS dX2_sumOf_34
  have hL3 : ∀ (n : Nat) (v3 : (Int32 × Int32)), loopF (fX2_sumOf4_b11 S_x5 S_r4) n v3 = some T3 → ∀ (H : Heap) (locs : List Loc) (ls : Array Slot), va_P D vwCl (sW cI uS aS S_x5 S_x6 S_x7 S_x8 S_x9 S_r0 S_r1 S_r2 S_r3 S_r4) H → va_D A (sW cI uS aS S_x5 S_x6 S_x7 S_x8 S_x9 S_r0 S_r1 S_r2 S_r3 S_r4) → va_S A s.heap H locs → lv_has ls 5 [(0, .ref uS), (2, .ref (aS 4)), (3, .int v3.1), (4, .int v3.2)] → W p l e R s m ar below meth c H locs 0 0 QQ (F0 m 11 ls []) := by
    clear jP jD jS jl hT3
    intro n
    induction n with
    | zero => intro v3 hq; exact (loop_none hq).elim
    | succ n ih =>
      intro v3 hq H locs ls jP jD jS jl
      obtain ⟨o3, hv3, hq3⟩ := loop_some hq
      clear hq
      unfold fX2_sumOf4_b11 at hv3
      refine lv_iload hx hb dX2_sumOf_11 (lv_at jl 3 rfl) ?_
      refine lv_aload_n hx hb dX2_sumOf_13 rfl (lv_at jl 0 rfl) ?_
      refine va_get (D := D) (ci := 2) (v := .int S_x5) (C := RX2) (T := TX2) (N := 10) hx hb hts in2 hown jK.1 jP 0 rfl rfl 5 (by decide) (hts _ w_68) (fun _ h9 => h9) rfl dX2_sumOf_14 ?_
      refine lv_icmp_ge (tgt := 33) hx hb dX2_sumOf_17 (by decide) (fun c4 => ?_) (fun c4 => ?_)
      · have hv3 := itp c4 hv3
        obtain rfl := Option.some.inj hv3
        obtain rfl := nxt_r hq3
        exact hE3 _ _ _ jP jD jS (lv_sub jl [2] rfl)
      · have hv3 := itn c4 hv3
        refine lv_iload_n hx hb dX2_sumOf_20 rfl (lv_at jl 2 rfl) ?_
        refine lv_aload_n hx hb dX2_sumOf_21 rfl (lv_at jl 1 rfl) ?_
        refine lv_iload hx hb dX2_sumOf_22 (lv_at jl 3 rfl) ?_
        obtain ⟨hin, hv3⟩ := ckI_some hv3
        refine va_iald (f := S_r4) hx hb jK.1 jP 5 0 rfl rfl hin dX2_sumOf_24 ?_
        refine lv_iadd hx hb dX2_sumOf_25 ?_
        refine lv_istore_n (lv' := [(3, .int (v3.1 + (S_r4 v3.2.toNatClampNeg))), (0, .ref uS), (2, .ref (aS 4)), (4, .int v3.2)]) hx hb dX2_sumOf_26 rfl jl (by decide) rfl (fun ls jl => ?_)
        refine lv_iinc (v := (v3.2 + (1 : Int32))) (lv' := [(4, .int (v3.2 + (1 : Int32))), (3, .int (v3.1 + (S_r4 v3.2.toNatClampNeg))), (0, .ref uS), (2, .ref (aS 4))]) hx hb dX2_sumOf_27 jl (k := 3) rfl rfl (by decide) rfl (fun ls jl => ?_)
        refine lv_goto (tgt := 11) hx hb dX2_sumOf_30 (by decide) ?_
        obtain rfl := Option.some.inj hv3
        exact ih _ (nxt_l hq3) _ _ _ jP jD jS (lv_sub jl [2, 3, 1, 0] rfl)
  exact hL3 1000 _ hT3 _ _ _ jP jD jS (lv_sub jl [3, 2, 1, 0] rfl)
theorem okX2_goodOnes : okV yX2_goodOnes cX2_goodOnes 3 (some .int) 0 := ⟨w_598, w_599, w_600, w_31, by decide, by decide, by decide +kernel⟩
def fX2_goodOnes_b4 (S_x5 : Int32) (S_r2 : (Nat → Int32)) (S_x6 : Int32) (v1 : (Int32 × Int32)) : Option ((Int32 × Int32) ⊕ Int32) :=
  if S_x5 ≤ v1.2 then (some (.inr v1.1)) else (bd (fX2_isGood (S_r2) (S_x6) v1.2) (fun t1 => bd (if t1 = (0 : Int32) then (some (0 : Int32)) else (some ((1 : Int32) <<< (v1.2 &&& 31)))) (fun t2 => some (.inl ((v1.1 ||| t2), (v1.2 + (1 : Int32)))))))
def fX2_goodOnes (S_r2 : (Nat → Int32)) (S_x5 : Int32) (S_x6 : Int32) : Option Int32 :=
  bd (loopF (fX2_goodOnes_b4 S_x5 S_r2 S_x6) 1000 ((0 : Int32), (0 : Int32))) (fun T1 => some T1)
set_option maxRecDepth 100000 in
set_option maxHeartbeats 4000000 in
theorem kX2_goodOnes (l : Launch) (D : va_G) (cI cB cS : ClassId) (uS : Nat) (aS : Nat → Nat) (S_x5 : Int32) (S_x6 : Int32) (S_x7 : Int32) (S_x8 : Int32) (S_x9 : Int32) (S_r0 : (Nat → Int32)) (S_r1 : (Nat → Int32)) (S_r2 : (Nat → Int32)) (S_r3 : (Nat → Int32)) (S_r4 : (Nat → Int32)) (z : Int32) (h : fX2_goodOnes S_r2 S_x5 S_x6 = some z) : Mt l yX2_goodOnes cX2_goodOnes 3 (some .int) 1 21 D cI cB cS (sW cI uS aS S_x5 S_x6 S_x7 S_x8 S_x9 S_r0 S_r1 S_r2 S_r3 S_r4) (sW cI uS aS S_x5 S_x6 S_x7 S_x8 S_x9 S_r0 S_r1 S_r2 S_r3 S_r4) [.ref uS] (some (.int z)) := by
  refine entryI (by decide +kernel) rfl (Nat.le_of_ble_eq_true rfl) ?_
  intro p e s m below meth c A ls QQ R ar F hRet jP jD jS jl
  obtain ⟨hx, hb, hml, hown, hts, jK, hA, hf1, hf2⟩ := id F
  have jl : lv_has ls 3 [(0, .ref uS)] := jl
  unfold fX2_goodOnes at h
  refine lv_iconst (v := (0 : Int32)) hx hb dX2_goodOnes_0 (by decide) ?_
  refine lv_istore_n (lv' := [(1, .int (0 : Int32)), (0, .ref uS)]) hx hb dX2_goodOnes_1 rfl jl (by decide) rfl (fun ls jl => ?_)
  refine lv_iconst (v := (0 : Int32)) hx hb dX2_goodOnes_2 (by decide) ?_
  refine lv_istore_n (lv' := [(2, .int (0 : Int32)), (1, .int (0 : Int32)), (0, .ref uS)]) hx hb dX2_goodOnes_3 rfl jl (by decide) rfl (fun ls jl => ?_)
  obtain ⟨T1, hT1, hz1⟩ := bd_some h
  clear h
  have hE1 : ∀ (H : Heap) (locs : List Loc) (ls : Array Slot), va_P D vwCl (sW cI uS aS S_x5 S_x6 S_x7 S_x8 S_x9 S_r0 S_r1 S_r2 S_r3 S_r4) H → va_D A (sW cI uS aS S_x5 S_x6 S_x7 S_x8 S_x9 S_r0 S_r1 S_r2 S_r3 S_r4) → va_S A s.heap H locs → lv_has ls 3 [(1, .int T1)] → W p l e R s m ar below meth c H locs 0 0 QQ (F0 m 36 ls []) := by
    clear jP jD jS jl
    intro H locs ls jP jD jS jl
    refine lv_iload_n hx hb dX2_goodOnes_36 rfl (lv_at jl 0 rfl) ?_
    obtain rfl := Option.some.inj hz1
    exact hRet _ _ _ _ jP jD jS dX2_goodOnes_37
  have hL1 : ∀ (n : Nat) (v1 : (Int32 × Int32)), loopF (fX2_goodOnes_b4 S_x5 S_r2 S_x6) n v1 = some T1 → ∀ (H : Heap) (locs : List Loc) (ls : Array Slot), va_P D vwCl (sW cI uS aS S_x5 S_x6 S_x7 S_x8 S_x9 S_r0 S_r1 S_r2 S_r3 S_r4) H → va_D A (sW cI uS aS S_x5 S_x6 S_x7 S_x8 S_x9 S_r0 S_r1 S_r2 S_r3 S_r4) → va_S A s.heap H locs → lv_has ls 3 [(0, .ref uS), (1, .int v1.1), (2, .int v1.2)] → W p l e R s m ar below meth c H locs 0 0 QQ (F0 m 4 ls []) := by
    clear jP jD jS jl hT1
    intro n
    induction n with
    | zero => intro v1 hq; exact (loop_none hq).elim
    | succ n ih =>
      intro v1 hq H locs ls jP jD jS jl
      obtain ⟨o1, hv1, hq1⟩ := loop_some hq
      clear hq
      unfold fX2_goodOnes_b4 at hv1
      refine lv_iload_n hx hb dX2_goodOnes_4 rfl (lv_at jl 2 rfl) ?_
      refine lv_aload_n hx hb dX2_goodOnes_5 rfl (lv_at jl 0 rfl) ?_
      refine va_get (D := D) (ci := 2) (v := .int S_x5) (C := RX2) (T := TX2) (N := 10) hx hb hts in2 hown jK.1 jP 0 rfl rfl 5 (by decide) (hts _ w_68) (fun _ h9 => h9) rfl dX2_goodOnes_6 ?_
      refine lv_icmp_ge (tgt := 36) hx hb dX2_goodOnes_9 (by decide) (fun c2 => ?_) (fun c2 => ?_)
      · have hv1 := itp c2 hv1
        obtain rfl := Option.some.inj hv1
        obtain rfl := nxt_r hq1
        exact hE1 _ _ _ jP jD jS (lv_sub jl [1] rfl)
      · have hv1 := itn c2 hv1
        refine lv_iload_n hx hb dX2_goodOnes_12 rfl (lv_at jl 1 rfl) ?_
        refine lv_aload_n hx hb dX2_goodOnes_13 rfl (lv_at jl 0 rfl) ?_
        refine lv_iload_n hx hb dX2_goodOnes_14 rfl (lv_at jl 2 rfl) ?_
        obtain ⟨t3, hc4, hv1⟩ := bd_some hv1
        refine callW (w1 := (sW cI uS aS S_x5 S_x6 S_x7 S_x8 S_x9 S_r0 S_r1 S_r2 S_r3 S_r4)) (As := [.int v1.2]) (rest := [.int v1.1]) (st1 := [.int t3, .int v1.1]) 0 F (kX2_isGood l D cI cB cS uS aS S_x5 S_x6 S_x7 S_x8 S_x9 S_r0 S_r1 S_r2 S_r3 S_r4 v1.2 _ hc4 ) okX2_isGood w_601 (by decide) (by decide) ⟨Nat.zero_le _, Nat.zero_le _⟩ rfl rfl rfl jP jD jS rfl jl.1 rfl rfl (Nat.le_of_ble_eq_true rfl) dX2_goodOnes_15 (fun H locs jP jD jS => ?_)
        obtain ⟨t6, hvt6, hv1⟩ := bd_some hv1
        have hJt6 : ∀ (H : Heap) (locs : List Loc) (ls : Array Slot), va_P D vwCl (sW cI uS aS S_x5 S_x6 S_x7 S_x8 S_x9 S_r0 S_r1 S_r2 S_r3 S_r4) H → va_D A (sW cI uS aS S_x5 S_x6 S_x7 S_x8 S_x9 S_r0 S_r1 S_r2 S_r3 S_r4) → va_S A s.heap H locs → lv_has ls 3 [(0, .ref uS), (2, .int v1.2)] → W p l e R s m ar below meth c H locs 0 0 QQ (F0 m 28 ls [.int t6, .int v1.1]) := by
          clear jP jD jS jl
          intro H locs ls jP jD jS jl
          refine lv_ior hx hb dX2_goodOnes_28 ?_
          refine lv_istore_n (lv' := [(1, .int (v1.1 ||| t6)), (0, .ref uS), (2, .int v1.2)]) hx hb dX2_goodOnes_29 rfl jl (by decide) rfl (fun ls jl => ?_)
          refine lv_iinc (v := (v1.2 + (1 : Int32))) (lv' := [(2, .int (v1.2 + (1 : Int32))), (1, .int (v1.1 ||| t6)), (0, .ref uS)]) hx hb dX2_goodOnes_30 jl (k := 2) rfl rfl (by decide) rfl (fun ls jl => ?_)
          refine lv_goto (tgt := 4) hx hb dX2_goodOnes_33 (by decide) ?_
          obtain rfl := Option.some.inj hv1
          exact ih _ (nxt_l hq1) _ _ _ jP jD jS (lv_sub jl [2, 1, 0] rfl)
        clear hv1
        refine lv_if_eq (tgt := 27) hx hb dX2_goodOnes_18 (by decide) (fun c5 => ?_) (fun c5 => ?_)
        · have hvt6 := itp c5 hvt6
          refine lv_iconst (v := (0 : Int32)) hx hb dX2_goodOnes_27 (by decide) ?_
          obtain rfl := Option.some.inj hvt6
          exact hJt6 _ _ _ jP jD jS (lv_sub jl [0, 2] rfl)
        · have hvt6 := itn c5 hvt6
          refine lv_iconst (v := (1 : Int32)) hx hb dX2_goodOnes_21 (by decide) ?_
          refine lv_iload_n hx hb dX2_goodOnes_22 rfl (lv_at jl 2 rfl) ?_
          refine lv_ishl hx hb dX2_goodOnes_23 ?_
          refine lv_goto (tgt := 28) hx hb dX2_goodOnes_24 (by decide) ?_
          obtain rfl := Option.some.inj hvt6
          exact hJt6 _ _ _ jP jD jS (lv_sub jl [0, 2] rfl)
  exact hL1 1000 _ hT1 _ _ _ jP jD jS (lv_sub jl [2, 1, 0] rfl)
theorem okX2_worthTrading : okV yX2_worthTrading cX2_worthTrading 3 (some .int) 0 := ⟨w_664, w_665, w_666, w_31, by decide, by decide, by decide +kernel⟩
def fX2_worthTrading_b4 (S_x5 : Int32) (S_r1 : (Nat → Int32)) (S_r2 : (Nat → Int32)) (v1 : (Int32 × Int32)) : Option ((Int32 × Int32) ⊕ Int32) :=
  if S_x5 ≤ v1.2 then (some (.inr v1.1)) else (bd (fX2_surplus (S_r1) (S_r2) v1.2) (fun t1 => bd (if t1 ≤ (0 : Int32) then (some (0 : Int32)) else (some ((1 : Int32) <<< (v1.2 &&& 31)))) (fun t2 => some (.inl ((v1.1 ||| t2), (v1.2 + (1 : Int32)))))))
def fX2_worthTrading (S_r1 : (Nat → Int32)) (S_r2 : (Nat → Int32)) (S_x5 : Int32) : Option Int32 :=
  bd (loopF (fX2_worthTrading_b4 S_x5 S_r1 S_r2) 1000 ((0 : Int32), (0 : Int32))) (fun T1 => some T1)
set_option maxRecDepth 100000 in
set_option maxHeartbeats 4000000 in
theorem kX2_worthTrading (l : Launch) (D : va_G) (cI cB cS : ClassId) (uS : Nat) (aS : Nat → Nat) (S_x5 : Int32) (S_x6 : Int32) (S_x7 : Int32) (S_x8 : Int32) (S_x9 : Int32) (S_r0 : (Nat → Int32)) (S_r1 : (Nat → Int32)) (S_r2 : (Nat → Int32)) (S_r3 : (Nat → Int32)) (S_r4 : (Nat → Int32)) (z : Int32) (h : fX2_worthTrading S_r1 S_r2 S_x5 = some z) : Mt l yX2_worthTrading cX2_worthTrading 3 (some .int) 1 21 D cI cB cS (sW cI uS aS S_x5 S_x6 S_x7 S_x8 S_x9 S_r0 S_r1 S_r2 S_r3 S_r4) (sW cI uS aS S_x5 S_x6 S_x7 S_x8 S_x9 S_r0 S_r1 S_r2 S_r3 S_r4) [.ref uS] (some (.int z)) := by
  refine entryI (by decide +kernel) rfl (Nat.le_of_ble_eq_true rfl) ?_
  intro p e s m below meth c A ls QQ R ar F hRet jP jD jS jl
  obtain ⟨hx, hb, hml, hown, hts, jK, hA, hf1, hf2⟩ := id F
  have jl : lv_has ls 3 [(0, .ref uS)] := jl
  unfold fX2_worthTrading at h
  refine lv_iconst (v := (0 : Int32)) hx hb dX2_worthTrading_0 (by decide) ?_
  refine lv_istore_n (lv' := [(1, .int (0 : Int32)), (0, .ref uS)]) hx hb dX2_worthTrading_1 rfl jl (by decide) rfl (fun ls jl => ?_)
  refine lv_iconst (v := (0 : Int32)) hx hb dX2_worthTrading_2 (by decide) ?_
  refine lv_istore_n (lv' := [(2, .int (0 : Int32)), (1, .int (0 : Int32)), (0, .ref uS)]) hx hb dX2_worthTrading_3 rfl jl (by decide) rfl (fun ls jl => ?_)
  obtain ⟨T1, hT1, hz1⟩ := bd_some h
  clear h
  have hE1 : ∀ (H : Heap) (locs : List Loc) (ls : Array Slot), va_P D vwCl (sW cI uS aS S_x5 S_x6 S_x7 S_x8 S_x9 S_r0 S_r1 S_r2 S_r3 S_r4) H → va_D A (sW cI uS aS S_x5 S_x6 S_x7 S_x8 S_x9 S_r0 S_r1 S_r2 S_r3 S_r4) → va_S A s.heap H locs → lv_has ls 3 [(1, .int T1)] → W p l e R s m ar below meth c H locs 0 0 QQ (F0 m 36 ls []) := by
    clear jP jD jS jl
    intro H locs ls jP jD jS jl
    refine lv_iload_n hx hb dX2_worthTrading_36 rfl (lv_at jl 0 rfl) ?_
    obtain rfl := Option.some.inj hz1
    exact hRet _ _ _ _ jP jD jS dX2_worthTrading_37
  have hL1 : ∀ (n : Nat) (v1 : (Int32 × Int32)), loopF (fX2_worthTrading_b4 S_x5 S_r1 S_r2) n v1 = some T1 → ∀ (H : Heap) (locs : List Loc) (ls : Array Slot), va_P D vwCl (sW cI uS aS S_x5 S_x6 S_x7 S_x8 S_x9 S_r0 S_r1 S_r2 S_r3 S_r4) H → va_D A (sW cI uS aS S_x5 S_x6 S_x7 S_x8 S_x9 S_r0 S_r1 S_r2 S_r3 S_r4) → va_S A s.heap H locs → lv_has ls 3 [(0, .ref uS), (1, .int v1.1), (2, .int v1.2)] → W p l e R s m ar below meth c H locs 0 0 QQ (F0 m 4 ls []) := by
    clear jP jD jS jl hT1
    intro n
    induction n with
    | zero => intro v1 hq; exact (loop_none hq).elim
    | succ n ih =>
      intro v1 hq H locs ls jP jD jS jl
      obtain ⟨o1, hv1, hq1⟩ := loop_some hq
      clear hq
      unfold fX2_worthTrading_b4 at hv1
      refine lv_iload_n hx hb dX2_worthTrading_4 rfl (lv_at jl 2 rfl) ?_
      refine lv_aload_n hx hb dX2_worthTrading_5 rfl (lv_at jl 0 rfl) ?_
      refine va_get (D := D) (ci := 2) (v := .int S_x5) (C := RX2) (T := TX2) (N := 10) hx hb hts in2 hown jK.1 jP 0 rfl rfl 5 (by decide) (hts _ w_68) (fun _ h9 => h9) rfl dX2_worthTrading_6 ?_
      refine lv_icmp_ge (tgt := 36) hx hb dX2_worthTrading_9 (by decide) (fun c2 => ?_) (fun c2 => ?_)
      · have hv1 := itp c2 hv1
        obtain rfl := Option.some.inj hv1
        obtain rfl := nxt_r hq1
        exact hE1 _ _ _ jP jD jS (lv_sub jl [1] rfl)
      · have hv1 := itn c2 hv1
        refine lv_iload_n hx hb dX2_worthTrading_12 rfl (lv_at jl 1 rfl) ?_
        refine lv_aload_n hx hb dX2_worthTrading_13 rfl (lv_at jl 0 rfl) ?_
        refine lv_iload_n hx hb dX2_worthTrading_14 rfl (lv_at jl 2 rfl) ?_
        obtain ⟨t3, hc4, hv1⟩ := bd_some hv1
        refine callW (w1 := (sW cI uS aS S_x5 S_x6 S_x7 S_x8 S_x9 S_r0 S_r1 S_r2 S_r3 S_r4)) (As := [.int v1.2]) (rest := [.int v1.1]) (st1 := [.int t3, .int v1.1]) 0 F (kX2_surplus l D cI cB cS uS aS S_x5 S_x6 S_x7 S_x8 S_x9 S_r0 S_r1 S_r2 S_r3 S_r4 v1.2 _ hc4 ) okX2_surplus w_667 (by decide) (by decide) ⟨Nat.zero_le _, Nat.zero_le _⟩ rfl rfl rfl jP jD jS rfl jl.1 rfl rfl (Nat.le_of_ble_eq_true rfl) dX2_worthTrading_15 (fun H locs jP jD jS => ?_)
        obtain ⟨t6, hvt6, hv1⟩ := bd_some hv1
        have hJt6 : ∀ (H : Heap) (locs : List Loc) (ls : Array Slot), va_P D vwCl (sW cI uS aS S_x5 S_x6 S_x7 S_x8 S_x9 S_r0 S_r1 S_r2 S_r3 S_r4) H → va_D A (sW cI uS aS S_x5 S_x6 S_x7 S_x8 S_x9 S_r0 S_r1 S_r2 S_r3 S_r4) → va_S A s.heap H locs → lv_has ls 3 [(0, .ref uS), (2, .int v1.2)] → W p l e R s m ar below meth c H locs 0 0 QQ (F0 m 28 ls [.int t6, .int v1.1]) := by
          clear jP jD jS jl
          intro H locs ls jP jD jS jl
          refine lv_ior hx hb dX2_worthTrading_28 ?_
          refine lv_istore_n (lv' := [(1, .int (v1.1 ||| t6)), (0, .ref uS), (2, .int v1.2)]) hx hb dX2_worthTrading_29 rfl jl (by decide) rfl (fun ls jl => ?_)
          refine lv_iinc (v := (v1.2 + (1 : Int32))) (lv' := [(2, .int (v1.2 + (1 : Int32))), (1, .int (v1.1 ||| t6)), (0, .ref uS)]) hx hb dX2_worthTrading_30 jl (k := 2) rfl rfl (by decide) rfl (fun ls jl => ?_)
          refine lv_goto (tgt := 4) hx hb dX2_worthTrading_33 (by decide) ?_
          obtain rfl := Option.some.inj hv1
          exact ih _ (nxt_l hq1) _ _ _ jP jD jS (lv_sub jl [2, 1, 0] rfl)
        clear hv1
        refine lv_if_le (tgt := 27) hx hb dX2_worthTrading_18 (by decide) (fun c5 => ?_) (fun c5 => ?_)
        · have hvt6 := itp c5 hvt6
          refine lv_iconst (v := (0 : Int32)) hx hb dX2_worthTrading_27 (by decide) ?_
          obtain rfl := Option.some.inj hvt6
          exact hJt6 _ _ _ jP jD jS (lv_sub jl [0, 2] rfl)
        · have hvt6 := itn c5 hvt6
          refine lv_iconst (v := (1 : Int32)) hx hb dX2_worthTrading_21 (by decide) ?_
          refine lv_iload_n hx hb dX2_worthTrading_22 rfl (lv_at jl 2 rfl) ?_
          refine lv_ishl hx hb dX2_worthTrading_23 ?_
          refine lv_goto (tgt := 28) hx hb dX2_worthTrading_24 (by decide) ?_
          obtain rfl := Option.some.inj hvt6
          exact hJt6 _ _ _ jP jD jS (lv_sub jl [0, 2] rfl)
  exact hL1 1000 _ hT1 _ _ _ jP jD jS (lv_sub jl [2, 1, 0] rfl)
theorem okX2_failingAtMost : okV yX2_failingAtMost cX2_failingAtMost 4 (some .int) 1 := ⟨w_580, w_581, w_582, w_31, by decide, by decide, by decide +kernel⟩
def fX2_failingAtMost_b4 (l1 : Int32) (S_x5 : Int32) (S_r3 : (Nat → Int32)) (v1 : (Int32 × Int32)) : Option ((Int32 × Int32) ⊕ Int32) :=
  if S_x5 ≤ v1.2 then (some (.inr v1.1)) else (ckI v1.2 8 (bd (if l1 < (S_r3 v1.2.toNatClampNeg) then (some (0 : Int32)) else (some ((1 : Int32) <<< (v1.2 &&& 31)))) (fun t1 => some (.inl ((v1.1 ||| t1), (v1.2 + (1 : Int32)))))))
def fX2_failingAtMost (S_r3 : (Nat → Int32)) (S_x5 : Int32) (a1 : Int32) : Option Int32 :=
  bd (loopF (fX2_failingAtMost_b4 a1 S_x5 S_r3) 1000 ((0 : Int32), (0 : Int32))) (fun T1 => some T1)
set_option maxRecDepth 100000 in
set_option maxHeartbeats 4000000 in
theorem kX2_failingAtMost (l : Launch) (D : va_G) (cI cB cS : ClassId) (uS : Nat) (aS : Nat → Nat) (S_x5 : Int32) (S_x6 : Int32) (S_x7 : Int32) (S_x8 : Int32) (S_x9 : Int32) (S_r0 : (Nat → Int32)) (S_r1 : (Nat → Int32)) (S_r2 : (Nat → Int32)) (S_r3 : (Nat → Int32)) (S_r4 : (Nat → Int32)) (a1 : Int32) (z : Int32) (h : fX2_failingAtMost S_r3 S_x5 a1 = some z) : Mt l yX2_failingAtMost cX2_failingAtMost 4 (some .int) 0 0 D cI cB cS (sW cI uS aS S_x5 S_x6 S_x7 S_x8 S_x9 S_r0 S_r1 S_r2 S_r3 S_r4) (sW cI uS aS S_x5 S_x6 S_x7 S_x8 S_x9 S_r0 S_r1 S_r2 S_r3 S_r4) [.ref uS, .int a1] (some (.int z)) := by
  refine entryI (by decide +kernel) rfl (Nat.le_of_ble_eq_true rfl) ?_
  intro p e s m below meth c A ls QQ R ar F hRet jP jD jS jl
  obtain ⟨hx, hb, hml, hown, hts, jK, hA, hf1, hf2⟩ := id F
  have jl : lv_has ls 4 [(0, .ref uS), (1, .int a1)] := jl
  unfold fX2_failingAtMost at h
  refine lv_iconst (v := (0 : Int32)) hx hb dX2_failingAtMost_0 (by decide) ?_
  refine lv_istore_n (lv' := [(2, .int (0 : Int32)), (0, .ref uS), (1, .int a1)]) hx hb dX2_failingAtMost_1 rfl jl (by decide) rfl (fun ls jl => ?_)
  refine lv_iconst (v := (0 : Int32)) hx hb dX2_failingAtMost_2 (by decide) ?_
  refine lv_istore_n (lv' := [(3, .int (0 : Int32)), (2, .int (0 : Int32)), (0, .ref uS), (1, .int a1)]) hx hb dX2_failingAtMost_3 rfl jl (by decide) rfl (fun ls jl => ?_)
  obtain ⟨T1, hT1, hz1⟩ := bd_some h
  clear h
  have hE1 : ∀ (H : Heap) (locs : List Loc) (ls : Array Slot), va_P D vwCl (sW cI uS aS S_x5 S_x6 S_x7 S_x8 S_x9 S_r0 S_r1 S_r2 S_r3 S_r4) H → va_D A (sW cI uS aS S_x5 S_x6 S_x7 S_x8 S_x9 S_r0 S_r1 S_r2 S_r3 S_r4) → va_S A s.heap H locs → lv_has ls 4 [(2, .int T1)] → W p l e R s m ar below meth c H locs 0 0 QQ (F0 m 38 ls []) := by
    clear jP jD jS jl
    intro H locs ls jP jD jS jl
    refine lv_iload_n hx hb dX2_failingAtMost_38 rfl (lv_at jl 0 rfl) ?_
    obtain rfl := Option.some.inj hz1
    exact hRet _ _ _ _ jP jD jS dX2_failingAtMost_39
  have hL1 : ∀ (n : Nat) (v1 : (Int32 × Int32)), loopF (fX2_failingAtMost_b4 a1 S_x5 S_r3) n v1 = some T1 → ∀ (H : Heap) (locs : List Loc) (ls : Array Slot), va_P D vwCl (sW cI uS aS S_x5 S_x6 S_x7 S_x8 S_x9 S_r0 S_r1 S_r2 S_r3 S_r4) H → va_D A (sW cI uS aS S_x5 S_x6 S_x7 S_x8 S_x9 S_r0 S_r1 S_r2 S_r3 S_r4) → va_S A s.heap H locs → lv_has ls 4 [(0, .ref uS), (1, .int a1), (2, .int v1.1), (3, .int v1.2)] → W p l e R s m ar below meth c H locs 0 0 QQ (F0 m 4 ls []) := by
    clear jP jD jS jl hT1
    intro n
    induction n with
    | zero => intro v1 hq; exact (loop_none hq).elim
    | succ n ih =>
      intro v1 hq H locs ls jP jD jS jl
      obtain ⟨o1, hv1, hq1⟩ := loop_some hq
      clear hq
      unfold fX2_failingAtMost_b4 at hv1
      refine lv_iload_n hx hb dX2_failingAtMost_4 rfl (lv_at jl 3 rfl) ?_
      refine lv_aload_n hx hb dX2_failingAtMost_5 rfl (lv_at jl 0 rfl) ?_
      refine va_get (D := D) (ci := 2) (v := .int S_x5) (C := RX2) (T := TX2) (N := 10) hx hb hts in2 hown jK.1 jP 0 rfl rfl 5 (by decide) (hts _ w_68) (fun _ h9 => h9) rfl dX2_failingAtMost_6 ?_
      refine lv_icmp_ge (tgt := 38) hx hb dX2_failingAtMost_9 (by decide) (fun c2 => ?_) (fun c2 => ?_)
      · have hv1 := itp c2 hv1
        obtain rfl := Option.some.inj hv1
        obtain rfl := nxt_r hq1
        exact hE1 _ _ _ jP jD jS (lv_sub jl [2] rfl)
      · have hv1 := itn c2 hv1
        refine lv_iload_n hx hb dX2_failingAtMost_12 rfl (lv_at jl 2 rfl) ?_
        refine lv_aload_n hx hb dX2_failingAtMost_13 rfl (lv_at jl 0 rfl) ?_
        refine va_get (D := D) (ci := 2) (v := .ref (aS 3)) (C := RX2) (T := TX2) (N := 10) hx hb hts in2 hown jK.1 jP 0 rfl rfl 3 (by decide) (hts _ w_62) (fun _ h9 => h9) rfl dX2_failingAtMost_14 ?_
        refine lv_iload_n hx hb dX2_failingAtMost_17 rfl (lv_at jl 3 rfl) ?_
        obtain ⟨hin, hv1⟩ := ckI_some hv1
        refine va_iald (f := S_r3) hx hb jK.1 jP 4 0 rfl rfl hin dX2_failingAtMost_18 ?_
        refine lv_iload_n hx hb dX2_failingAtMost_19 rfl (lv_at jl 1 rfl) ?_
        obtain ⟨t4, hvt4, hv1⟩ := bd_some hv1
        have hJt4 : ∀ (H : Heap) (locs : List Loc) (ls : Array Slot), va_P D vwCl (sW cI uS aS S_x5 S_x6 S_x7 S_x8 S_x9 S_r0 S_r1 S_r2 S_r3 S_r4) H → va_D A (sW cI uS aS S_x5 S_x6 S_x7 S_x8 S_x9 S_r0 S_r1 S_r2 S_r3 S_r4) → va_S A s.heap H locs → lv_has ls 4 [(0, .ref uS), (1, .int a1), (3, .int v1.2)] → W p l e R s m ar below meth c H locs 0 0 QQ (F0 m 30 ls [.int t4, .int v1.1]) := by
          clear jP jD jS jl
          intro H locs ls jP jD jS jl
          refine lv_ior hx hb dX2_failingAtMost_30 ?_
          refine lv_istore_n (lv' := [(2, .int (v1.1 ||| t4)), (0, .ref uS), (1, .int a1), (3, .int v1.2)]) hx hb dX2_failingAtMost_31 rfl jl (by decide) rfl (fun ls jl => ?_)
          refine lv_iinc (v := (v1.2 + (1 : Int32))) (lv' := [(3, .int (v1.2 + (1 : Int32))), (2, .int (v1.1 ||| t4)), (0, .ref uS), (1, .int a1)]) hx hb dX2_failingAtMost_32 jl (k := 3) rfl rfl (by decide) rfl (fun ls jl => ?_)
          refine lv_goto (tgt := 4) hx hb dX2_failingAtMost_35 (by decide) ?_
          obtain rfl := Option.some.inj hv1
          exact ih _ (nxt_l hq1) _ _ _ jP jD jS (lv_sub jl [2, 3, 1, 0] rfl)
        clear hv1
        refine lv_icmp_gt (tgt := 29) hx hb dX2_failingAtMost_20 (by decide) (fun c3 => ?_) (fun c3 => ?_)
        · have hvt4 := itp c3 hvt4
          refine lv_iconst (v := (0 : Int32)) hx hb dX2_failingAtMost_29 (by decide) ?_
          obtain rfl := Option.some.inj hvt4
          exact hJt4 _ _ _ jP jD jS (lv_sub jl [0, 1, 3] rfl)
        · have hvt4 := itn c3 hvt4
          refine lv_iconst (v := (1 : Int32)) hx hb dX2_failingAtMost_23 (by decide) ?_
          refine lv_iload_n hx hb dX2_failingAtMost_24 rfl (lv_at jl 3 rfl) ?_
          refine lv_ishl hx hb dX2_failingAtMost_25 ?_
          refine lv_goto (tgt := 30) hx hb dX2_failingAtMost_26 (by decide) ?_
          obtain rfl := Option.some.inj hvt4
          exact hJt4 _ _ _ jP jD jS (lv_sub jl [0, 1, 3] rfl)
  exact hL1 1000 _ hT1 _ _ _ jP jD jS (lv_sub jl [2, 3, 1, 0] rfl)
theorem okX2_tenthsForWarrant : okV yX2_tenthsForWarrant cX2_tenthsForWarrant 3 (some .int) 2 := ⟨w_391, w_392, w_393, w_31, by decide, by decide, by decide +kernel⟩
def fX2_tenthsForWarrant (S_r1 : (Nat → Int32)) (S_r3 : (Nat → Int32)) (a1 : Int32) (a2 : Int32) : Option Int32 :=
  ckI a1 8 (ckI a1 8 (some (((10 : Int32) * (S_r1 a1.toNatClampNeg)) + ((S_r3 a1.toNatClampNeg) * a2))))
set_option maxRecDepth 100000 in
set_option maxHeartbeats 4000000 in
theorem kX2_tenthsForWarrant (l : Launch) (D : va_G) (cI cB cS : ClassId) (uS : Nat) (aS : Nat → Nat) (S_x5 : Int32) (S_x6 : Int32) (S_x7 : Int32) (S_x8 : Int32) (S_x9 : Int32) (S_r0 : (Nat → Int32)) (S_r1 : (Nat → Int32)) (S_r2 : (Nat → Int32)) (S_r3 : (Nat → Int32)) (S_r4 : (Nat → Int32)) (a1 : Int32) (a2 : Int32) (z : Int32) (h : fX2_tenthsForWarrant S_r1 S_r3 a1 a2 = some z) : Mt l yX2_tenthsForWarrant cX2_tenthsForWarrant 3 (some .int) 0 0 D cI cB cS (sW cI uS aS S_x5 S_x6 S_x7 S_x8 S_x9 S_r0 S_r1 S_r2 S_r3 S_r4) (sW cI uS aS S_x5 S_x6 S_x7 S_x8 S_x9 S_r0 S_r1 S_r2 S_r3 S_r4) [.ref uS, .int a1, .int a2] (some (.int z)) := by
  refine entryI (by decide +kernel) rfl (Nat.le_of_ble_eq_true rfl) ?_
  intro p e s m below meth c A ls QQ R ar F hRet jP jD jS jl
  obtain ⟨hx, hb, hml, hown, hts, jK, hA, hf1, hf2⟩ := id F
  have jl : lv_has ls 3 [(0, .ref uS), (1, .int a1), (2, .int a2)] := jl
  unfold fX2_tenthsForWarrant at h
  refine lv_bipush (v := (10 : Int32)) hx hb dX2_tenthsForWarrant_0 (by decide) ?_
  refine lv_aload_n hx hb dX2_tenthsForWarrant_2 rfl (lv_at jl 0 rfl) ?_
  refine va_get (D := D) (ci := 2) (v := .ref (aS 1)) (C := RX2) (T := TX2) (N := 10) hx hb hts in2 hown jK.1 jP 0 rfl rfl 1 (by decide) (hts _ w_60) (fun _ h9 => h9) rfl dX2_tenthsForWarrant_3 ?_
  refine lv_iload_n hx hb dX2_tenthsForWarrant_6 rfl (lv_at jl 1 rfl) ?_
  obtain ⟨hin, h⟩ := ckI_some h
  refine va_iald (f := S_r1) hx hb jK.1 jP 2 0 rfl rfl hin dX2_tenthsForWarrant_7 ?_
  refine lv_imul hx hb dX2_tenthsForWarrant_8 ?_
  refine lv_aload_n hx hb dX2_tenthsForWarrant_9 rfl (lv_at jl 0 rfl) ?_
  refine va_get (D := D) (ci := 2) (v := .ref (aS 3)) (C := RX2) (T := TX2) (N := 10) hx hb hts in2 hown jK.1 jP 0 rfl rfl 3 (by decide) (hts _ w_62) (fun _ h9 => h9) rfl dX2_tenthsForWarrant_10 ?_
  refine lv_iload_n hx hb dX2_tenthsForWarrant_13 rfl (lv_at jl 1 rfl) ?_
  obtain ⟨hin, h⟩ := ckI_some h
  refine va_iald (f := S_r3) hx hb jK.1 jP 4 0 rfl rfl hin dX2_tenthsForWarrant_14 ?_
  refine lv_iload_n hx hb dX2_tenthsForWarrant_15 rfl (lv_at jl 2 rfl) ?_
  refine lv_imul hx hb dX2_tenthsForWarrant_16 ?_
  refine lv_iadd hx hb dX2_tenthsForWarrant_17 ?_
  obtain rfl := Option.some.inj h
  exact hRet _ _ _ _ jP jD jS dX2_tenthsForWarrant_18
theorem okX2_leastForWarrant : okV yX2_leastForWarrant cX2_leastForWarrant 5 (some .int) 2 := ⟨w_584, w_585, w_586, w_31, by decide, by decide, by decide +kernel⟩
def fX2_leastForWarrant_b5 (l1 : Int32) (l2 : Int32) (S_x5 : Int32) (S_r1 : (Nat → Int32)) (S_r3 : (Nat → Int32)) (v1 : (Int32 × Int32)) : Option ((Int32 × Int32) ⊕ Int32) :=
  if S_x5 ≤ v1.2 then (some (.inr v1.1)) else (bd (if ((l1 >>> (v1.2 &&& 31)) &&& (1 : Int32)) = (0 : Int32) then some v1.1 else (bd (fX2_tenthsForWarrant (S_r1) (S_r3) v1.2 (l2)) (fun t1 => some (if v1.1 < ((t1 + (9 : Int32)) / (10 : Int32)) then ((t1 + (9 : Int32)) / (10 : Int32)) else v1.1)))) (fun t2 => some (.inl (t2, (v1.2 + (1 : Int32))))))
def fX2_leastForWarrant (S_r1 : (Nat → Int32)) (S_r3 : (Nat → Int32)) (S_x5 : Int32) (a1 : Int32) (a2 : Int32) : Option Int32 :=
  bd (loopF (fX2_leastForWarrant_b5 a1 a2 S_x5 S_r1 S_r3) 1000 ((0 : Int32), (0 : Int32))) (fun T1 => some T1)
set_option maxRecDepth 100000 in
set_option maxHeartbeats 4000000 in
theorem kX2_leastForWarrant (l : Launch) (D : va_G) (cI cB cS : ClassId) (uS : Nat) (aS : Nat → Nat) (S_x5 : Int32) (S_x6 : Int32) (S_x7 : Int32) (S_x8 : Int32) (S_x9 : Int32) (S_r0 : (Nat → Int32)) (S_r1 : (Nat → Int32)) (S_r2 : (Nat → Int32)) (S_r3 : (Nat → Int32)) (S_r4 : (Nat → Int32)) (a1 : Int32) (a2 : Int32) (z : Int32) (h : fX2_leastForWarrant S_r1 S_r3 S_x5 a1 a2 = some z) : Mt l yX2_leastForWarrant cX2_leastForWarrant 5 (some .int) 1 40 D cI cB cS (sW cI uS aS S_x5 S_x6 S_x7 S_x8 S_x9 S_r0 S_r1 S_r2 S_r3 S_r4) (sW cI uS aS S_x5 S_x6 S_x7 S_x8 S_x9 S_r0 S_r1 S_r2 S_r3 S_r4) [.ref uS, .int a1, .int a2] (some (.int z)) := by
  refine entryI (by decide +kernel) rfl (Nat.le_of_ble_eq_true rfl) ?_
  intro p e s m below meth c A ls QQ R ar F hRet jP jD jS jl
  obtain ⟨hx, hb, hml, hown, hts, jK, hA, hf1, hf2⟩ := id F
  have jl : lv_has ls 5 [(0, .ref uS), (1, .int a1), (2, .int a2)] := jl
  unfold fX2_leastForWarrant at h
  refine lv_iconst (v := (0 : Int32)) hx hb dX2_leastForWarrant_0 (by decide) ?_
  refine lv_istore_n (lv' := [(3, .int (0 : Int32)), (0, .ref uS), (1, .int a1), (2, .int a2)]) hx hb dX2_leastForWarrant_1 rfl jl (by decide) rfl (fun ls jl => ?_)
  refine lv_iconst (v := (0 : Int32)) hx hb dX2_leastForWarrant_2 (by decide) ?_
  refine lv_istore (lv' := [(4, .int (0 : Int32)), (3, .int (0 : Int32)), (0, .ref uS), (1, .int a1), (2, .int a2)]) hx hb dX2_leastForWarrant_3 jl (by decide) rfl (fun ls jl => ?_)
  obtain ⟨T1, hT1, hz1⟩ := bd_some h
  clear h
  have hE1 : ∀ (H : Heap) (locs : List Loc) (ls : Array Slot), va_P D vwCl (sW cI uS aS S_x5 S_x6 S_x7 S_x8 S_x9 S_r0 S_r1 S_r2 S_r3 S_r4) H → va_D A (sW cI uS aS S_x5 S_x6 S_x7 S_x8 S_x9 S_r0 S_r1 S_r2 S_r3 S_r4) → va_S A s.heap H locs → lv_has ls 5 [(3, .int T1)] → W p l e R s m ar below meth c H locs 0 0 QQ (F0 m 47 ls []) := by
    clear jP jD jS jl
    intro H locs ls jP jD jS jl
    refine lv_iload_n hx hb dX2_leastForWarrant_47 rfl (lv_at jl 0 rfl) ?_
    obtain rfl := Option.some.inj hz1
    exact hRet _ _ _ _ jP jD jS dX2_leastForWarrant_48
  have hL1 : ∀ (n : Nat) (v1 : (Int32 × Int32)), loopF (fX2_leastForWarrant_b5 a1 a2 S_x5 S_r1 S_r3) n v1 = some T1 → ∀ (H : Heap) (locs : List Loc) (ls : Array Slot), va_P D vwCl (sW cI uS aS S_x5 S_x6 S_x7 S_x8 S_x9 S_r0 S_r1 S_r2 S_r3 S_r4) H → va_D A (sW cI uS aS S_x5 S_x6 S_x7 S_x8 S_x9 S_r0 S_r1 S_r2 S_r3 S_r4) → va_S A s.heap H locs → lv_has ls 5 [(0, .ref uS), (1, .int a1), (2, .int a2), (3, .int v1.1), (4, .int v1.2)] → W p l e R s m ar below meth c H locs 0 0 QQ (F0 m 5 ls []) := by
    clear jP jD jS jl hT1
    intro n
    induction n with
    | zero => intro v1 hq; exact (loop_none hq).elim
    | succ n ih =>
      intro v1 hq H locs ls jP jD jS jl
      obtain ⟨o1, hv1, hq1⟩ := loop_some hq
      clear hq
      unfold fX2_leastForWarrant_b5 at hv1
      refine lv_iload hx hb dX2_leastForWarrant_5 (lv_at jl 4 rfl) ?_
      refine lv_aload_n hx hb dX2_leastForWarrant_7 rfl (lv_at jl 0 rfl) ?_
      refine va_get (D := D) (ci := 2) (v := .int S_x5) (C := RX2) (T := TX2) (N := 10) hx hb hts in2 hown jK.1 jP 0 rfl rfl 5 (by decide) (hts _ w_68) (fun _ h9 => h9) rfl dX2_leastForWarrant_8 ?_
      refine lv_icmp_ge (tgt := 47) hx hb dX2_leastForWarrant_11 (by decide) (fun c2 => ?_) (fun c2 => ?_)
      · have hv1 := itp c2 hv1
        obtain rfl := Option.some.inj hv1
        obtain rfl := nxt_r hq1
        exact hE1 _ _ _ jP jD jS (lv_sub jl [3] rfl)
      · have hv1 := itn c2 hv1
        refine lv_iload_n hx hb dX2_leastForWarrant_14 rfl (lv_at jl 1 rfl) ?_
        refine lv_iload hx hb dX2_leastForWarrant_15 (lv_at jl 4 rfl) ?_
        refine lv_ishr hx hb dX2_leastForWarrant_17 ?_
        refine lv_iconst (v := (1 : Int32)) hx hb dX2_leastForWarrant_18 (by decide) ?_
        refine lv_iand hx hb dX2_leastForWarrant_19 ?_
        obtain ⟨t6, hvt6, hv1⟩ := bd_some hv1
        have hJt6 : ∀ (H : Heap) (locs : List Loc) (ls : Array Slot), va_P D vwCl (sW cI uS aS S_x5 S_x6 S_x7 S_x8 S_x9 S_r0 S_r1 S_r2 S_r3 S_r4) H → va_D A (sW cI uS aS S_x5 S_x6 S_x7 S_x8 S_x9 S_r0 S_r1 S_r2 S_r3 S_r4) → va_S A s.heap H locs → lv_has ls 5 [(0, .ref uS), (1, .int a1), (2, .int a2), (3, .int t6), (4, .int v1.2)] → W p l e R s m ar below meth c H locs 0 0 QQ (F0 m 41 ls []) := by
          clear jP jD jS jl
          intro H locs ls jP jD jS jl
          refine lv_iinc (v := (v1.2 + (1 : Int32))) (lv' := [(4, .int (v1.2 + (1 : Int32))), (0, .ref uS), (1, .int a1), (2, .int a2), (3, .int t6)]) hx hb dX2_leastForWarrant_41 jl (k := 4) rfl rfl (by decide) rfl (fun ls jl => ?_)
          refine lv_goto (tgt := 5) hx hb dX2_leastForWarrant_44 (by decide) ?_
          obtain rfl := Option.some.inj hv1
          exact ih _ (nxt_l hq1) _ _ _ jP jD jS (lv_sub jl [1, 2, 3, 4, 0] rfl)
        clear hv1
        refine lv_if_eq (tgt := 41) hx hb dX2_leastForWarrant_20 (by decide) (fun c3 => ?_) (fun c3 => ?_)
        · have hvt6 := itp c3 hvt6
          obtain rfl := Option.some.inj hvt6
          exact hJt6 _ _ _ jP jD jS (lv_sub jl [0, 1, 2, 3, 4] rfl)
        · have hvt6 := itn c3 hvt6
          refine lv_iload_n hx hb dX2_leastForWarrant_23 rfl (lv_at jl 3 rfl) ?_
          refine lv_aload_n hx hb dX2_leastForWarrant_24 rfl (lv_at jl 0 rfl) ?_
          refine lv_iload hx hb dX2_leastForWarrant_25 (lv_at jl 4 rfl) ?_
          refine lv_iload_n hx hb dX2_leastForWarrant_27 rfl (lv_at jl 2 rfl) ?_
          obtain ⟨t4, hc5, hvt6⟩ := bd_some hvt6
          refine callW (w1 := (sW cI uS aS S_x5 S_x6 S_x7 S_x8 S_x9 S_r0 S_r1 S_r2 S_r3 S_r4)) (As := [.int v1.2, .int a2]) (rest := [.int v1.1]) (st1 := [.int t4, .int v1.1]) 0 F (kX2_tenthsForWarrant l D cI cB cS uS aS S_x5 S_x6 S_x7 S_x8 S_x9 S_r0 S_r1 S_r2 S_r3 S_r4 v1.2 a2 _ hc5 ) okX2_tenthsForWarrant w_587 (by decide) (by decide) ⟨Nat.zero_le _, Nat.zero_le _⟩ rfl rfl rfl jP jD jS rfl jl.1 rfl rfl (Nat.le_of_ble_eq_true rfl) dX2_leastForWarrant_28 (fun H locs jP jD jS => ?_)
          refine lv_bipush (v := (9 : Int32)) hx hb dX2_leastForWarrant_31 (by decide) ?_
          refine lv_iadd hx hb dX2_leastForWarrant_33 ?_
          refine lv_bipush (v := (10 : Int32)) hx hb dX2_leastForWarrant_34 (by decide) ?_
          refine lv_idiv hx hb dX2_leastForWarrant_36 (by decide) ?_
          refine va_mmax hx hb (hml.trans jl.1.symm) hown (hts _ w_303) (hts _ w_304) (hts _ w_305) (hts _ w_306) (Nat.le_trans (by decide) hf1) (Nat.le_trans (Nat.le_of_ble_eq_true rfl) hf2) (Nat.zero_le _) (Nat.zero_le _) dX2_leastForWarrant_37 ?_
          refine lv_istore_n (lv' := [(3, .int (if v1.1 < ((t4 + (9 : Int32)) / (10 : Int32)) then ((t4 + (9 : Int32)) / (10 : Int32)) else v1.1)), (0, .ref uS), (1, .int a1), (2, .int a2), (4, .int v1.2)]) hx hb dX2_leastForWarrant_40 rfl jl (by decide) rfl (fun ls jl => ?_)
          obtain rfl := Option.some.inj hvt6
          exact hJt6 _ _ _ jP jD jS (lv_sub jl [1, 2, 3, 0, 4] rfl)
  exact hL1 1000 _ hT1 _ _ _ jP jD jS (lv_sub jl [2, 3, 4, 1, 0] rfl)
theorem okX2_comesAsHeap : okV yX2_comesAsHeap cX2_comesAsHeap 4 (some .boolean) 1 := ⟨w_382, w_383, w_384, w_31, by decide, by decide, by decide +kernel⟩
def fX2_comesAsHeap_b4 (l1 : Int32) (S_x5 : Int32) (S_r0 : (Nat → Int32)) (S_r1 : (Nat → Int32)) (v1 : (Int32 × Int32)) : Option ((Int32 × Int32) ⊕ Int32) :=
  if S_x5 ≤ v1.2 then (some (.inr v1.1)) else (ckI v1.2 8 (ckI v1.2 8 (some (.inl ((v1.1 + ((S_r0 v1.2.toNatClampNeg) * ((S_r1 v1.2.toNatClampNeg) - l1))), (v1.2 + (1 : Int32)))))))
def fX2_comesAsHeap (S_r0 : (Nat → Int32)) (S_r1 : (Nat → Int32)) (S_x5 : Int32) (a1 : Int32) : Option Int32 :=
  bd (loopF (fX2_comesAsHeap_b4 a1 S_x5 S_r0 S_r1) 1000 ((0 : Int32), (0 : Int32))) (fun T1 => if (0 : Int32) < T1 then (some (0 : Int32)) else (some (1 : Int32)))
set_option maxRecDepth 100000 in
set_option maxHeartbeats 4000000 in
theorem kX2_comesAsHeap (l : Launch) (D : va_G) (cI cB cS : ClassId) (uS : Nat) (aS : Nat → Nat) (S_x5 : Int32) (S_x6 : Int32) (S_x7 : Int32) (S_x8 : Int32) (S_x9 : Int32) (S_r0 : (Nat → Int32)) (S_r1 : (Nat → Int32)) (S_r2 : (Nat → Int32)) (S_r3 : (Nat → Int32)) (S_r4 : (Nat → Int32)) (a1 : Int32) (z : Int32) (h : fX2_comesAsHeap S_r0 S_r1 S_x5 a1 = some z) : Mt l yX2_comesAsHeap cX2_comesAsHeap 4 (some .boolean) 0 0 D cI cB cS (sW cI uS aS S_x5 S_x6 S_x7 S_x8 S_x9 S_r0 S_r1 S_r2 S_r3 S_r4) (sW cI uS aS S_x5 S_x6 S_x7 S_x8 S_x9 S_r0 S_r1 S_r2 S_r3 S_r4) [.ref uS, .int a1] (some (.int z)) := by
  refine entryZ (by decide +kernel) rfl (Nat.le_of_ble_eq_true rfl) ?_
  intro p e s m below meth c A ls QQ R ar F hRet jP jD jS jl
  obtain ⟨hx, hb, hml, hown, hts, jK, hA, hf1, hf2⟩ := id F
  have jl : lv_has ls 4 [(0, .ref uS), (1, .int a1)] := jl
  unfold fX2_comesAsHeap at h
  refine lv_iconst (v := (0 : Int32)) hx hb dX2_comesAsHeap_0 (by decide) ?_
  refine lv_istore_n (lv' := [(2, .int (0 : Int32)), (0, .ref uS), (1, .int a1)]) hx hb dX2_comesAsHeap_1 rfl jl (by decide) rfl (fun ls jl => ?_)
  refine lv_iconst (v := (0 : Int32)) hx hb dX2_comesAsHeap_2 (by decide) ?_
  refine lv_istore_n (lv' := [(3, .int (0 : Int32)), (2, .int (0 : Int32)), (0, .ref uS), (1, .int a1)]) hx hb dX2_comesAsHeap_3 rfl jl (by decide) rfl (fun ls jl => ?_)
  obtain ⟨T1, hT1, hz1⟩ := bd_some h
  clear h
  have hE1 : ∀ (H : Heap) (locs : List Loc) (ls : Array Slot), va_P D vwCl (sW cI uS aS S_x5 S_x6 S_x7 S_x8 S_x9 S_r0 S_r1 S_r2 S_r3 S_r4) H → va_D A (sW cI uS aS S_x5 S_x6 S_x7 S_x8 S_x9 S_r0 S_r1 S_r2 S_r3 S_r4) → va_S A s.heap H locs → lv_has ls 4 [(2, .int T1)] → W p l e R s m ar below meth c H locs 0 0 QQ (F0 m 36 ls []) := by
    clear jP jD jS jl
    intro H locs ls jP jD jS jl
    refine lv_iload_n hx hb dX2_comesAsHeap_36 rfl (lv_at jl 0 rfl) ?_
    refine lv_if_gt (tgt := 44) hx hb dX2_comesAsHeap_37 (by decide) (fun c3 => ?_) (fun c3 => ?_)
    · have hz1 := itp c3 hz1
      refine lv_iconst (v := (0 : Int32)) hx hb dX2_comesAsHeap_44 (by decide) ?_
      obtain rfl := Option.some.inj hz1
      exact hRet _ _ _ _ (Or.inl rfl) jP jD jS dX2_comesAsHeap_45
    · have hz1 := itn c3 hz1
      refine lv_iconst (v := (1 : Int32)) hx hb dX2_comesAsHeap_40 (by decide) ?_
      refine lv_goto (tgt := 45) hx hb dX2_comesAsHeap_41 (by decide) ?_
      obtain rfl := Option.some.inj hz1
      exact hRet _ _ _ _ (Or.inr rfl) jP jD jS dX2_comesAsHeap_45
  have hL1 : ∀ (n : Nat) (v1 : (Int32 × Int32)), loopF (fX2_comesAsHeap_b4 a1 S_x5 S_r0 S_r1) n v1 = some T1 → ∀ (H : Heap) (locs : List Loc) (ls : Array Slot), va_P D vwCl (sW cI uS aS S_x5 S_x6 S_x7 S_x8 S_x9 S_r0 S_r1 S_r2 S_r3 S_r4) H → va_D A (sW cI uS aS S_x5 S_x6 S_x7 S_x8 S_x9 S_r0 S_r1 S_r2 S_r3 S_r4) → va_S A s.heap H locs → lv_has ls 4 [(0, .ref uS), (1, .int a1), (2, .int v1.1), (3, .int v1.2)] → W p l e R s m ar below meth c H locs 0 0 QQ (F0 m 4 ls []) := by
    clear jP jD jS jl hT1
    intro n
    induction n with
    | zero => intro v1 hq; exact (loop_none hq).elim
    | succ n ih =>
      intro v1 hq H locs ls jP jD jS jl
      obtain ⟨o1, hv1, hq1⟩ := loop_some hq
      clear hq
      unfold fX2_comesAsHeap_b4 at hv1
      refine lv_iload_n hx hb dX2_comesAsHeap_4 rfl (lv_at jl 3 rfl) ?_
      refine lv_aload_n hx hb dX2_comesAsHeap_5 rfl (lv_at jl 0 rfl) ?_
      refine va_get (D := D) (ci := 2) (v := .int S_x5) (C := RX2) (T := TX2) (N := 10) hx hb hts in2 hown jK.1 jP 0 rfl rfl 5 (by decide) (hts _ w_68) (fun _ h9 => h9) rfl dX2_comesAsHeap_6 ?_
      refine lv_icmp_ge (tgt := 36) hx hb dX2_comesAsHeap_9 (by decide) (fun c2 => ?_) (fun c2 => ?_)
      · have hv1 := itp c2 hv1
        obtain rfl := Option.some.inj hv1
        obtain rfl := nxt_r hq1
        exact hE1 _ _ _ jP jD jS (lv_sub jl [2] rfl)
      · have hv1 := itn c2 hv1
        refine lv_iload_n hx hb dX2_comesAsHeap_12 rfl (lv_at jl 2 rfl) ?_
        refine lv_aload_n hx hb dX2_comesAsHeap_13 rfl (lv_at jl 0 rfl) ?_
        refine va_get (D := D) (ci := 2) (v := .ref (aS 0)) (C := RX2) (T := TX2) (N := 10) hx hb hts in2 hown jK.1 jP 0 rfl rfl 0 (by decide) (hts _ w_59) (fun _ h9 => h9) rfl dX2_comesAsHeap_14 ?_
        refine lv_iload_n hx hb dX2_comesAsHeap_17 rfl (lv_at jl 3 rfl) ?_
        obtain ⟨hin, hv1⟩ := ckI_some hv1
        refine va_iald (f := S_r0) hx hb jK.1 jP 1 0 rfl rfl hin dX2_comesAsHeap_18 ?_
        refine lv_aload_n hx hb dX2_comesAsHeap_19 rfl (lv_at jl 0 rfl) ?_
        refine va_get (D := D) (ci := 2) (v := .ref (aS 1)) (C := RX2) (T := TX2) (N := 10) hx hb hts in2 hown jK.1 jP 0 rfl rfl 1 (by decide) (hts _ w_60) (fun _ h9 => h9) rfl dX2_comesAsHeap_20 ?_
        refine lv_iload_n hx hb dX2_comesAsHeap_23 rfl (lv_at jl 3 rfl) ?_
        obtain ⟨hin, hv1⟩ := ckI_some hv1
        refine va_iald (f := S_r1) hx hb jK.1 jP 2 0 rfl rfl hin dX2_comesAsHeap_24 ?_
        refine lv_iload_n hx hb dX2_comesAsHeap_25 rfl (lv_at jl 1 rfl) ?_
        refine lv_isub hx hb dX2_comesAsHeap_26 ?_
        refine lv_imul hx hb dX2_comesAsHeap_27 ?_
        refine lv_iadd hx hb dX2_comesAsHeap_28 ?_
        refine lv_istore_n (lv' := [(2, .int (v1.1 + ((S_r0 v1.2.toNatClampNeg) * ((S_r1 v1.2.toNatClampNeg) - a1)))), (0, .ref uS), (1, .int a1), (3, .int v1.2)]) hx hb dX2_comesAsHeap_29 rfl jl (by decide) rfl (fun ls jl => ?_)
        refine lv_iinc (v := (v1.2 + (1 : Int32))) (lv' := [(3, .int (v1.2 + (1 : Int32))), (2, .int (v1.1 + ((S_r0 v1.2.toNatClampNeg) * ((S_r1 v1.2.toNatClampNeg) - a1)))), (0, .ref uS), (1, .int a1)]) hx hb dX2_comesAsHeap_30 jl (k := 3) rfl rfl (by decide) rfl (fun ls jl => ?_)
        refine lv_goto (tgt := 4) hx hb dX2_comesAsHeap_33 (by decide) ?_
        obtain rfl := Option.some.inj hv1
        exact ih _ (nxt_l hq1) _ _ _ jP jD jS (lv_sub jl [2, 3, 1, 0] rfl)
  exact hL1 1000 _ hT1 _ _ _ jP jD jS (lv_sub jl [2, 3, 1, 0] rfl)
theorem okX2_worst : okV yX2_worst cX2_worst 3 (some .int) 0 := ⟨w_696, w_697, w_698, w_31, by decide, by decide, by decide +kernel⟩
def fX2_worst_b4 (S_x5 : Int32) (S_r2 : (Nat → Int32)) (v1 : (Int32 × Int32)) : Option ((Int32 × Int32) ⊕ Int32) :=
  if S_x5 ≤ v1.2 then (some (.inr v1.1)) else (ckI v1.2 8 (ckI v1.1 8 (bd (if (S_r2 v1.1.toNatClampNeg) ≤ (S_r2 v1.2.toNatClampNeg) then some v1.1 else some v1.2) (fun t1 => some (.inl (t1, (v1.2 + (1 : Int32))))))))
def fX2_worst (S_r2 : (Nat → Int32)) (S_x5 : Int32) : Option Int32 :=
  bd (loopF (fX2_worst_b4 S_x5 S_r2) 1000 ((0 : Int32), (1 : Int32))) (fun T1 => some T1)
set_option maxRecDepth 100000 in
set_option maxHeartbeats 4000000 in
theorem kX2_worst (l : Launch) (D : va_G) (cI cB cS : ClassId) (uS : Nat) (aS : Nat → Nat) (S_x5 : Int32) (S_x6 : Int32) (S_x7 : Int32) (S_x8 : Int32) (S_x9 : Int32) (S_r0 : (Nat → Int32)) (S_r1 : (Nat → Int32)) (S_r2 : (Nat → Int32)) (S_r3 : (Nat → Int32)) (S_r4 : (Nat → Int32)) (z : Int32) (h : fX2_worst S_r2 S_x5 = some z) : Mt l yX2_worst cX2_worst 3 (some .int) 0 0 D cI cB cS (sW cI uS aS S_x5 S_x6 S_x7 S_x8 S_x9 S_r0 S_r1 S_r2 S_r3 S_r4) (sW cI uS aS S_x5 S_x6 S_x7 S_x8 S_x9 S_r0 S_r1 S_r2 S_r3 S_r4) [.ref uS] (some (.int z)) := by
  refine entryI (by decide +kernel) rfl (Nat.le_of_ble_eq_true rfl) ?_
  intro p e s m below meth c A ls QQ R ar F hRet jP jD jS jl
  obtain ⟨hx, hb, hml, hown, hts, jK, hA, hf1, hf2⟩ := id F
  have jl : lv_has ls 3 [(0, .ref uS)] := jl
  unfold fX2_worst at h
  refine lv_iconst (v := (0 : Int32)) hx hb dX2_worst_0 (by decide) ?_
  refine lv_istore_n (lv' := [(1, .int (0 : Int32)), (0, .ref uS)]) hx hb dX2_worst_1 rfl jl (by decide) rfl (fun ls jl => ?_)
  refine lv_iconst (v := (1 : Int32)) hx hb dX2_worst_2 (by decide) ?_
  refine lv_istore_n (lv' := [(2, .int (1 : Int32)), (1, .int (0 : Int32)), (0, .ref uS)]) hx hb dX2_worst_3 rfl jl (by decide) rfl (fun ls jl => ?_)
  obtain ⟨T1, hT1, hz1⟩ := bd_some h
  clear h
  have hE1 : ∀ (H : Heap) (locs : List Loc) (ls : Array Slot), va_P D vwCl (sW cI uS aS S_x5 S_x6 S_x7 S_x8 S_x9 S_r0 S_r1 S_r2 S_r3 S_r4) H → va_D A (sW cI uS aS S_x5 S_x6 S_x7 S_x8 S_x9 S_r0 S_r1 S_r2 S_r3 S_r4) → va_S A s.heap H locs → lv_has ls 3 [(1, .int T1)] → W p l e R s m ar below meth c H locs 0 0 QQ (F0 m 39 ls []) := by
    clear jP jD jS jl
    intro H locs ls jP jD jS jl
    refine lv_iload_n hx hb dX2_worst_39 rfl (lv_at jl 0 rfl) ?_
    obtain rfl := Option.some.inj hz1
    exact hRet _ _ _ _ jP jD jS dX2_worst_40
  have hL1 : ∀ (n : Nat) (v1 : (Int32 × Int32)), loopF (fX2_worst_b4 S_x5 S_r2) n v1 = some T1 → ∀ (H : Heap) (locs : List Loc) (ls : Array Slot), va_P D vwCl (sW cI uS aS S_x5 S_x6 S_x7 S_x8 S_x9 S_r0 S_r1 S_r2 S_r3 S_r4) H → va_D A (sW cI uS aS S_x5 S_x6 S_x7 S_x8 S_x9 S_r0 S_r1 S_r2 S_r3 S_r4) → va_S A s.heap H locs → lv_has ls 3 [(0, .ref uS), (1, .int v1.1), (2, .int v1.2)] → W p l e R s m ar below meth c H locs 0 0 QQ (F0 m 4 ls []) := by
    clear jP jD jS jl hT1
    intro n
    induction n with
    | zero => intro v1 hq; exact (loop_none hq).elim
    | succ n ih =>
      intro v1 hq H locs ls jP jD jS jl
      obtain ⟨o1, hv1, hq1⟩ := loop_some hq
      clear hq
      unfold fX2_worst_b4 at hv1
      refine lv_iload_n hx hb dX2_worst_4 rfl (lv_at jl 2 rfl) ?_
      refine lv_aload_n hx hb dX2_worst_5 rfl (lv_at jl 0 rfl) ?_
      refine va_get (D := D) (ci := 2) (v := .int S_x5) (C := RX2) (T := TX2) (N := 10) hx hb hts in2 hown jK.1 jP 0 rfl rfl 5 (by decide) (hts _ w_68) (fun _ h9 => h9) rfl dX2_worst_6 ?_
      refine lv_icmp_ge (tgt := 39) hx hb dX2_worst_9 (by decide) (fun c2 => ?_) (fun c2 => ?_)
      · have hv1 := itp c2 hv1
        obtain rfl := Option.some.inj hv1
        obtain rfl := nxt_r hq1
        exact hE1 _ _ _ jP jD jS (lv_sub jl [1] rfl)
      · have hv1 := itn c2 hv1
        refine lv_aload_n hx hb dX2_worst_12 rfl (lv_at jl 0 rfl) ?_
        refine va_get (D := D) (ci := 2) (v := .ref (aS 2)) (C := RX2) (T := TX2) (N := 10) hx hb hts in2 hown jK.1 jP 0 rfl rfl 2 (by decide) (hts _ w_61) (fun _ h9 => h9) rfl dX2_worst_13 ?_
        refine lv_iload_n hx hb dX2_worst_16 rfl (lv_at jl 2 rfl) ?_
        obtain ⟨hin, hv1⟩ := ckI_some hv1
        refine va_iald (f := S_r2) hx hb jK.1 jP 3 0 rfl rfl hin dX2_worst_17 ?_
        refine lv_aload_n hx hb dX2_worst_18 rfl (lv_at jl 0 rfl) ?_
        refine va_get (D := D) (ci := 2) (v := .ref (aS 2)) (C := RX2) (T := TX2) (N := 10) hx hb hts in2 hown jK.1 jP 0 rfl rfl 2 (by decide) (hts _ w_61) (fun _ h9 => h9) rfl dX2_worst_19 ?_
        refine lv_iload_n hx hb dX2_worst_22 rfl (lv_at jl 1 rfl) ?_
        obtain ⟨hin, hv1⟩ := ckI_some hv1
        refine va_iald (f := S_r2) hx hb jK.1 jP 3 0 rfl rfl hin dX2_worst_23 ?_
        obtain ⟨t4, hvt4, hv1⟩ := bd_some hv1
        have hJt4 : ∀ (H : Heap) (locs : List Loc) (ls : Array Slot), va_P D vwCl (sW cI uS aS S_x5 S_x6 S_x7 S_x8 S_x9 S_r0 S_r1 S_r2 S_r3 S_r4) H → va_D A (sW cI uS aS S_x5 S_x6 S_x7 S_x8 S_x9 S_r0 S_r1 S_r2 S_r3 S_r4) → va_S A s.heap H locs → lv_has ls 3 [(0, .ref uS), (2, .int v1.2)] → W p l e R s m ar below meth c H locs 0 0 QQ (F0 m 32 ls [.int t4]) := by
          clear jP jD jS jl
          intro H locs ls jP jD jS jl
          refine lv_istore_n (lv' := [(1, .int t4), (0, .ref uS), (2, .int v1.2)]) hx hb dX2_worst_32 rfl jl (by decide) rfl (fun ls jl => ?_)
          refine lv_iinc (v := (v1.2 + (1 : Int32))) (lv' := [(2, .int (v1.2 + (1 : Int32))), (1, .int t4), (0, .ref uS)]) hx hb dX2_worst_33 jl (k := 2) rfl rfl (by decide) rfl (fun ls jl => ?_)
          refine lv_goto (tgt := 4) hx hb dX2_worst_36 (by decide) ?_
          obtain rfl := Option.some.inj hv1
          exact ih _ (nxt_l hq1) _ _ _ jP jD jS (lv_sub jl [2, 1, 0] rfl)
        clear hv1
        refine lv_icmp_ge (tgt := 31) hx hb dX2_worst_24 (by decide) (fun c3 => ?_) (fun c3 => ?_)
        · have hvt4 := itp c3 hvt4
          refine lv_iload_n hx hb dX2_worst_31 rfl (lv_at jl 1 rfl) ?_
          obtain rfl := Option.some.inj hvt4
          exact hJt4 _ _ _ jP jD jS (lv_sub jl [0, 2] rfl)
        · have hvt4 := itn c3 hvt4
          refine lv_iload_n hx hb dX2_worst_27 rfl (lv_at jl 2 rfl) ?_
          refine lv_goto (tgt := 32) hx hb dX2_worst_28 (by decide) ?_
          obtain rfl := Option.some.inj hvt4
          exact hJt4 _ _ _ jP jD jS (lv_sub jl [0, 2] rfl)
  exact hL1 1000 _ hT1 _ _ _ jP jD jS (lv_sub jl [2, 1, 0] rfl)
