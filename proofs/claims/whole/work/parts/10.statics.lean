theorem okX5_isWithin : okS yX5_isWithin cX5_isWithin 3 (some .boolean) 3 := ⟨w_106, w_107, w_2, by decide, by decide, by decide +kernel⟩
def fX5_isWithin (a0 : Int32) (a1 : Int32) (a2 : Int32) : Option Int32 :=
  if a0 < a1 then (some (0 : Int32)) else (if a2 < a0 then (some (0 : Int32)) else (some (1 : Int32)))
set_option maxRecDepth 100000 in
set_option maxHeartbeats 4000000 in
theorem kX5_isWithin (l : Launch) (D : va_G) (cI cB cS : ClassId) (a0 : Int32) (a1 : Int32) (a2 : Int32) (z : Int32) (h : fX5_isWithin a0 a1 a2 = some z) : Mt l yX5_isWithin cX5_isWithin 3 (some .boolean) 0 0 D cI cB cS [] [] [.int a0, .int a1, .int a2] (some (.int z)) := by
  refine entryZ (by decide +kernel) rfl (Nat.le_of_ble_eq_true rfl) ?_
  intro p e s m below meth c A ls QQ R ar F hRet jP jD jS jl
  obtain ⟨hx, hb, hml, hown, hts, jK, hA, hf1, hf2⟩ := id F
  have jl : lv_has ls 3 [(0, .int a0), (1, .int a1), (2, .int a2)] := jl
  unfold fX5_isWithin at h
  refine lv_iload_n hx hb dX5_isWithin_0 rfl (lv_at jl 0 rfl) ?_
  refine lv_iload_n hx hb dX5_isWithin_1 rfl (lv_at jl 1 rfl) ?_
  refine lv_icmp_lt (tgt := 14) hx hb dX5_isWithin_2 (by decide) (fun c1 => ?_) (fun c1 => ?_)
  · have h := itp c1 h
    refine lv_iconst (v := (0 : Int32)) hx hb dX5_isWithin_14 (by decide) ?_
    obtain rfl := Option.some.inj h
    exact hRet _ _ _ _ (Or.inl rfl) jP jD jS dX5_isWithin_15
  · have h := itn c1 h
    refine lv_iload_n hx hb dX5_isWithin_5 rfl (lv_at jl 0 rfl) ?_
    refine lv_iload_n hx hb dX5_isWithin_6 rfl (lv_at jl 2 rfl) ?_
    refine lv_icmp_gt (tgt := 14) hx hb dX5_isWithin_7 (by decide) (fun c2 => ?_) (fun c2 => ?_)
    · have h := itp c2 h
      refine lv_iconst (v := (0 : Int32)) hx hb dX5_isWithin_14 (by decide) ?_
      obtain rfl := Option.some.inj h
      exact hRet _ _ _ _ (Or.inl rfl) jP jD jS dX5_isWithin_15
    · have h := itn c2 h
      refine lv_iconst (v := (1 : Int32)) hx hb dX5_isWithin_10 (by decide) ?_
      refine lv_goto (tgt := 15) hx hb dX5_isWithin_11 (by decide) ?_
      obtain rfl := Option.some.inj h
      exact hRet _ _ _ _ (Or.inr rfl) jP jD jS dX5_isWithin_15
theorem okX5_isSortAsTold : okS yX5_isSortAsTold cX5_isSortAsTold 4 (some .boolean) 4 := ⟨w_278, w_279, w_2, by decide, by decide, by decide +kernel⟩
def fX5_isSortAsTold (a0 : Int32) (a1 : Int32) (a2 : Int32) (a3 : Int32) : Option Int32 :=
  bd (fX5_isWithin a0 (1 : Int32) (50 : Int32)) (fun t1 => if t1 = (0 : Int32) then (some (0 : Int32)) else (bd (fX5_isWithin a1 (0 : Int32) (99 : Int32)) (fun t4 => if t4 = (0 : Int32) then (some (0 : Int32)) else (bd (fX5_isWithin a2 (0 : Int32) (99 : Int32)) (fun t7 => if t7 = (0 : Int32) then (some (0 : Int32)) else (bd (fX5_isWithin a3 (0 : Int32) (10 : Int32)) (fun t10 => if t10 = (0 : Int32) then (some (0 : Int32)) else (some (1 : Int32)))))))))
set_option maxRecDepth 100000 in
set_option maxHeartbeats 4000000 in
theorem kX5_isSortAsTold (l : Launch) (D : va_G) (cI cB cS : ClassId) (a0 : Int32) (a1 : Int32) (a2 : Int32) (a3 : Int32) (z : Int32) (h : fX5_isSortAsTold a0 a1 a2 a3 = some z) : Mt l yX5_isSortAsTold cX5_isSortAsTold 4 (some .boolean) 1 22 D cI cB cS [] [] [.int a0, .int a1, .int a2, .int a3] (some (.int z)) := by
  refine entryZ (by decide +kernel) rfl (Nat.le_of_ble_eq_true rfl) ?_
  intro p e s m below meth c A ls QQ R ar F hRet jP jD jS jl
  obtain ⟨hx, hb, hml, hown, hts, jK, hA, hf1, hf2⟩ := id F
  have jl : lv_has ls 4 [(0, .int a0), (1, .int a1), (2, .int a2), (3, .int a3)] := jl
  unfold fX5_isSortAsTold at h
  refine lv_iload_n hx hb dX5_isSortAsTold_0 rfl (lv_at jl 0 rfl) ?_
  refine lv_iconst (v := (1 : Int32)) hx hb dX5_isSortAsTold_1 (by decide) ?_
  refine lv_bipush (v := (50 : Int32)) hx hb dX5_isSortAsTold_2 (by decide) ?_
  obtain ⟨t1, hc2, h⟩ := bd_some h
  refine call0 (As := [.int a0, .int (1 : Int32), .int (50 : Int32)]) (rest := []) (st1 := [.int t1]) F (kX5_isWithin l D cI cB cS  a0 (1 : Int32) (50 : Int32) _ hc2 ) okX5_isWithin w_105 (by decide) (by decide) ⟨Nat.zero_le _, Nat.zero_le _⟩ jP jD jS rfl jl.1 rfl rfl (Nat.le_of_ble_eq_true rfl) dX5_isSortAsTold_4 (fun H locs jP jD jS => ?_)
  refine lv_if_eq (tgt := 44) hx hb dX5_isSortAsTold_7 (by decide) (fun c3 => ?_) (fun c3 => ?_)
  · have h := itp c3 h
    refine lv_iconst (v := (0 : Int32)) hx hb dX5_isSortAsTold_44 (by decide) ?_
    obtain rfl := Option.some.inj h
    exact hRet _ _ _ _ (Or.inl rfl) jP jD jS dX5_isSortAsTold_45
  · have h := itn c3 h
    refine lv_iload_n hx hb dX5_isSortAsTold_10 rfl (lv_at jl 1 rfl) ?_
    refine lv_iconst (v := (0 : Int32)) hx hb dX5_isSortAsTold_11 (by decide) ?_
    refine lv_bipush (v := (99 : Int32)) hx hb dX5_isSortAsTold_12 (by decide) ?_
    obtain ⟨t4, hc5, h⟩ := bd_some h
    refine call0 (As := [.int a1, .int (0 : Int32), .int (99 : Int32)]) (rest := []) (st1 := [.int t4]) F (kX5_isWithin l D cI cB cS  a1 (0 : Int32) (99 : Int32) _ hc5 ) okX5_isWithin w_105 (by decide) (by decide) ⟨Nat.zero_le _, Nat.zero_le _⟩ jP jD jS rfl jl.1 rfl rfl (Nat.le_of_ble_eq_true rfl) dX5_isSortAsTold_14 (fun H locs jP jD jS => ?_)
    refine lv_if_eq (tgt := 44) hx hb dX5_isSortAsTold_17 (by decide) (fun c6 => ?_) (fun c6 => ?_)
    · have h := itp c6 h
      refine lv_iconst (v := (0 : Int32)) hx hb dX5_isSortAsTold_44 (by decide) ?_
      obtain rfl := Option.some.inj h
      exact hRet _ _ _ _ (Or.inl rfl) jP jD jS dX5_isSortAsTold_45
    · have h := itn c6 h
      refine lv_iload_n hx hb dX5_isSortAsTold_20 rfl (lv_at jl 2 rfl) ?_
      refine lv_iconst (v := (0 : Int32)) hx hb dX5_isSortAsTold_21 (by decide) ?_
      refine lv_bipush (v := (99 : Int32)) hx hb dX5_isSortAsTold_22 (by decide) ?_
      obtain ⟨t7, hc8, h⟩ := bd_some h
      refine call0 (As := [.int a2, .int (0 : Int32), .int (99 : Int32)]) (rest := []) (st1 := [.int t7]) F (kX5_isWithin l D cI cB cS  a2 (0 : Int32) (99 : Int32) _ hc8 ) okX5_isWithin w_105 (by decide) (by decide) ⟨Nat.zero_le _, Nat.zero_le _⟩ jP jD jS rfl jl.1 rfl rfl (Nat.le_of_ble_eq_true rfl) dX5_isSortAsTold_24 (fun H locs jP jD jS => ?_)
      refine lv_if_eq (tgt := 44) hx hb dX5_isSortAsTold_27 (by decide) (fun c9 => ?_) (fun c9 => ?_)
      · have h := itp c9 h
        refine lv_iconst (v := (0 : Int32)) hx hb dX5_isSortAsTold_44 (by decide) ?_
        obtain rfl := Option.some.inj h
        exact hRet _ _ _ _ (Or.inl rfl) jP jD jS dX5_isSortAsTold_45
      · have h := itn c9 h
        refine lv_iload_n hx hb dX5_isSortAsTold_30 rfl (lv_at jl 3 rfl) ?_
        refine lv_iconst (v := (0 : Int32)) hx hb dX5_isSortAsTold_31 (by decide) ?_
        refine lv_bipush (v := (10 : Int32)) hx hb dX5_isSortAsTold_32 (by decide) ?_
        obtain ⟨t10, hc11, h⟩ := bd_some h
        refine call0 (As := [.int a3, .int (0 : Int32), .int (10 : Int32)]) (rest := []) (st1 := [.int t10]) F (kX5_isWithin l D cI cB cS  a3 (0 : Int32) (10 : Int32) _ hc11 ) okX5_isWithin w_105 (by decide) (by decide) ⟨Nat.zero_le _, Nat.zero_le _⟩ jP jD jS rfl jl.1 rfl rfl (Nat.le_of_ble_eq_true rfl) dX5_isSortAsTold_34 (fun H locs jP jD jS => ?_)
        refine lv_if_eq (tgt := 44) hx hb dX5_isSortAsTold_37 (by decide) (fun c12 => ?_) (fun c12 => ?_)
        · have h := itp c12 h
          refine lv_iconst (v := (0 : Int32)) hx hb dX5_isSortAsTold_44 (by decide) ?_
          obtain rfl := Option.some.inj h
          exact hRet _ _ _ _ (Or.inl rfl) jP jD jS dX5_isSortAsTold_45
        · have h := itn c12 h
          refine lv_iconst (v := (1 : Int32)) hx hb dX5_isSortAsTold_40 (by decide) ?_
          refine lv_goto (tgt := 45) hx hb dX5_isSortAsTold_41 (by decide) ?_
          obtain rfl := Option.some.inj h
          exact hRet _ _ _ _ (Or.inr rfl) jP jD jS dX5_isSortAsTold_45
theorem okX5_isOffer : okS yX5_isOffer cX5_isOffer 2 (some .boolean) 2 := ⟨w_362, w_363, w_2, by decide, by decide, by decide +kernel⟩
def fX5_isOffer (a0 : Int32) (a1 : Int32) : Option Int32 :=
  bd (fX5_isWithin a0 (0 : Int32) (4 : Int32)) (fun t1 => if t1 = (0 : Int32) then (some (0 : Int32)) else (bd (if a0 = (3 : Int32) then (some (10 : Int32)) else (some (99 : Int32))) (fun t5 => bd (fX5_isWithin a1 (0 : Int32) t5) (fun t6 => if t6 = (0 : Int32) then (some (0 : Int32)) else (some (1 : Int32))))))
set_option maxRecDepth 100000 in
set_option maxHeartbeats 4000000 in
theorem kX5_isOffer (l : Launch) (D : va_G) (cI cB cS : ClassId) (a0 : Int32) (a1 : Int32) (z : Int32) (h : fX5_isOffer a0 a1 = some z) : Mt l yX5_isOffer cX5_isOffer 2 (some .boolean) 1 22 D cI cB cS [] [] [.int a0, .int a1] (some (.int z)) := by
  refine entryZ (by decide +kernel) rfl (Nat.le_of_ble_eq_true rfl) ?_
  intro p e s m below meth c A ls QQ R ar F hRet jP jD jS jl
  obtain ⟨hx, hb, hml, hown, hts, jK, hA, hf1, hf2⟩ := id F
  have jl : lv_has ls 2 [(0, .int a0), (1, .int a1)] := jl
  unfold fX5_isOffer at h
  refine lv_iload_n hx hb dX5_isOffer_0 rfl (lv_at jl 0 rfl) ?_
  refine lv_iconst (v := (0 : Int32)) hx hb dX5_isOffer_1 (by decide) ?_
  refine lv_iconst (v := (4 : Int32)) hx hb dX5_isOffer_2 (by decide) ?_
  obtain ⟨t1, hc2, h⟩ := bd_some h
  refine call0 (As := [.int a0, .int (0 : Int32), .int (4 : Int32)]) (rest := []) (st1 := [.int t1]) F (kX5_isWithin l D cI cB cS  a0 (0 : Int32) (4 : Int32) _ hc2 ) okX5_isWithin w_105 (by decide) (by decide) ⟨Nat.zero_le _, Nat.zero_le _⟩ jP jD jS rfl jl.1 rfl rfl (Nat.le_of_ble_eq_true rfl) dX5_isOffer_3 (fun H locs jP jD jS => ?_)
  refine lv_if_eq (tgt := 33) hx hb dX5_isOffer_6 (by decide) (fun c3 => ?_) (fun c3 => ?_)
  · have h := itp c3 h
    refine lv_iconst (v := (0 : Int32)) hx hb dX5_isOffer_33 (by decide) ?_
    obtain rfl := Option.some.inj h
    exact hRet _ _ _ _ (Or.inl rfl) jP jD jS dX5_isOffer_34
  · have h := itn c3 h
    refine lv_iload_n hx hb dX5_isOffer_9 rfl (lv_at jl 1 rfl) ?_
    refine lv_iconst (v := (0 : Int32)) hx hb dX5_isOffer_10 (by decide) ?_
    refine lv_iload_n hx hb dX5_isOffer_11 rfl (lv_at jl 0 rfl) ?_
    refine lv_iconst (v := (3 : Int32)) hx hb dX5_isOffer_12 (by decide) ?_
    obtain ⟨t5, hvt5, h⟩ := bd_some h
    have hJt5 : ∀ (H : Heap) (locs : List Loc) (ls : Array Slot), va_P D vwCl [] H → va_D A [] → va_S A s.heap H locs → lv_has ls 2 [] → W p l e R s m ar below meth c H locs 0 0 QQ (F0 m 23 ls [.int t5, .int (0 : Int32), .int a1]) := by
      clear jP jD jS jl
      intro H locs ls jP jD jS jl
      obtain ⟨t6, hc7, h⟩ := bd_some h
      refine call0 (As := [.int a1, .int (0 : Int32), .int t5]) (rest := []) (st1 := [.int t6]) F (kX5_isWithin l D cI cB cS  a1 (0 : Int32) t5 _ hc7 ) okX5_isWithin w_105 (by decide) (by decide) ⟨Nat.zero_le _, Nat.zero_le _⟩ jP jD jS rfl jl.1 rfl rfl (Nat.le_of_ble_eq_true rfl) dX5_isOffer_23 (fun H locs jP jD jS => ?_)
      refine lv_if_eq (tgt := 33) hx hb dX5_isOffer_26 (by decide) (fun c8 => ?_) (fun c8 => ?_)
      · have h := itp c8 h
        refine lv_iconst (v := (0 : Int32)) hx hb dX5_isOffer_33 (by decide) ?_
        obtain rfl := Option.some.inj h
        exact hRet _ _ _ _ (Or.inl rfl) jP jD jS dX5_isOffer_34
      · have h := itn c8 h
        refine lv_iconst (v := (1 : Int32)) hx hb dX5_isOffer_29 (by decide) ?_
        refine lv_goto (tgt := 34) hx hb dX5_isOffer_30 (by decide) ?_
        obtain rfl := Option.some.inj h
        exact hRet _ _ _ _ (Or.inr rfl) jP jD jS dX5_isOffer_34
    clear h
    refine lv_icmp_ne (tgt := 21) hx hb dX5_isOffer_13 (by decide) (fun c4 => ?_) (fun c4 => ?_)
    · have hvt5 := itn c4 hvt5
      refine lv_bipush (v := (99 : Int32)) hx hb dX5_isOffer_21 (by decide) ?_
      obtain rfl := Option.some.inj hvt5
      exact hJt5 _ _ _ jP jD jS (lv_sub jl [] rfl)
    · have hvt5 := itp c4 hvt5
      refine lv_bipush (v := (10 : Int32)) hx hb dX5_isOffer_16 (by decide) ?_
      refine lv_goto (tgt := 23) hx hb dX5_isOffer_18 (by decide) ?_
      obtain rfl := Option.some.inj hvt5
      exact hJt5 _ _ _ jP jD jS (lv_sub jl [] rfl)
theorem okX5_isPrice : okS yX5_isPrice cX5_isPrice 1 (some .boolean) 1 := ⟨w_365, w_366, w_2, by decide, by decide, by decide +kernel⟩
def fX5_isPrice (a0 : Int32) : Option Int32 :=
  bd (fX5_isWithin a0 (0 : Int32) (99 : Int32)) (fun t1 => ckB t1 (some t1))
set_option maxRecDepth 100000 in
set_option maxHeartbeats 4000000 in
theorem kX5_isPrice (l : Launch) (D : va_G) (cI cB cS : ClassId) (a0 : Int32) (z : Int32) (h : fX5_isPrice a0 = some z) : Mt l yX5_isPrice cX5_isPrice 1 (some .boolean) 1 22 D cI cB cS [] [] [.int a0] (some (.int z)) := by
  refine entryZ (by decide +kernel) rfl (Nat.le_of_ble_eq_true rfl) ?_
  intro p e s m below meth c A ls QQ R ar F hRet jP jD jS jl
  obtain ⟨hx, hb, hml, hown, hts, jK, hA, hf1, hf2⟩ := id F
  have jl : lv_has ls 1 [(0, .int a0)] := jl
  unfold fX5_isPrice at h
  refine lv_iload_n hx hb dX5_isPrice_0 rfl (lv_at jl 0 rfl) ?_
  refine lv_iconst (v := (0 : Int32)) hx hb dX5_isPrice_1 (by decide) ?_
  refine lv_bipush (v := (99 : Int32)) hx hb dX5_isPrice_2 (by decide) ?_
  obtain ⟨t1, hc2, h⟩ := bd_some h
  refine call0 (As := [.int a0, .int (0 : Int32), .int (99 : Int32)]) (rest := []) (st1 := [.int t1]) F (kX5_isWithin l D cI cB cS  a0 (0 : Int32) (99 : Int32) _ hc2 ) okX5_isWithin w_105 (by decide) (by decide) ⟨Nat.zero_le _, Nat.zero_le _⟩ jP jD jS rfl jl.1 rfl rfl (Nat.le_of_ble_eq_true rfl) dX5_isPrice_4 (fun H locs jP jD jS => ?_)
  obtain ⟨hbz, h⟩ := ckB_some h
  obtain rfl := Option.some.inj h
  exact hRet _ _ _ _ hbz jP jD jS dX5_isPrice_7
theorem okX5_fewestSteps : okS yX5_fewestSteps cX5_fewestSteps 2 (some .int) 2 := ⟨w_636, w_637, w_2, by decide, by decide, by decide +kernel⟩
def fX5_fewestSteps (a0 : Int32) (a1 : Int32) : Option Int32 :=
  if (0 : Int32) < a0 then (if (0 : Int32) < a1 then (ckN a1 (some (((a0 + a1) - (1 : Int32)) / a1))) else (some (1000000 : Int32))) else (some (0 : Int32))
set_option maxRecDepth 100000 in
set_option maxHeartbeats 4000000 in
theorem kX5_fewestSteps (l : Launch) (D : va_G) (cI cB cS : ClassId) (a0 : Int32) (a1 : Int32) (z : Int32) (h : fX5_fewestSteps a0 a1 = some z) : Mt l yX5_fewestSteps cX5_fewestSteps 2 (some .int) 0 0 D cI cB cS [] [] [.int a0, .int a1] (some (.int z)) := by
  refine entryI (by decide +kernel) rfl (Nat.le_of_ble_eq_true rfl) ?_
  intro p e s m below meth c A ls QQ R ar F hRet jP jD jS jl
  obtain ⟨hx, hb, hml, hown, hts, jK, hA, hf1, hf2⟩ := id F
  have jl : lv_has ls 2 [(0, .int a0), (1, .int a1)] := jl
  unfold fX5_fewestSteps at h
  refine lv_iload_n hx hb dX5_fewestSteps_0 rfl (lv_at jl 0 rfl) ?_
  refine lv_if_gt (tgt := 6) hx hb dX5_fewestSteps_1 (by decide) (fun c1 => ?_) (fun c1 => ?_)
  · have h := itp c1 h
    refine lv_iload_n hx hb dX5_fewestSteps_6 rfl (lv_at jl 1 rfl) ?_
    refine lv_if_gt (tgt := 15) hx hb dX5_fewestSteps_7 (by decide) (fun c2 => ?_) (fun c2 => ?_)
    · have h := itp c2 h
      refine lv_iload_n hx hb dX5_fewestSteps_15 rfl (lv_at jl 0 rfl) ?_
      refine lv_iload_n hx hb dX5_fewestSteps_16 rfl (lv_at jl 1 rfl) ?_
      refine lv_iadd hx hb dX5_fewestSteps_17 ?_
      refine lv_iconst (v := (1 : Int32)) hx hb dX5_fewestSteps_18 (by decide) ?_
      refine lv_isub hx hb dX5_fewestSteps_19 ?_
      refine lv_iload_n hx hb dX5_fewestSteps_20 rfl (lv_at jl 1 rfl) ?_
      obtain ⟨hne, h⟩ := ckN_some h
      refine lv_idiv hx hb dX5_fewestSteps_21 hne ?_
      obtain rfl := Option.some.inj h
      exact hRet _ _ _ _ jP jD jS dX5_fewestSteps_22
    · have h := itn c2 h
      refine lv_ldc (v := (1000000 : Int32)) hx hb hown (hts _ w_638) dX5_fewestSteps_10 ?_
      refine lv_goto (tgt := 22) hx hb dX5_fewestSteps_12 (by decide) ?_
      obtain rfl := Option.some.inj h
      exact hRet _ _ _ _ jP jD jS dX5_fewestSteps_22
  · have h := itn c1 h
    refine lv_iconst (v := (0 : Int32)) hx hb dX5_fewestSteps_4 (by decide) ?_
    obtain rfl := Option.some.inj h
    exact hRet _ _ _ _ jP jD jS dX5_fewestSteps_5
theorem okX5_greatestDivisor : okS yX5_greatestDivisor cX5_greatestDivisor 6 (some .int) 2 := ⟨w_471, w_472, w_2, by decide, by decide, by decide +kernel⟩
def fX5_greatestDivisor_b7 (v1 : (Int32 × Int32 × Int32)) : Option ((Int32 × Int32 × Int32) ⊕ Int32) :=
  if (64 : Int32) ≤ v1.2.2 then (some (.inr v1.1)) else (if v1.2.1 ≤ (0 : Int32) then (some (.inr v1.1)) else (ckN v1.2.1 (some (.inl (v1.2.1, (v1.1 - v1.1 / v1.2.1 * v1.2.1), (v1.2.2 + (1 : Int32)))))))
def fX5_greatestDivisor (a0 : Int32) (a1 : Int32) : Option Int32 :=
  bd (loopF (fX5_greatestDivisor_b7) 1000 (a0, a1, (0 : Int32))) (fun T1 => some (if (1 : Int32) < T1 then T1 else (1 : Int32)))
set_option maxRecDepth 100000 in
set_option maxHeartbeats 4000000 in
theorem kX5_greatestDivisor (l : Launch) (D : va_G) (cI cB cS : ClassId) (a0 : Int32) (a1 : Int32) (z : Int32) (h : fX5_greatestDivisor a0 a1 = some z) : Mt l yX5_greatestDivisor cX5_greatestDivisor 6 (some .int) 1 40 D cI cB cS [] [] [.int a0, .int a1] (some (.int z)) := by
  refine entryI (by decide +kernel) rfl (Nat.le_of_ble_eq_true rfl) ?_
  intro p e s m below meth c A ls QQ R ar F hRet jP jD jS jl
  obtain ⟨hx, hb, hml, hown, hts, jK, hA, hf1, hf2⟩ := id F
  have jl : lv_has ls 6 [(0, .int a0), (1, .int a1)] := jl
  unfold fX5_greatestDivisor at h
  refine lv_iload_n hx hb dX5_greatestDivisor_0 rfl (lv_at jl 0 rfl) ?_
  refine lv_istore_n (lv' := [(2, .int a0), (0, .int a0), (1, .int a1)]) hx hb dX5_greatestDivisor_1 rfl jl (by decide) rfl (fun ls jl => ?_)
  refine lv_iload_n hx hb dX5_greatestDivisor_2 rfl (lv_at jl 2 rfl) ?_
  refine lv_istore_n (lv' := [(3, .int a1), (2, .int a0), (0, .int a0), (1, .int a1)]) hx hb dX5_greatestDivisor_3 rfl jl (by decide) rfl (fun ls jl => ?_)
  refine lv_iconst (v := (0 : Int32)) hx hb dX5_greatestDivisor_4 (by decide) ?_
  refine lv_istore (lv' := [(4, .int (0 : Int32)), (3, .int a1), (2, .int a0), (0, .int a0), (1, .int a1)]) hx hb dX5_greatestDivisor_5 jl (by decide) rfl (fun ls jl => ?_)
  obtain ⟨T1, hT1, hz1⟩ := bd_some h
  clear h
  have hE1 : ∀ (H : Heap) (locs : List Loc) (ls : Array Slot), va_P D vwCl [] H → va_D A [] → va_S A s.heap H locs → lv_has ls 6 [(2, .int T1)] → W p l e R s m ar below meth c H locs 0 0 QQ (F0 m 34 ls []) := by
    clear jP jD jS jl
    intro H locs ls jP jD jS jl
    refine lv_iconst (v := (1 : Int32)) hx hb dX5_greatestDivisor_34 (by decide) ?_
    refine lv_iload_n hx hb dX5_greatestDivisor_35 rfl (lv_at jl 0 rfl) ?_
    refine va_mmax hx hb (hml.trans jl.1.symm) hown (hts _ w_473) (hts _ w_304) (hts _ w_305) (hts _ w_306) (Nat.le_trans (by decide) hf1) (Nat.le_trans (Nat.le_of_ble_eq_true rfl) hf2) (Nat.zero_le _) (Nat.zero_le _) dX5_greatestDivisor_36 ?_
    obtain rfl := Option.some.inj hz1
    exact hRet _ _ _ _ jP jD jS dX5_greatestDivisor_39
  have hL1 : ∀ (n : Nat) (v1 : (Int32 × Int32 × Int32)), loopF (fX5_greatestDivisor_b7) n v1 = some T1 → ∀ (H : Heap) (locs : List Loc) (ls : Array Slot), va_P D vwCl [] H → va_D A [] → va_S A s.heap H locs → lv_has ls 6 [(2, .int v1.1), (3, .int v1.2.1), (4, .int v1.2.2)] → W p l e R s m ar below meth c H locs 0 0 QQ (F0 m 7 ls []) := by
    clear jP jD jS jl hT1
    intro n
    induction n with
    | zero => intro v1 hq; exact (loop_none hq).elim
    | succ n ih =>
      intro v1 hq H locs ls jP jD jS jl
      obtain ⟨o1, hv1, hq1⟩ := loop_some hq
      clear hq
      unfold fX5_greatestDivisor_b7 at hv1
      refine lv_iload hx hb dX5_greatestDivisor_7 (lv_at jl 2 rfl) ?_
      refine lv_bipush (v := (64 : Int32)) hx hb dX5_greatestDivisor_9 (by decide) ?_
      refine lv_icmp_ge (tgt := 34) hx hb dX5_greatestDivisor_11 (by decide) (fun c2 => ?_) (fun c2 => ?_)
      · have hv1 := itp c2 hv1
        obtain rfl := Option.some.inj hv1
        obtain rfl := nxt_r hq1
        exact hE1 _ _ _ jP jD jS (lv_sub jl [0] rfl)
      · have hv1 := itn c2 hv1
        refine lv_iload_n hx hb dX5_greatestDivisor_14 rfl (lv_at jl 1 rfl) ?_
        refine lv_if_le (tgt := 34) hx hb dX5_greatestDivisor_15 (by decide) (fun c3 => ?_) (fun c3 => ?_)
        · have hv1 := itp c3 hv1
          obtain rfl := Option.some.inj hv1
          obtain rfl := nxt_r hq1
          exact hE1 _ _ _ jP jD jS (lv_sub jl [0] rfl)
        · have hv1 := itn c3 hv1
          refine lv_iload_n hx hb dX5_greatestDivisor_18 rfl (lv_at jl 0 rfl) ?_
          refine lv_iload_n hx hb dX5_greatestDivisor_19 rfl (lv_at jl 1 rfl) ?_
          obtain ⟨hne, hv1⟩ := ckN_some hv1
          refine lv_irem hx hb dX5_greatestDivisor_20 hne ?_
          refine lv_istore (lv' := [(5, .int (v1.1 - v1.1 / v1.2.1 * v1.2.1)), (2, .int v1.1), (3, .int v1.2.1), (4, .int v1.2.2)]) hx hb dX5_greatestDivisor_21 jl (by decide) rfl (fun ls jl => ?_)
          refine lv_iload_n hx hb dX5_greatestDivisor_23 rfl (lv_at jl 2 rfl) ?_
          refine lv_istore_n (lv' := [(2, .int v1.2.1), (5, .int (v1.1 - v1.1 / v1.2.1 * v1.2.1)), (3, .int v1.2.1), (4, .int v1.2.2)]) hx hb dX5_greatestDivisor_24 rfl jl (by decide) rfl (fun ls jl => ?_)
          refine lv_iload hx hb dX5_greatestDivisor_25 (lv_at jl 1 rfl) ?_
          refine lv_istore_n (lv' := [(3, .int (v1.1 - v1.1 / v1.2.1 * v1.2.1)), (2, .int v1.2.1), (5, .int (v1.1 - v1.1 / v1.2.1 * v1.2.1)), (4, .int v1.2.2)]) hx hb dX5_greatestDivisor_27 rfl jl (by decide) rfl (fun ls jl => ?_)
          refine lv_iinc (v := (v1.2.2 + (1 : Int32))) (lv' := [(4, .int (v1.2.2 + (1 : Int32))), (3, .int (v1.1 - v1.1 / v1.2.1 * v1.2.1)), (2, .int v1.2.1), (5, .int (v1.1 - v1.1 / v1.2.1 * v1.2.1))]) hx hb dX5_greatestDivisor_28 jl (k := 3) rfl rfl (by decide) rfl (fun ls jl => ?_)
          refine lv_goto (tgt := 7) hx hb dX5_greatestDivisor_31 (by decide) ?_
          obtain rfl := Option.some.inj hv1
          exact ih _ (nxt_l hq1) _ _ _ jP jD jS (lv_sub jl [2, 1, 0] rfl)
  exact hL1 1000 _ hT1 _ _ _ jP jD jS (lv_sub jl [2, 1, 0] rfl)
theorem okX5_offerOf : okS yX5_offerOf cX5_offerOf 1 (some .int) 1 := ⟨w_704, w_705, w_2, by decide, by decide, by decide +kernel⟩
def fX5_offerOf (a0 : Int32) : Option Int32 :=
  if (a0 &&& (1 : Int32)) = (0 : Int32) then (if (a0 &&& (2 : Int32)) = (0 : Int32) then (if (a0 &&& (8 : Int32)) = (0 : Int32) then (some (0 : Int32)) else (some (4 : Int32))) else (some (2 : Int32))) else (some (1 : Int32))
set_option maxRecDepth 100000 in
set_option maxHeartbeats 4000000 in
theorem kX5_offerOf (l : Launch) (D : va_G) (cI cB cS : ClassId) (a0 : Int32) (z : Int32) (h : fX5_offerOf a0 = some z) : Mt l yX5_offerOf cX5_offerOf 1 (some .int) 0 0 D cI cB cS [] [] [.int a0] (some (.int z)) := by
  refine entryI (by decide +kernel) rfl (Nat.le_of_ble_eq_true rfl) ?_
  intro p e s m below meth c A ls QQ R ar F hRet jP jD jS jl
  obtain ⟨hx, hb, hml, hown, hts, jK, hA, hf1, hf2⟩ := id F
  have jl : lv_has ls 1 [(0, .int a0)] := jl
  unfold fX5_offerOf at h
  refine lv_iload_n hx hb dX5_offerOf_0 rfl (lv_at jl 0 rfl) ?_
  refine lv_iconst (v := (1 : Int32)) hx hb dX5_offerOf_1 (by decide) ?_
  refine lv_iand hx hb dX5_offerOf_2 ?_
  refine lv_if_eq (tgt := 8) hx hb dX5_offerOf_3 (by decide) (fun c1 => ?_) (fun c1 => ?_)
  · have h := itp c1 h
    refine lv_iload_n hx hb dX5_offerOf_8 rfl (lv_at jl 0 rfl) ?_
    refine lv_iconst (v := (2 : Int32)) hx hb dX5_offerOf_9 (by decide) ?_
    refine lv_iand hx hb dX5_offerOf_10 ?_
    refine lv_if_eq (tgt := 16) hx hb dX5_offerOf_11 (by decide) (fun c2 => ?_) (fun c2 => ?_)
    · have h := itp c2 h
      refine lv_iload_n hx hb dX5_offerOf_16 rfl (lv_at jl 0 rfl) ?_
      refine lv_bipush (v := (8 : Int32)) hx hb dX5_offerOf_17 (by decide) ?_
      refine lv_iand hx hb dX5_offerOf_19 ?_
      refine lv_if_eq (tgt := 27) hx hb dX5_offerOf_20 (by decide) (fun c3 => ?_) (fun c3 => ?_)
      · have h := itp c3 h
        refine lv_iconst (v := (0 : Int32)) hx hb dX5_offerOf_27 (by decide) ?_
        obtain rfl := Option.some.inj h
        exact hRet _ _ _ _ jP jD jS dX5_offerOf_28
      · have h := itn c3 h
        refine lv_iconst (v := (4 : Int32)) hx hb dX5_offerOf_23 (by decide) ?_
        refine lv_goto (tgt := 28) hx hb dX5_offerOf_24 (by decide) ?_
        obtain rfl := Option.some.inj h
        exact hRet _ _ _ _ jP jD jS dX5_offerOf_28
    · have h := itn c2 h
      refine lv_iconst (v := (2 : Int32)) hx hb dX5_offerOf_14 (by decide) ?_
      obtain rfl := Option.some.inj h
      exact hRet _ _ _ _ jP jD jS dX5_offerOf_15
  · have h := itn c1 h
    refine lv_iconst (v := (1 : Int32)) hx hb dX5_offerOf_6 (by decide) ?_
    obtain rfl := Option.some.inj h
    exact hRet _ _ _ _ jP jD jS dX5_offerOf_7
theorem okJ9_floorDiv_7cf53 : okS yJ9_floorDiv_7cf53 cJ9_floorDiv_7cf53 3 (some .int) 2 := ⟨w_518, w_520, w_519, by decide, by decide, by decide +kernel⟩
def fJ9_floorDiv_7cf53 (a0 : Int32) (a1 : Int32) : Option Int32 :=
  ckN a1 (if (0 : Int32) ≤ (a0 ^^^ a1) then (some (a0 / a1)) else (if ((a0 / a1) * a1) = a0 then (some (a0 / a1)) else (some ((a0 / a1) - (1 : Int32)))))
set_option maxRecDepth 100000 in
set_option maxHeartbeats 4000000 in
theorem kJ9_floorDiv_7cf53 (l : Launch) (D : va_G) (cI cB cS : ClassId) (a0 : Int32) (a1 : Int32) (z : Int32) (h : fJ9_floorDiv_7cf53 a0 a1 = some z) : Mt l yJ9_floorDiv_7cf53 cJ9_floorDiv_7cf53 3 (some .int) 0 0 D cI cB cS [] [] [.int a0, .int a1] (some (.int z)) := by
  refine entryI (by decide +kernel) rfl (Nat.le_of_ble_eq_true rfl) ?_
  intro p e s m below meth c A ls QQ R ar F hRet jP jD jS jl
  obtain ⟨hx, hb, hml, hown, hts, jK, hA, hf1, hf2⟩ := id F
  have jl : lv_has ls 3 [(0, .int a0), (1, .int a1)] := jl
  unfold fJ9_floorDiv_7cf53 at h
  refine lv_iload_n hx hb dJ9_floorDiv_7cf53_0 rfl (lv_at jl 0 rfl) ?_
  refine lv_iload_n hx hb dJ9_floorDiv_7cf53_1 rfl (lv_at jl 1 rfl) ?_
  obtain ⟨hne, h⟩ := ckN_some h
  refine lv_idiv hx hb dJ9_floorDiv_7cf53_2 hne ?_
  refine lv_istore_n (lv' := [(2, .int (a0 / a1)), (0, .int a0), (1, .int a1)]) hx hb dJ9_floorDiv_7cf53_3 rfl jl (by decide) rfl (fun ls jl => ?_)
  refine lv_iload_n hx hb dJ9_floorDiv_7cf53_4 rfl (lv_at jl 1 rfl) ?_
  refine lv_iload_n hx hb dJ9_floorDiv_7cf53_5 rfl (lv_at jl 2 rfl) ?_
  refine lv_ixor hx hb dJ9_floorDiv_7cf53_6 ?_
  refine lv_if_ge (tgt := 21) hx hb dJ9_floorDiv_7cf53_7 (by decide) (fun c1 => ?_) (fun c1 => ?_)
  · have h := itp c1 h
    refine lv_iload_n hx hb dJ9_floorDiv_7cf53_21 rfl (lv_at jl 0 rfl) ?_
    obtain rfl := Option.some.inj h
    exact hRet _ _ _ _ jP jD jS dJ9_floorDiv_7cf53_22
  · have h := itn c1 h
    refine lv_iload_n hx hb dJ9_floorDiv_7cf53_10 rfl (lv_at jl 0 rfl) ?_
    refine lv_iload_n hx hb dJ9_floorDiv_7cf53_11 rfl (lv_at jl 2 rfl) ?_
    refine lv_imul hx hb dJ9_floorDiv_7cf53_12 ?_
    refine lv_iload_n hx hb dJ9_floorDiv_7cf53_13 rfl (lv_at jl 1 rfl) ?_
    refine lv_icmp_eq (tgt := 21) hx hb dJ9_floorDiv_7cf53_14 (by decide) (fun c2 => ?_) (fun c2 => ?_)
    · have h := itp c2 h
      refine lv_iload_n hx hb dJ9_floorDiv_7cf53_21 rfl (lv_at jl 0 rfl) ?_
      obtain rfl := Option.some.inj h
      exact hRet _ _ _ _ jP jD jS dJ9_floorDiv_7cf53_22
    · have h := itn c2 h
      refine lv_iload_n hx hb dJ9_floorDiv_7cf53_17 rfl (lv_at jl 0 rfl) ?_
      refine lv_iconst (v := (1 : Int32)) hx hb dJ9_floorDiv_7cf53_18 (by decide) ?_
      refine lv_isub hx hb dJ9_floorDiv_7cf53_19 ?_
      obtain rfl := Option.some.inj h
      exact hRet _ _ _ _ jP jD jS dJ9_floorDiv_7cf53_20
theorem okJ6_bitCount_0f7a4 : okS yJ6_bitCount_0f7a4 cJ6_bitCount_0f7a4 1 (some .int) 1 := ⟨w_681, w_683, w_682, by decide, by decide, by decide +kernel⟩
def fJ6_bitCount_0f7a4 (a0 : Int32) : Option Int32 :=
  some ((((((((a0 - ((a0.toUInt32 >>> ((1 : Int32).toUInt32 &&& Int32.toUInt32 31)).toInt32 &&& (1431655765 : Int32))) &&& (858993459 : Int32)) + (((a0 - ((a0.toUInt32 >>> ((1 : Int32).toUInt32 &&& Int32.toUInt32 31)).toInt32 &&& (1431655765 : Int32))).toUInt32 >>> ((2 : Int32).toUInt32 &&& Int32.toUInt32 31)).toInt32 &&& (858993459 : Int32))) + ((((a0 - ((a0.toUInt32 >>> ((1 : Int32).toUInt32 &&& Int32.toUInt32 31)).toInt32 &&& (1431655765 : Int32))) &&& (858993459 : Int32)) + (((a0 - ((a0.toUInt32 >>> ((1 : Int32).toUInt32 &&& Int32.toUInt32 31)).toInt32 &&& (1431655765 : Int32))).toUInt32 >>> ((2 : Int32).toUInt32 &&& Int32.toUInt32 31)).toInt32 &&& (858993459 : Int32))).toUInt32 >>> ((4 : Int32).toUInt32 &&& Int32.toUInt32 31)).toInt32) &&& (252645135 : Int32)) + ((((((a0 - ((a0.toUInt32 >>> ((1 : Int32).toUInt32 &&& Int32.toUInt32 31)).toInt32 &&& (1431655765 : Int32))) &&& (858993459 : Int32)) + (((a0 - ((a0.toUInt32 >>> ((1 : Int32).toUInt32 &&& Int32.toUInt32 31)).toInt32 &&& (1431655765 : Int32))).toUInt32 >>> ((2 : Int32).toUInt32 &&& Int32.toUInt32 31)).toInt32 &&& (858993459 : Int32))) + ((((a0 - ((a0.toUInt32 >>> ((1 : Int32).toUInt32 &&& Int32.toUInt32 31)).toInt32 &&& (1431655765 : Int32))) &&& (858993459 : Int32)) + (((a0 - ((a0.toUInt32 >>> ((1 : Int32).toUInt32 &&& Int32.toUInt32 31)).toInt32 &&& (1431655765 : Int32))).toUInt32 >>> ((2 : Int32).toUInt32 &&& Int32.toUInt32 31)).toInt32 &&& (858993459 : Int32))).toUInt32 >>> ((4 : Int32).toUInt32 &&& Int32.toUInt32 31)).toInt32) &&& (252645135 : Int32)).toUInt32 >>> ((8 : Int32).toUInt32 &&& Int32.toUInt32 31)).toInt32) + (((((((a0 - ((a0.toUInt32 >>> ((1 : Int32).toUInt32 &&& Int32.toUInt32 31)).toInt32 &&& (1431655765 : Int32))) &&& (858993459 : Int32)) + (((a0 - ((a0.toUInt32 >>> ((1 : Int32).toUInt32 &&& Int32.toUInt32 31)).toInt32 &&& (1431655765 : Int32))).toUInt32 >>> ((2 : Int32).toUInt32 &&& Int32.toUInt32 31)).toInt32 &&& (858993459 : Int32))) + ((((a0 - ((a0.toUInt32 >>> ((1 : Int32).toUInt32 &&& Int32.toUInt32 31)).toInt32 &&& (1431655765 : Int32))) &&& (858993459 : Int32)) + (((a0 - ((a0.toUInt32 >>> ((1 : Int32).toUInt32 &&& Int32.toUInt32 31)).toInt32 &&& (1431655765 : Int32))).toUInt32 >>> ((2 : Int32).toUInt32 &&& Int32.toUInt32 31)).toInt32 &&& (858993459 : Int32))).toUInt32 >>> ((4 : Int32).toUInt32 &&& Int32.toUInt32 31)).toInt32) &&& (252645135 : Int32)) + ((((((a0 - ((a0.toUInt32 >>> ((1 : Int32).toUInt32 &&& Int32.toUInt32 31)).toInt32 &&& (1431655765 : Int32))) &&& (858993459 : Int32)) + (((a0 - ((a0.toUInt32 >>> ((1 : Int32).toUInt32 &&& Int32.toUInt32 31)).toInt32 &&& (1431655765 : Int32))).toUInt32 >>> ((2 : Int32).toUInt32 &&& Int32.toUInt32 31)).toInt32 &&& (858993459 : Int32))) + ((((a0 - ((a0.toUInt32 >>> ((1 : Int32).toUInt32 &&& Int32.toUInt32 31)).toInt32 &&& (1431655765 : Int32))) &&& (858993459 : Int32)) + (((a0 - ((a0.toUInt32 >>> ((1 : Int32).toUInt32 &&& Int32.toUInt32 31)).toInt32 &&& (1431655765 : Int32))).toUInt32 >>> ((2 : Int32).toUInt32 &&& Int32.toUInt32 31)).toInt32 &&& (858993459 : Int32))).toUInt32 >>> ((4 : Int32).toUInt32 &&& Int32.toUInt32 31)).toInt32) &&& (252645135 : Int32)).toUInt32 >>> ((8 : Int32).toUInt32 &&& Int32.toUInt32 31)).toInt32).toUInt32 >>> ((16 : Int32).toUInt32 &&& Int32.toUInt32 31)).toInt32) &&& (63 : Int32))
set_option maxRecDepth 100000 in
set_option maxHeartbeats 4000000 in
theorem kJ6_bitCount_0f7a4 (l : Launch) (D : va_G) (cI cB cS : ClassId) (a0 : Int32) (z : Int32) (h : fJ6_bitCount_0f7a4 a0 = some z) : Mt l yJ6_bitCount_0f7a4 cJ6_bitCount_0f7a4 1 (some .int) 0 0 D cI cB cS [] [] [.int a0] (some (.int z)) := by
  refine entryI (by decide +kernel) rfl (Nat.le_of_ble_eq_true rfl) ?_
  intro p e s m below meth c A ls QQ R ar F hRet jP jD jS jl
  obtain ⟨hx, hb, hml, hown, hts, jK, hA, hf1, hf2⟩ := id F
  have jl : lv_has ls 1 [(0, .int a0)] := jl
  unfold fJ6_bitCount_0f7a4 at h
  refine lv_iload_n hx hb dJ6_bitCount_0f7a4_0 rfl (lv_at jl 0 rfl) ?_
  refine lv_iload_n hx hb dJ6_bitCount_0f7a4_1 rfl (lv_at jl 0 rfl) ?_
  refine lv_iconst (v := (1 : Int32)) hx hb dJ6_bitCount_0f7a4_2 (by decide) ?_
  refine lv_iushr (v := (a0.toUInt32 >>> ((1 : Int32).toUInt32 &&& Int32.toUInt32 31)).toInt32) hx hb dJ6_bitCount_0f7a4_3 rfl ?_
  refine lv_ldcw (v := (1431655765 : Int32)) hx hb hown (hts _ w_684) dJ6_bitCount_0f7a4_4 ?_
  refine lv_iand hx hb dJ6_bitCount_0f7a4_7 ?_
  refine lv_isub hx hb dJ6_bitCount_0f7a4_8 ?_
  refine lv_istore_n (lv' := [(0, .int (a0 - ((a0.toUInt32 >>> ((1 : Int32).toUInt32 &&& Int32.toUInt32 31)).toInt32 &&& (1431655765 : Int32))))]) hx hb dJ6_bitCount_0f7a4_9 rfl jl (by decide) rfl (fun ls jl => ?_)
  refine lv_iload_n hx hb dJ6_bitCount_0f7a4_10 rfl (lv_at jl 0 rfl) ?_
  refine lv_ldcw (v := (858993459 : Int32)) hx hb hown (hts _ w_685) dJ6_bitCount_0f7a4_11 ?_
  refine lv_iand hx hb dJ6_bitCount_0f7a4_14 ?_
  refine lv_iload_n hx hb dJ6_bitCount_0f7a4_15 rfl (lv_at jl 0 rfl) ?_
  refine lv_iconst (v := (2 : Int32)) hx hb dJ6_bitCount_0f7a4_16 (by decide) ?_
  refine lv_iushr (v := ((a0 - ((a0.toUInt32 >>> ((1 : Int32).toUInt32 &&& Int32.toUInt32 31)).toInt32 &&& (1431655765 : Int32))).toUInt32 >>> ((2 : Int32).toUInt32 &&& Int32.toUInt32 31)).toInt32) hx hb dJ6_bitCount_0f7a4_17 rfl ?_
  refine lv_ldcw (v := (858993459 : Int32)) hx hb hown (hts _ w_685) dJ6_bitCount_0f7a4_18 ?_
  refine lv_iand hx hb dJ6_bitCount_0f7a4_21 ?_
  refine lv_iadd hx hb dJ6_bitCount_0f7a4_22 ?_
  refine lv_istore_n (lv' := [(0, .int (((a0 - ((a0.toUInt32 >>> ((1 : Int32).toUInt32 &&& Int32.toUInt32 31)).toInt32 &&& (1431655765 : Int32))) &&& (858993459 : Int32)) + (((a0 - ((a0.toUInt32 >>> ((1 : Int32).toUInt32 &&& Int32.toUInt32 31)).toInt32 &&& (1431655765 : Int32))).toUInt32 >>> ((2 : Int32).toUInt32 &&& Int32.toUInt32 31)).toInt32 &&& (858993459 : Int32))))]) hx hb dJ6_bitCount_0f7a4_23 rfl jl (by decide) rfl (fun ls jl => ?_)
  refine lv_iload_n hx hb dJ6_bitCount_0f7a4_24 rfl (lv_at jl 0 rfl) ?_
  refine lv_iload_n hx hb dJ6_bitCount_0f7a4_25 rfl (lv_at jl 0 rfl) ?_
  refine lv_iconst (v := (4 : Int32)) hx hb dJ6_bitCount_0f7a4_26 (by decide) ?_
  refine lv_iushr (v := ((((a0 - ((a0.toUInt32 >>> ((1 : Int32).toUInt32 &&& Int32.toUInt32 31)).toInt32 &&& (1431655765 : Int32))) &&& (858993459 : Int32)) + (((a0 - ((a0.toUInt32 >>> ((1 : Int32).toUInt32 &&& Int32.toUInt32 31)).toInt32 &&& (1431655765 : Int32))).toUInt32 >>> ((2 : Int32).toUInt32 &&& Int32.toUInt32 31)).toInt32 &&& (858993459 : Int32))).toUInt32 >>> ((4 : Int32).toUInt32 &&& Int32.toUInt32 31)).toInt32) hx hb dJ6_bitCount_0f7a4_27 rfl ?_
  refine lv_iadd hx hb dJ6_bitCount_0f7a4_28 ?_
  refine lv_ldcw (v := (252645135 : Int32)) hx hb hown (hts _ w_686) dJ6_bitCount_0f7a4_29 ?_
  refine lv_iand hx hb dJ6_bitCount_0f7a4_32 ?_
  refine lv_istore_n (lv' := [(0, .int (((((a0 - ((a0.toUInt32 >>> ((1 : Int32).toUInt32 &&& Int32.toUInt32 31)).toInt32 &&& (1431655765 : Int32))) &&& (858993459 : Int32)) + (((a0 - ((a0.toUInt32 >>> ((1 : Int32).toUInt32 &&& Int32.toUInt32 31)).toInt32 &&& (1431655765 : Int32))).toUInt32 >>> ((2 : Int32).toUInt32 &&& Int32.toUInt32 31)).toInt32 &&& (858993459 : Int32))) + ((((a0 - ((a0.toUInt32 >>> ((1 : Int32).toUInt32 &&& Int32.toUInt32 31)).toInt32 &&& (1431655765 : Int32))) &&& (858993459 : Int32)) + (((a0 - ((a0.toUInt32 >>> ((1 : Int32).toUInt32 &&& Int32.toUInt32 31)).toInt32 &&& (1431655765 : Int32))).toUInt32 >>> ((2 : Int32).toUInt32 &&& Int32.toUInt32 31)).toInt32 &&& (858993459 : Int32))).toUInt32 >>> ((4 : Int32).toUInt32 &&& Int32.toUInt32 31)).toInt32) &&& (252645135 : Int32)))]) hx hb dJ6_bitCount_0f7a4_33 rfl jl (by decide) rfl (fun ls jl => ?_)
  refine lv_iload_n hx hb dJ6_bitCount_0f7a4_34 rfl (lv_at jl 0 rfl) ?_
  refine lv_iload_n hx hb dJ6_bitCount_0f7a4_35 rfl (lv_at jl 0 rfl) ?_
  refine lv_bipush (v := (8 : Int32)) hx hb dJ6_bitCount_0f7a4_36 (by decide) ?_
  refine lv_iushr (v := ((((((a0 - ((a0.toUInt32 >>> ((1 : Int32).toUInt32 &&& Int32.toUInt32 31)).toInt32 &&& (1431655765 : Int32))) &&& (858993459 : Int32)) + (((a0 - ((a0.toUInt32 >>> ((1 : Int32).toUInt32 &&& Int32.toUInt32 31)).toInt32 &&& (1431655765 : Int32))).toUInt32 >>> ((2 : Int32).toUInt32 &&& Int32.toUInt32 31)).toInt32 &&& (858993459 : Int32))) + ((((a0 - ((a0.toUInt32 >>> ((1 : Int32).toUInt32 &&& Int32.toUInt32 31)).toInt32 &&& (1431655765 : Int32))) &&& (858993459 : Int32)) + (((a0 - ((a0.toUInt32 >>> ((1 : Int32).toUInt32 &&& Int32.toUInt32 31)).toInt32 &&& (1431655765 : Int32))).toUInt32 >>> ((2 : Int32).toUInt32 &&& Int32.toUInt32 31)).toInt32 &&& (858993459 : Int32))).toUInt32 >>> ((4 : Int32).toUInt32 &&& Int32.toUInt32 31)).toInt32) &&& (252645135 : Int32)).toUInt32 >>> ((8 : Int32).toUInt32 &&& Int32.toUInt32 31)).toInt32) hx hb dJ6_bitCount_0f7a4_38 rfl ?_
  refine lv_iadd hx hb dJ6_bitCount_0f7a4_39 ?_
  refine lv_istore_n (lv' := [(0, .int ((((((a0 - ((a0.toUInt32 >>> ((1 : Int32).toUInt32 &&& Int32.toUInt32 31)).toInt32 &&& (1431655765 : Int32))) &&& (858993459 : Int32)) + (((a0 - ((a0.toUInt32 >>> ((1 : Int32).toUInt32 &&& Int32.toUInt32 31)).toInt32 &&& (1431655765 : Int32))).toUInt32 >>> ((2 : Int32).toUInt32 &&& Int32.toUInt32 31)).toInt32 &&& (858993459 : Int32))) + ((((a0 - ((a0.toUInt32 >>> ((1 : Int32).toUInt32 &&& Int32.toUInt32 31)).toInt32 &&& (1431655765 : Int32))) &&& (858993459 : Int32)) + (((a0 - ((a0.toUInt32 >>> ((1 : Int32).toUInt32 &&& Int32.toUInt32 31)).toInt32 &&& (1431655765 : Int32))).toUInt32 >>> ((2 : Int32).toUInt32 &&& Int32.toUInt32 31)).toInt32 &&& (858993459 : Int32))).toUInt32 >>> ((4 : Int32).toUInt32 &&& Int32.toUInt32 31)).toInt32) &&& (252645135 : Int32)) + ((((((a0 - ((a0.toUInt32 >>> ((1 : Int32).toUInt32 &&& Int32.toUInt32 31)).toInt32 &&& (1431655765 : Int32))) &&& (858993459 : Int32)) + (((a0 - ((a0.toUInt32 >>> ((1 : Int32).toUInt32 &&& Int32.toUInt32 31)).toInt32 &&& (1431655765 : Int32))).toUInt32 >>> ((2 : Int32).toUInt32 &&& Int32.toUInt32 31)).toInt32 &&& (858993459 : Int32))) + ((((a0 - ((a0.toUInt32 >>> ((1 : Int32).toUInt32 &&& Int32.toUInt32 31)).toInt32 &&& (1431655765 : Int32))) &&& (858993459 : Int32)) + (((a0 - ((a0.toUInt32 >>> ((1 : Int32).toUInt32 &&& Int32.toUInt32 31)).toInt32 &&& (1431655765 : Int32))).toUInt32 >>> ((2 : Int32).toUInt32 &&& Int32.toUInt32 31)).toInt32 &&& (858993459 : Int32))).toUInt32 >>> ((4 : Int32).toUInt32 &&& Int32.toUInt32 31)).toInt32) &&& (252645135 : Int32)).toUInt32 >>> ((8 : Int32).toUInt32 &&& Int32.toUInt32 31)).toInt32))]) hx hb dJ6_bitCount_0f7a4_40 rfl jl (by decide) rfl (fun ls jl => ?_)
  refine lv_iload_n hx hb dJ6_bitCount_0f7a4_41 rfl (lv_at jl 0 rfl) ?_
  refine lv_iload_n hx hb dJ6_bitCount_0f7a4_42 rfl (lv_at jl 0 rfl) ?_
  refine lv_bipush (v := (16 : Int32)) hx hb dJ6_bitCount_0f7a4_43 (by decide) ?_
  refine lv_iushr (v := (((((((a0 - ((a0.toUInt32 >>> ((1 : Int32).toUInt32 &&& Int32.toUInt32 31)).toInt32 &&& (1431655765 : Int32))) &&& (858993459 : Int32)) + (((a0 - ((a0.toUInt32 >>> ((1 : Int32).toUInt32 &&& Int32.toUInt32 31)).toInt32 &&& (1431655765 : Int32))).toUInt32 >>> ((2 : Int32).toUInt32 &&& Int32.toUInt32 31)).toInt32 &&& (858993459 : Int32))) + ((((a0 - ((a0.toUInt32 >>> ((1 : Int32).toUInt32 &&& Int32.toUInt32 31)).toInt32 &&& (1431655765 : Int32))) &&& (858993459 : Int32)) + (((a0 - ((a0.toUInt32 >>> ((1 : Int32).toUInt32 &&& Int32.toUInt32 31)).toInt32 &&& (1431655765 : Int32))).toUInt32 >>> ((2 : Int32).toUInt32 &&& Int32.toUInt32 31)).toInt32 &&& (858993459 : Int32))).toUInt32 >>> ((4 : Int32).toUInt32 &&& Int32.toUInt32 31)).toInt32) &&& (252645135 : Int32)) + ((((((a0 - ((a0.toUInt32 >>> ((1 : Int32).toUInt32 &&& Int32.toUInt32 31)).toInt32 &&& (1431655765 : Int32))) &&& (858993459 : Int32)) + (((a0 - ((a0.toUInt32 >>> ((1 : Int32).toUInt32 &&& Int32.toUInt32 31)).toInt32 &&& (1431655765 : Int32))).toUInt32 >>> ((2 : Int32).toUInt32 &&& Int32.toUInt32 31)).toInt32 &&& (858993459 : Int32))) + ((((a0 - ((a0.toUInt32 >>> ((1 : Int32).toUInt32 &&& Int32.toUInt32 31)).toInt32 &&& (1431655765 : Int32))) &&& (858993459 : Int32)) + (((a0 - ((a0.toUInt32 >>> ((1 : Int32).toUInt32 &&& Int32.toUInt32 31)).toInt32 &&& (1431655765 : Int32))).toUInt32 >>> ((2 : Int32).toUInt32 &&& Int32.toUInt32 31)).toInt32 &&& (858993459 : Int32))).toUInt32 >>> ((4 : Int32).toUInt32 &&& Int32.toUInt32 31)).toInt32) &&& (252645135 : Int32)).toUInt32 >>> ((8 : Int32).toUInt32 &&& Int32.toUInt32 31)).toInt32).toUInt32 >>> ((16 : Int32).toUInt32 &&& Int32.toUInt32 31)).toInt32) hx hb dJ6_bitCount_0f7a4_45 rfl ?_
  refine lv_iadd hx hb dJ6_bitCount_0f7a4_46 ?_
  refine lv_istore_n (lv' := [(0, .int (((((((a0 - ((a0.toUInt32 >>> ((1 : Int32).toUInt32 &&& Int32.toUInt32 31)).toInt32 &&& (1431655765 : Int32))) &&& (858993459 : Int32)) + (((a0 - ((a0.toUInt32 >>> ((1 : Int32).toUInt32 &&& Int32.toUInt32 31)).toInt32 &&& (1431655765 : Int32))).toUInt32 >>> ((2 : Int32).toUInt32 &&& Int32.toUInt32 31)).toInt32 &&& (858993459 : Int32))) + ((((a0 - ((a0.toUInt32 >>> ((1 : Int32).toUInt32 &&& Int32.toUInt32 31)).toInt32 &&& (1431655765 : Int32))) &&& (858993459 : Int32)) + (((a0 - ((a0.toUInt32 >>> ((1 : Int32).toUInt32 &&& Int32.toUInt32 31)).toInt32 &&& (1431655765 : Int32))).toUInt32 >>> ((2 : Int32).toUInt32 &&& Int32.toUInt32 31)).toInt32 &&& (858993459 : Int32))).toUInt32 >>> ((4 : Int32).toUInt32 &&& Int32.toUInt32 31)).toInt32) &&& (252645135 : Int32)) + ((((((a0 - ((a0.toUInt32 >>> ((1 : Int32).toUInt32 &&& Int32.toUInt32 31)).toInt32 &&& (1431655765 : Int32))) &&& (858993459 : Int32)) + (((a0 - ((a0.toUInt32 >>> ((1 : Int32).toUInt32 &&& Int32.toUInt32 31)).toInt32 &&& (1431655765 : Int32))).toUInt32 >>> ((2 : Int32).toUInt32 &&& Int32.toUInt32 31)).toInt32 &&& (858993459 : Int32))) + ((((a0 - ((a0.toUInt32 >>> ((1 : Int32).toUInt32 &&& Int32.toUInt32 31)).toInt32 &&& (1431655765 : Int32))) &&& (858993459 : Int32)) + (((a0 - ((a0.toUInt32 >>> ((1 : Int32).toUInt32 &&& Int32.toUInt32 31)).toInt32 &&& (1431655765 : Int32))).toUInt32 >>> ((2 : Int32).toUInt32 &&& Int32.toUInt32 31)).toInt32 &&& (858993459 : Int32))).toUInt32 >>> ((4 : Int32).toUInt32 &&& Int32.toUInt32 31)).toInt32) &&& (252645135 : Int32)).toUInt32 >>> ((8 : Int32).toUInt32 &&& Int32.toUInt32 31)).toInt32) + (((((((a0 - ((a0.toUInt32 >>> ((1 : Int32).toUInt32 &&& Int32.toUInt32 31)).toInt32 &&& (1431655765 : Int32))) &&& (858993459 : Int32)) + (((a0 - ((a0.toUInt32 >>> ((1 : Int32).toUInt32 &&& Int32.toUInt32 31)).toInt32 &&& (1431655765 : Int32))).toUInt32 >>> ((2 : Int32).toUInt32 &&& Int32.toUInt32 31)).toInt32 &&& (858993459 : Int32))) + ((((a0 - ((a0.toUInt32 >>> ((1 : Int32).toUInt32 &&& Int32.toUInt32 31)).toInt32 &&& (1431655765 : Int32))) &&& (858993459 : Int32)) + (((a0 - ((a0.toUInt32 >>> ((1 : Int32).toUInt32 &&& Int32.toUInt32 31)).toInt32 &&& (1431655765 : Int32))).toUInt32 >>> ((2 : Int32).toUInt32 &&& Int32.toUInt32 31)).toInt32 &&& (858993459 : Int32))).toUInt32 >>> ((4 : Int32).toUInt32 &&& Int32.toUInt32 31)).toInt32) &&& (252645135 : Int32)) + ((((((a0 - ((a0.toUInt32 >>> ((1 : Int32).toUInt32 &&& Int32.toUInt32 31)).toInt32 &&& (1431655765 : Int32))) &&& (858993459 : Int32)) + (((a0 - ((a0.toUInt32 >>> ((1 : Int32).toUInt32 &&& Int32.toUInt32 31)).toInt32 &&& (1431655765 : Int32))).toUInt32 >>> ((2 : Int32).toUInt32 &&& Int32.toUInt32 31)).toInt32 &&& (858993459 : Int32))) + ((((a0 - ((a0.toUInt32 >>> ((1 : Int32).toUInt32 &&& Int32.toUInt32 31)).toInt32 &&& (1431655765 : Int32))) &&& (858993459 : Int32)) + (((a0 - ((a0.toUInt32 >>> ((1 : Int32).toUInt32 &&& Int32.toUInt32 31)).toInt32 &&& (1431655765 : Int32))).toUInt32 >>> ((2 : Int32).toUInt32 &&& Int32.toUInt32 31)).toInt32 &&& (858993459 : Int32))).toUInt32 >>> ((4 : Int32).toUInt32 &&& Int32.toUInt32 31)).toInt32) &&& (252645135 : Int32)).toUInt32 >>> ((8 : Int32).toUInt32 &&& Int32.toUInt32 31)).toInt32).toUInt32 >>> ((16 : Int32).toUInt32 &&& Int32.toUInt32 31)).toInt32))]) hx hb dJ6_bitCount_0f7a4_47 rfl jl (by decide) rfl (fun ls jl => ?_)
  refine lv_iload_n hx hb dJ6_bitCount_0f7a4_48 rfl (lv_at jl 0 rfl) ?_
  refine lv_bipush (v := (63 : Int32)) hx hb dJ6_bitCount_0f7a4_49 (by decide) ?_
  refine lv_iand hx hb dJ6_bitCount_0f7a4_51 ?_
  obtain rfl := Option.some.inj h
  exact hRet _ _ _ _ jP jD jS dJ6_bitCount_0f7a4_52
theorem okX6_in : okS yX6_in cX6_in 6 (some .boolean) 3 := ⟨w_113, w_114, w_5, by decide, by decide, by decide +kernel⟩
def fX6_in (a0 : Int64) (a1 : Int64) (a2 : Int64) : Option Int32 :=
  if (lg_cmp a0 a1) < (0 : Int32) then (some (0 : Int32)) else (if (0 : Int32) < (lg_cmp a0 a2) then (some (0 : Int32)) else (some (1 : Int32)))
set_option maxRecDepth 100000 in
set_option maxHeartbeats 4000000 in
theorem kX6_in (l : Launch) (D : va_G) (cI cB cS : ClassId) (a0 : Int64) (a1 : Int64) (a2 : Int64) (z : Int32) (h : fX6_in a0 a1 a2 = some z) : Mt l yX6_in cX6_in 6 (some .boolean) 0 0 D cI cB cS [] [] [.long a0, .long a1, .long a2] (some (.int z)) := by
  refine entryZ (by decide +kernel) rfl (Nat.le_of_ble_eq_true rfl) ?_
  intro p e s m below meth c A ls QQ R ar F hRet jP jD jS jl
  obtain ⟨hx, hb, hml, hown, hts, jK, hA, hf1, hf2⟩ := id F
  have jl : lv_has ls 6 [(0, .long a0), (2, .long a1), (4, .long a2)] := jl
  unfold fX6_in at h
  refine lv_lload_n hx hb dX6_in_0 rfl (lv_at jl 0 rfl) ?_
  refine lv_lload_n hx hb dX6_in_1 rfl (lv_at jl 1 rfl) ?_
  refine W.lcmp hx hb dX6_in_2 ?_
  refine lv_if_lt (tgt := 17) hx hb dX6_in_3 (by decide) (fun c1 => ?_) (fun c1 => ?_)
  · have h := itp c1 h
    refine lv_iconst (v := (0 : Int32)) hx hb dX6_in_17 (by decide) ?_
    obtain rfl := Option.some.inj h
    exact hRet _ _ _ _ (Or.inl rfl) jP jD jS dX6_in_18
  · have h := itn c1 h
    refine lv_lload_n hx hb dX6_in_6 rfl (lv_at jl 0 rfl) ?_
    refine lv_lload hx hb dX6_in_7 (lv_at jl 2 rfl) ?_
    refine W.lcmp hx hb dX6_in_9 ?_
    refine lv_if_gt (tgt := 17) hx hb dX6_in_10 (by decide) (fun c2 => ?_) (fun c2 => ?_)
    · have h := itp c2 h
      refine lv_iconst (v := (0 : Int32)) hx hb dX6_in_17 (by decide) ?_
      obtain rfl := Option.some.inj h
      exact hRet _ _ _ _ (Or.inl rfl) jP jD jS dX6_in_18
    · have h := itn c2 h
      refine lv_iconst (v := (1 : Int32)) hx hb dX6_in_13 (by decide) ?_
      refine lv_goto (tgt := 18) hx hb dX6_in_14 (by decide) ?_
      obtain rfl := Option.some.inj h
      exact hRet _ _ _ _ (Or.inr rfl) jP jD jS dX6_in_18
theorem okX6_isAsTold : okS yX6_isAsTold cX6_isAsTold 4 (some .boolean) 4 := ⟨w_286, w_287, w_5, by decide, by decide, by decide +kernel⟩
def fX6_isAsTold (a0 : Int32) (a1 : Int32) (a2 : Int32) (a3 : Int32) : Option Int32 :=
  bd (fX6_in a0.toInt64 (1 : Int64) (50 : Int64)) (fun t1 => if t1 = (0 : Int32) then (some (0 : Int32)) else (bd (fX6_in a1.toInt64 (0 : Int64) (99 : Int64)) (fun t4 => if t4 = (0 : Int32) then (some (0 : Int32)) else (bd (fX6_in a2.toInt64 (0 : Int64) (99 : Int64)) (fun t7 => if t7 = (0 : Int32) then (some (0 : Int32)) else (bd (fX6_in a3.toInt64 (0 : Int64) (10 : Int64)) (fun t10 => if t10 = (0 : Int32) then (some (0 : Int32)) else (some (1 : Int32)))))))))
set_option maxRecDepth 100000 in
set_option maxHeartbeats 4000000 in
theorem kX6_isAsTold (l : Launch) (D : va_G) (cI cB cS : ClassId) (a0 : Int32) (a1 : Int32) (a2 : Int32) (a3 : Int32) (z : Int32) (h : fX6_isAsTold a0 a1 a2 a3 = some z) : Mt l yX6_isAsTold cX6_isAsTold 4 (some .boolean) 1 25 D cI cB cS [] [] [.int a0, .int a1, .int a2, .int a3] (some (.int z)) := by
  refine entryZ (by decide +kernel) rfl (Nat.le_of_ble_eq_true rfl) ?_
  intro p e s m below meth c A ls QQ R ar F hRet jP jD jS jl
  obtain ⟨hx, hb, hml, hown, hts, jK, hA, hf1, hf2⟩ := id F
  have jl : lv_has ls 4 [(0, .int a0), (1, .int a1), (2, .int a2), (3, .int a3)] := jl
  unfold fX6_isAsTold at h
  refine lv_iload_n hx hb dX6_isAsTold_0 rfl (lv_at jl 0 rfl) ?_
  refine lv_i2l (v := a0.toInt64) hx hb dX6_isAsTold_1 rfl ?_
  refine lv_lconst (v := (1 : Int64)) hx hb dX6_isAsTold_2 (by decide) ?_
  refine lv_ldc2 (v := (50 : Int64)) hx hb hown (hts _ w_288) dX6_isAsTold_3 ?_
  obtain ⟨t1, hc2, h⟩ := bd_some h
  refine call0 (As := [.long a0.toInt64, .long (1 : Int64), .long (50 : Int64)]) (rest := []) (st1 := [.int t1]) F (kX6_in l D cI cB cS  a0.toInt64 (1 : Int64) (50 : Int64) _ hc2 ) okX6_in w_112 (by decide) (by decide) ⟨Nat.zero_le _, Nat.zero_le _⟩ jP jD jS rfl jl.1 rfl rfl (Nat.le_of_ble_eq_true rfl) dX6_isAsTold_6 (fun H locs jP jD jS => ?_)
  refine lv_if_eq (tgt := 52) hx hb dX6_isAsTold_9 (by decide) (fun c3 => ?_) (fun c3 => ?_)
  · have h := itp c3 h
    refine lv_iconst (v := (0 : Int32)) hx hb dX6_isAsTold_52 (by decide) ?_
    obtain rfl := Option.some.inj h
    exact hRet _ _ _ _ (Or.inl rfl) jP jD jS dX6_isAsTold_53
  · have h := itn c3 h
    refine lv_iload_n hx hb dX6_isAsTold_12 rfl (lv_at jl 1 rfl) ?_
    refine lv_i2l (v := a1.toInt64) hx hb dX6_isAsTold_13 rfl ?_
    refine lv_lconst (v := (0 : Int64)) hx hb dX6_isAsTold_14 (by decide) ?_
    refine lv_ldc2 (v := (99 : Int64)) hx hb hown (hts _ w_289) dX6_isAsTold_15 ?_
    obtain ⟨t4, hc5, h⟩ := bd_some h
    refine call0 (As := [.long a1.toInt64, .long (0 : Int64), .long (99 : Int64)]) (rest := []) (st1 := [.int t4]) F (kX6_in l D cI cB cS  a1.toInt64 (0 : Int64) (99 : Int64) _ hc5 ) okX6_in w_112 (by decide) (by decide) ⟨Nat.zero_le _, Nat.zero_le _⟩ jP jD jS rfl jl.1 rfl rfl (Nat.le_of_ble_eq_true rfl) dX6_isAsTold_18 (fun H locs jP jD jS => ?_)
    refine lv_if_eq (tgt := 52) hx hb dX6_isAsTold_21 (by decide) (fun c6 => ?_) (fun c6 => ?_)
    · have h := itp c6 h
      refine lv_iconst (v := (0 : Int32)) hx hb dX6_isAsTold_52 (by decide) ?_
      obtain rfl := Option.some.inj h
      exact hRet _ _ _ _ (Or.inl rfl) jP jD jS dX6_isAsTold_53
    · have h := itn c6 h
      refine lv_iload_n hx hb dX6_isAsTold_24 rfl (lv_at jl 2 rfl) ?_
      refine lv_i2l (v := a2.toInt64) hx hb dX6_isAsTold_25 rfl ?_
      refine lv_lconst (v := (0 : Int64)) hx hb dX6_isAsTold_26 (by decide) ?_
      refine lv_ldc2 (v := (99 : Int64)) hx hb hown (hts _ w_289) dX6_isAsTold_27 ?_
      obtain ⟨t7, hc8, h⟩ := bd_some h
      refine call0 (As := [.long a2.toInt64, .long (0 : Int64), .long (99 : Int64)]) (rest := []) (st1 := [.int t7]) F (kX6_in l D cI cB cS  a2.toInt64 (0 : Int64) (99 : Int64) _ hc8 ) okX6_in w_112 (by decide) (by decide) ⟨Nat.zero_le _, Nat.zero_le _⟩ jP jD jS rfl jl.1 rfl rfl (Nat.le_of_ble_eq_true rfl) dX6_isAsTold_30 (fun H locs jP jD jS => ?_)
      refine lv_if_eq (tgt := 52) hx hb dX6_isAsTold_33 (by decide) (fun c9 => ?_) (fun c9 => ?_)
      · have h := itp c9 h
        refine lv_iconst (v := (0 : Int32)) hx hb dX6_isAsTold_52 (by decide) ?_
        obtain rfl := Option.some.inj h
        exact hRet _ _ _ _ (Or.inl rfl) jP jD jS dX6_isAsTold_53
      · have h := itn c9 h
        refine lv_iload_n hx hb dX6_isAsTold_36 rfl (lv_at jl 3 rfl) ?_
        refine lv_i2l (v := a3.toInt64) hx hb dX6_isAsTold_37 rfl ?_
        refine lv_lconst (v := (0 : Int64)) hx hb dX6_isAsTold_38 (by decide) ?_
        refine lv_ldc2 (v := (10 : Int64)) hx hb hown (hts _ w_290) dX6_isAsTold_39 ?_
        obtain ⟨t10, hc11, h⟩ := bd_some h
        refine call0 (As := [.long a3.toInt64, .long (0 : Int64), .long (10 : Int64)]) (rest := []) (st1 := [.int t10]) F (kX6_in l D cI cB cS  a3.toInt64 (0 : Int64) (10 : Int64) _ hc11 ) okX6_in w_112 (by decide) (by decide) ⟨Nat.zero_le _, Nat.zero_le _⟩ jP jD jS rfl jl.1 rfl rfl (Nat.le_of_ble_eq_true rfl) dX6_isAsTold_42 (fun H locs jP jD jS => ?_)
        refine lv_if_eq (tgt := 52) hx hb dX6_isAsTold_45 (by decide) (fun c12 => ?_) (fun c12 => ?_)
        · have h := itp c12 h
          refine lv_iconst (v := (0 : Int32)) hx hb dX6_isAsTold_52 (by decide) ?_
          obtain rfl := Option.some.inj h
          exact hRet _ _ _ _ (Or.inl rfl) jP jD jS dX6_isAsTold_53
        · have h := itn c12 h
          refine lv_iconst (v := (1 : Int32)) hx hb dX6_isAsTold_48 (by decide) ?_
          refine lv_goto (tgt := 53) hx hb dX6_isAsTold_49 (by decide) ?_
          obtain rfl := Option.some.inj h
          exact hRet _ _ _ _ (Or.inr rfl) jP jD jS dX6_isAsTold_53
theorem okX6_isOffer : okS yX6_isOffer cX6_isOffer 2 (some .boolean) 2 := ⟨w_418, w_419, w_5, by decide, by decide, by decide +kernel⟩
def fX6_isOffer (a0 : Int32) (a1 : Int32) : Option Int32 :=
  bd (fX6_in a0.toInt64 (0 : Int64) (4 : Int64)) (fun t1 => if t1 = (0 : Int32) then (some (0 : Int32)) else (bd (if a0 = (3 : Int32) then (some (10 : Int64)) else (some (99 : Int64))) (fun t5 => bd (fX6_in a1.toInt64 (0 : Int64) t5) (fun t6 => if t6 = (0 : Int32) then (some (0 : Int32)) else (some (1 : Int32))))))
set_option maxRecDepth 100000 in
set_option maxHeartbeats 4000000 in
theorem kX6_isOffer (l : Launch) (D : va_G) (cI cB cS : ClassId) (a0 : Int32) (a1 : Int32) (z : Int32) (h : fX6_isOffer a0 a1 = some z) : Mt l yX6_isOffer cX6_isOffer 2 (some .boolean) 1 25 D cI cB cS [] [] [.int a0, .int a1] (some (.int z)) := by
  refine entryZ (by decide +kernel) rfl (Nat.le_of_ble_eq_true rfl) ?_
  intro p e s m below meth c A ls QQ R ar F hRet jP jD jS jl
  obtain ⟨hx, hb, hml, hown, hts, jK, hA, hf1, hf2⟩ := id F
  have jl : lv_has ls 2 [(0, .int a0), (1, .int a1)] := jl
  unfold fX6_isOffer at h
  refine lv_iload_n hx hb dX6_isOffer_0 rfl (lv_at jl 0 rfl) ?_
  refine lv_i2l (v := a0.toInt64) hx hb dX6_isOffer_1 rfl ?_
  refine lv_lconst (v := (0 : Int64)) hx hb dX6_isOffer_2 (by decide) ?_
  refine lv_ldc2 (v := (4 : Int64)) hx hb hown (hts _ w_315) dX6_isOffer_3 ?_
  obtain ⟨t1, hc2, h⟩ := bd_some h
  refine call0 (As := [.long a0.toInt64, .long (0 : Int64), .long (4 : Int64)]) (rest := []) (st1 := [.int t1]) F (kX6_in l D cI cB cS  a0.toInt64 (0 : Int64) (4 : Int64) _ hc2 ) okX6_in w_112 (by decide) (by decide) ⟨Nat.zero_le _, Nat.zero_le _⟩ jP jD jS rfl jl.1 rfl rfl (Nat.le_of_ble_eq_true rfl) dX6_isOffer_6 (fun H locs jP jD jS => ?_)
  refine lv_if_eq (tgt := 39) hx hb dX6_isOffer_9 (by decide) (fun c3 => ?_) (fun c3 => ?_)
  · have h := itp c3 h
    refine lv_iconst (v := (0 : Int32)) hx hb dX6_isOffer_39 (by decide) ?_
    obtain rfl := Option.some.inj h
    exact hRet _ _ _ _ (Or.inl rfl) jP jD jS dX6_isOffer_40
  · have h := itn c3 h
    refine lv_iload_n hx hb dX6_isOffer_12 rfl (lv_at jl 1 rfl) ?_
    refine lv_i2l (v := a1.toInt64) hx hb dX6_isOffer_13 rfl ?_
    refine lv_lconst (v := (0 : Int64)) hx hb dX6_isOffer_14 (by decide) ?_
    refine lv_iload_n hx hb dX6_isOffer_15 rfl (lv_at jl 0 rfl) ?_
    refine lv_iconst (v := (3 : Int32)) hx hb dX6_isOffer_16 (by decide) ?_
    obtain ⟨t5, hvt5, h⟩ := bd_some h
    have hJt5 : ∀ (H : Heap) (locs : List Loc) (ls : Array Slot), va_P D vwCl [] H → va_D A [] → va_S A s.heap H locs → lv_has ls 2 [] → W p l e R s m ar below meth c H locs 0 0 QQ (F0 m 29 ls [.long t5, .long (0 : Int64), .long a1.toInt64]) := by
      clear jP jD jS jl
      intro H locs ls jP jD jS jl
      obtain ⟨t6, hc7, h⟩ := bd_some h
      refine call0 (As := [.long a1.toInt64, .long (0 : Int64), .long t5]) (rest := []) (st1 := [.int t6]) F (kX6_in l D cI cB cS  a1.toInt64 (0 : Int64) t5 _ hc7 ) okX6_in w_112 (by decide) (by decide) ⟨Nat.zero_le _, Nat.zero_le _⟩ jP jD jS rfl jl.1 rfl rfl (Nat.le_of_ble_eq_true rfl) dX6_isOffer_29 (fun H locs jP jD jS => ?_)
      refine lv_if_eq (tgt := 39) hx hb dX6_isOffer_32 (by decide) (fun c8 => ?_) (fun c8 => ?_)
      · have h := itp c8 h
        refine lv_iconst (v := (0 : Int32)) hx hb dX6_isOffer_39 (by decide) ?_
        obtain rfl := Option.some.inj h
        exact hRet _ _ _ _ (Or.inl rfl) jP jD jS dX6_isOffer_40
      · have h := itn c8 h
        refine lv_iconst (v := (1 : Int32)) hx hb dX6_isOffer_35 (by decide) ?_
        refine lv_goto (tgt := 40) hx hb dX6_isOffer_36 (by decide) ?_
        obtain rfl := Option.some.inj h
        exact hRet _ _ _ _ (Or.inr rfl) jP jD jS dX6_isOffer_40
    clear h
    refine lv_icmp_ne (tgt := 26) hx hb dX6_isOffer_17 (by decide) (fun c4 => ?_) (fun c4 => ?_)
    · have hvt5 := itn c4 hvt5
      refine lv_ldc2 (v := (99 : Int64)) hx hb hown (hts _ w_289) dX6_isOffer_26 ?_
      obtain rfl := Option.some.inj hvt5
      exact hJt5 _ _ _ jP jD jS (lv_sub jl [] rfl)
    · have hvt5 := itp c4 hvt5
      refine lv_ldc2 (v := (10 : Int64)) hx hb hown (hts _ w_290) dX6_isOffer_20 ?_
      refine lv_goto (tgt := 29) hx hb dX6_isOffer_23 (by decide) ?_
      obtain rfl := Option.some.inj hvt5
      exact hJt5 _ _ _ jP jD jS (lv_sub jl [] rfl)
theorem okX6_isPrice : okS yX6_isPrice cX6_isPrice 1 (some .boolean) 1 := ⟨w_421, w_422, w_5, by decide, by decide, by decide +kernel⟩
def fX6_isPrice (a0 : Int32) : Option Int32 :=
  bd (fX6_in a0.toInt64 (0 : Int64) (99 : Int64)) (fun t1 => ckB t1 (some t1))
set_option maxRecDepth 100000 in
set_option maxHeartbeats 4000000 in
theorem kX6_isPrice (l : Launch) (D : va_G) (cI cB cS : ClassId) (a0 : Int32) (z : Int32) (h : fX6_isPrice a0 = some z) : Mt l yX6_isPrice cX6_isPrice 1 (some .boolean) 1 25 D cI cB cS [] [] [.int a0] (some (.int z)) := by
  refine entryZ (by decide +kernel) rfl (Nat.le_of_ble_eq_true rfl) ?_
  intro p e s m below meth c A ls QQ R ar F hRet jP jD jS jl
  obtain ⟨hx, hb, hml, hown, hts, jK, hA, hf1, hf2⟩ := id F
  have jl : lv_has ls 1 [(0, .int a0)] := jl
  unfold fX6_isPrice at h
  refine lv_iload_n hx hb dX6_isPrice_0 rfl (lv_at jl 0 rfl) ?_
  refine lv_i2l (v := a0.toInt64) hx hb dX6_isPrice_1 rfl ?_
  refine lv_lconst (v := (0 : Int64)) hx hb dX6_isPrice_2 (by decide) ?_
  refine lv_ldc2 (v := (99 : Int64)) hx hb hown (hts _ w_289) dX6_isPrice_3 ?_
  obtain ⟨t1, hc2, h⟩ := bd_some h
  refine call0 (As := [.long a0.toInt64, .long (0 : Int64), .long (99 : Int64)]) (rest := []) (st1 := [.int t1]) F (kX6_in l D cI cB cS  a0.toInt64 (0 : Int64) (99 : Int64) _ hc2 ) okX6_in w_112 (by decide) (by decide) ⟨Nat.zero_le _, Nat.zero_le _⟩ jP jD jS rfl jl.1 rfl rfl (Nat.le_of_ble_eq_true rfl) dX6_isPrice_6 (fun H locs jP jD jS => ?_)
  obtain ⟨hbz, h⟩ := ckB_some h
  obtain rfl := Option.some.inj h
  exact hRet _ _ _ _ hbz jP jD jS dX6_isPrice_9
theorem okX6_lowest : okS yX6_lowest cX6_lowest 11 (some .long) 3 := ⟨w_481, w_482, w_5, by decide, by decide, by decide +kernel⟩
def fX6_lowest_b17 (l0 : Int64) (l2 : Int64) (l4 : Int32) (v1 : (Int64 × Int64)) : Option ((Int64 × Int64) ⊕ Int64) :=
  if (lg_cmp v1.2 (0 : Int64)) = (0 : Int32) then (some (.inr v1.1)) else (ckL v1.2 (some (.inl (v1.2, (v1.1 - v1.1 / v1.2 * v1.2)))))
def fX6_lowest (a0 : Int64) (a1 : Int64) (a2 : Int32) : Option Int64 :=
  bd (if (0 : Int32) ≤ (lg_cmp a0 (0 : Int64)) then some a0 else some (-a0)) (fun t2 => bd (loopF (fX6_lowest_b17 a0 a1 a2) 1000 (t2, a1)) (fun T3 => bd (if a2 = (0 : Int32) then some a0 else some a1) (fun t6 => ckL T3 (some (t6 / T3)))))
set_option maxRecDepth 100000 in
set_option maxHeartbeats 4000000 in
theorem kX6_lowest (l : Launch) (D : va_G) (cI cB cS : ClassId) (a0 : Int64) (a1 : Int64) (a2 : Int32) (z : Int64) (h : fX6_lowest a0 a1 a2 = some z) : Mt l yX6_lowest cX6_lowest 11 (some .long) 0 0 D cI cB cS [] [] [.long a0, .long a1, .int a2] (some (.long z)) := by
  refine entryL (by decide +kernel) rfl (Nat.le_of_ble_eq_true rfl) ?_
  intro p e s m below meth c A ls QQ R ar F hRet jP jD jS jl
  obtain ⟨hx, hb, hml, hown, hts, jK, hA, hf1, hf2⟩ := id F
  have jl : lv_has ls 11 [(0, .long a0), (2, .long a1), (4, .int a2)] := jl
  unfold fX6_lowest at h
  refine lv_lload_n hx hb dX6_lowest_0 rfl (lv_at jl 0 rfl) ?_
  refine lv_lconst (v := (0 : Int64)) hx hb dX6_lowest_1 (by decide) ?_
  refine W.lcmp hx hb dX6_lowest_2 ?_
  obtain ⟨t2, hvt2, h⟩ := bd_some h
  have hJt2 : ∀ (H : Heap) (locs : List Loc) (ls : Array Slot), va_P D vwCl [] H → va_D A [] → va_S A s.heap H locs → lv_has ls 11 [(0, .long a0), (2, .long a1), (4, .int a2)] → W p l e R s m ar below meth c H locs 0 0 QQ (F0 m 12 ls [.long t2]) := by
    clear jP jD jS jl
    intro H locs ls jP jD jS jl
    refine lv_lstore (lv' := [(5, .long t2), (0, .long a0), (2, .long a1), (4, .int a2)]) hx hb dX6_lowest_12 jl (by decide) rfl (fun ls jl => ?_)
    refine lv_lload_n hx hb dX6_lowest_14 rfl (lv_at jl 2 rfl) ?_
    refine lv_lstore (lv' := [(7, .long a1), (5, .long t2), (0, .long a0), (2, .long a1), (4, .int a2)]) hx hb dX6_lowest_15 jl (by decide) rfl (fun ls jl => ?_)
    obtain ⟨T3, hT3, hz3⟩ := bd_some h
    clear h
    have hE3 : ∀ (H : Heap) (locs : List Loc) (ls : Array Slot), va_P D vwCl [] H → va_D A [] → va_S A s.heap H locs → lv_has ls 11 [(0, .long a0), (2, .long a1), (4, .int a2), (5, .long T3)] → W p l e R s m ar below meth c H locs 0 0 QQ (F0 m 42 ls []) := by
      clear jP jD jS jl
      intro H locs ls jP jD jS jl
      refine lv_iload hx hb dX6_lowest_42 (lv_at jl 2 rfl) ?_
      obtain ⟨t6, hvt6, hz3⟩ := bd_some hz3
      have hJt6 : ∀ (H : Heap) (locs : List Loc) (ls : Array Slot), va_P D vwCl [] H → va_D A [] → va_S A s.heap H locs → lv_has ls 11 [(5, .long T3)] → W p l e R s m ar below meth c H locs 0 0 QQ (F0 m 52 ls [.long t6]) := by
        clear jP jD jS jl
        intro H locs ls jP jD jS jl
        refine lv_lload hx hb dX6_lowest_52 (lv_at jl 0 rfl) ?_
        obtain ⟨hne, hz3⟩ := ckL_some hz3
        refine lv_ldiv hx hb dX6_lowest_54 hne ?_
        obtain rfl := Option.some.inj hz3
        exact hRet _ _ _ _ jP jD jS dX6_lowest_55
      clear hz3
      refine lv_if_ne (tgt := 51) hx hb dX6_lowest_44 (by decide) (fun c5 => ?_) (fun c5 => ?_)
      · have hvt6 := itn c5 hvt6
        refine lv_lload_n hx hb dX6_lowest_51 rfl (lv_at jl 1 rfl) ?_
        obtain rfl := Option.some.inj hvt6
        exact hJt6 _ _ _ jP jD jS (lv_sub jl [3] rfl)
      · have hvt6 := itp c5 hvt6
        refine lv_lload_n hx hb dX6_lowest_47 rfl (lv_at jl 0 rfl) ?_
        refine lv_goto (tgt := 52) hx hb dX6_lowest_48 (by decide) ?_
        obtain rfl := Option.some.inj hvt6
        exact hJt6 _ _ _ jP jD jS (lv_sub jl [3] rfl)
    have hL3 : ∀ (n : Nat) (v3 : (Int64 × Int64)), loopF (fX6_lowest_b17 a0 a1 a2) n v3 = some T3 → ∀ (H : Heap) (locs : List Loc) (ls : Array Slot), va_P D vwCl [] H → va_D A [] → va_S A s.heap H locs → lv_has ls 11 [(0, .long a0), (2, .long a1), (4, .int a2), (5, .long v3.1), (7, .long v3.2)] → W p l e R s m ar below meth c H locs 0 0 QQ (F0 m 17 ls []) := by
      clear jP jD jS jl hT3
      intro n
      induction n with
      | zero => intro v3 hq; exact (loop_none hq).elim
      | succ n ih =>
        intro v3 hq H locs ls jP jD jS jl
        obtain ⟨o3, hv3, hq3⟩ := loop_some hq
        clear hq
        unfold fX6_lowest_b17 at hv3
        refine lv_lload hx hb dX6_lowest_17 (lv_at jl 4 rfl) ?_
        refine lv_lconst (v := (0 : Int64)) hx hb dX6_lowest_19 (by decide) ?_
        refine W.lcmp hx hb dX6_lowest_20 ?_
        refine lv_if_eq (tgt := 42) hx hb dX6_lowest_21 (by decide) (fun c4 => ?_) (fun c4 => ?_)
        · have hv3 := itp c4 hv3
          obtain rfl := Option.some.inj hv3
          obtain rfl := nxt_r hq3
          exact hE3 _ _ _ jP jD jS (lv_sub jl [0, 1, 2, 3] rfl)
        · have hv3 := itn c4 hv3
          refine lv_lload hx hb dX6_lowest_24 (lv_at jl 3 rfl) ?_
          refine lv_lload hx hb dX6_lowest_26 (lv_at jl 4 rfl) ?_
          obtain ⟨hne, hv3⟩ := ckL_some hv3
          refine lv_lrem hx hb dX6_lowest_28 hne ?_
          refine lv_lstore (lv' := [(9, .long (v3.1 - v3.1 / v3.2 * v3.2)), (0, .long a0), (2, .long a1), (4, .int a2), (5, .long v3.1), (7, .long v3.2)]) hx hb dX6_lowest_29 jl (by decide) rfl (fun ls jl => ?_)
          refine lv_lload hx hb dX6_lowest_31 (lv_at jl 5 rfl) ?_
          refine lv_lstore (lv' := [(5, .long v3.2), (9, .long (v3.1 - v3.1 / v3.2 * v3.2)), (0, .long a0), (2, .long a1), (4, .int a2), (7, .long v3.2)]) hx hb dX6_lowest_33 jl (by decide) rfl (fun ls jl => ?_)
          refine lv_lload hx hb dX6_lowest_35 (lv_at jl 1 rfl) ?_
          refine lv_lstore (lv' := [(7, .long (v3.1 - v3.1 / v3.2 * v3.2)), (5, .long v3.2), (9, .long (v3.1 - v3.1 / v3.2 * v3.2)), (0, .long a0), (2, .long a1), (4, .int a2)]) hx hb dX6_lowest_37 jl (by decide) rfl (fun ls jl => ?_)
          refine lv_goto (tgt := 17) hx hb dX6_lowest_39 (by decide) ?_
          obtain rfl := Option.some.inj hv3
          exact ih _ (nxt_l hq3) _ _ _ jP jD jS (lv_sub jl [3, 4, 5, 1, 0] rfl)
    exact hL3 1000 _ hT3 _ _ _ jP jD jS (lv_sub jl [2, 3, 4, 1, 0] rfl)
  clear h
  refine lv_if_ge (tgt := 11) hx hb dX6_lowest_3 (by decide) (fun c1 => ?_) (fun c1 => ?_)
  · have hvt2 := itp c1 hvt2
    refine lv_lload_n hx hb dX6_lowest_11 rfl (lv_at jl 0 rfl) ?_
    obtain rfl := Option.some.inj hvt2
    exact hJt2 _ _ _ jP jD jS (lv_sub jl [0, 1, 2] rfl)
  · have hvt2 := itn c1 hvt2
    refine lv_lload_n hx hb dX6_lowest_6 rfl (lv_at jl 0 rfl) ?_
    refine lv_lneg hx hb dX6_lowest_7 ?_
    refine lv_goto (tgt := 12) hx hb dX6_lowest_8 (by decide) ?_
    obtain rfl := Option.some.inj hvt2
    exact hJt2 _ _ _ jP jD jS (lv_sub jl [0, 1, 2] rfl)
