theorem okX4_shares : okV yX4_shares cX4_shares 1 (some .int) 0 := ⟨w_467, w_468, w_469, w_23, by decide, by decide, by decide +kernel⟩
def fX4_shares (T_x3 : Int32) : Option Int32 :=
  some ((10 : Int32) * T_x3)
set_option maxRecDepth 100000 in
set_option maxHeartbeats 4000000 in
theorem kX4_shares (l : Launch) (D : va_G) (cI cB cS : ClassId) (uT : Nat) (aT : Nat → Nat) (T_x1 : Int32) (T_x2 : Int32) (T_x3 : Int32) (T_x4 : Int32) (T_x5 : Int32) (T_x6 : Int32) (T_r0 : (Nat → Int32)) (z : Int32) (h : fX4_shares T_x3 = some z) : Mt l yX4_shares cX4_shares 1 (some .int) 0 0 D cI cB cS (tW cI uT aT T_x1 T_x2 T_x3 T_x4 T_x5 T_x6 T_r0) (tW cI uT aT T_x1 T_x2 T_x3 T_x4 T_x5 T_x6 T_r0) [.ref uT] (some (.int z)) := by
  refine entryI (by decide +kernel) rfl (Nat.le_of_ble_eq_true rfl) ?_
  intro p e s m below meth c A ls QQ R ar F hRet jP jD jS jl
  obtain ⟨hx, hb, hml, hown, hts, jK, hA, hf1, hf2⟩ := id F
  have jl : lv_has ls 1 [(0, .ref uT)] := jl
  unfold fX4_shares at h
  refine lv_bipush (v := (10 : Int32)) hx hb dX4_shares_0 (by decide) ?_
  refine lv_aload_n hx hb dX4_shares_2 rfl (lv_at jl 0 rfl) ?_
  refine va_get (D := D) (ci := 4) (v := .int T_x3) (C := RX4) (T := TX4) (N := 7) hx hb hts in4 hown jK.1 jP 0 rfl rfl 3 (by decide) (hts _ w_373) (fun _ h9 => h9) rfl dX4_shares_3 ?_
  refine lv_imul hx hb dX4_shares_6 ?_
  obtain rfl := Option.some.inj h
  exact hRet _ _ _ _ jP jD jS dX4_shares_7
theorem okX4_lackAt : okV yX4_lackAt cX4_lackAt 2 (some .int) 1 := ⟨w_492, w_493, w_494, w_23, by decide, by decide, by decide +kernel⟩
def fX4_lackAt (T_x3 : Int32) (T_x4 : Int32) (a1 : Int32) : Option Int32 :=
  bd (fX4_shares (T_x3)) (fun t1 => some ((a1 * t1) - T_x4))
set_option maxRecDepth 100000 in
set_option maxHeartbeats 4000000 in
theorem kX4_lackAt (l : Launch) (D : va_G) (cI cB cS : ClassId) (uT : Nat) (aT : Nat → Nat) (T_x1 : Int32) (T_x2 : Int32) (T_x3 : Int32) (T_x4 : Int32) (T_x5 : Int32) (T_x6 : Int32) (T_r0 : (Nat → Int32)) (a1 : Int32) (z : Int32) (h : fX4_lackAt T_x3 T_x4 a1 = some z) : Mt l yX4_lackAt cX4_lackAt 2 (some .int) 1 20 D cI cB cS (tW cI uT aT T_x1 T_x2 T_x3 T_x4 T_x5 T_x6 T_r0) (tW cI uT aT T_x1 T_x2 T_x3 T_x4 T_x5 T_x6 T_r0) [.ref uT, .int a1] (some (.int z)) := by
  refine entryI (by decide +kernel) rfl (Nat.le_of_ble_eq_true rfl) ?_
  intro p e s m below meth c A ls QQ R ar F hRet jP jD jS jl
  obtain ⟨hx, hb, hml, hown, hts, jK, hA, hf1, hf2⟩ := id F
  have jl : lv_has ls 2 [(0, .ref uT), (1, .int a1)] := jl
  unfold fX4_lackAt at h
  refine lv_iload_n hx hb dX4_lackAt_0 rfl (lv_at jl 1 rfl) ?_
  refine lv_aload_n hx hb dX4_lackAt_1 rfl (lv_at jl 0 rfl) ?_
  obtain ⟨t1, hc2, h⟩ := bd_some h
  refine callW (w1 := (tW cI uT aT T_x1 T_x2 T_x3 T_x4 T_x5 T_x6 T_r0)) (As := []) (rest := [.int a1]) (st1 := [.int t1, .int a1]) 0 F (kX4_shares l D cI cB cS uT aT T_x1 T_x2 T_x3 T_x4 T_x5 T_x6 T_r0  _ hc2 ) okX4_shares w_495 (by decide) (by decide) ⟨Nat.zero_le _, Nat.zero_le _⟩ rfl rfl rfl jP jD jS rfl jl.1 rfl rfl (Nat.le_of_ble_eq_true rfl) dX4_lackAt_2 (fun H locs jP jD jS => ?_)
  refine lv_imul hx hb dX4_lackAt_5 ?_
  refine lv_aload_n hx hb dX4_lackAt_6 rfl (lv_at jl 0 rfl) ?_
  refine va_get (D := D) (ci := 4) (v := .int T_x4) (C := RX4) (T := TX4) (N := 7) hx hb hts in4 hown jK.1 jP 0 rfl rfl 4 (by decide) (hts _ w_374) (fun _ h9 => h9) rfl dX4_lackAt_7 ?_
  refine lv_isub hx hb dX4_lackAt_10 ?_
  obtain rfl := Option.some.inj h
  exact hRet _ _ _ _ jP jD jS dX4_lackAt_11
theorem okX4_holdsAt : okV yX4_holdsAt cX4_holdsAt 2 (some .boolean) 1 := ⟨w_488, w_489, w_490, w_23, by decide, by decide, by decide +kernel⟩
def fX4_holdsAt (T_x3 : Int32) (T_x4 : Int32) (a1 : Int32) : Option Int32 :=
  if T_x3 ≤ (0 : Int32) then (some (0 : Int32)) else (bd (fX4_lackAt (T_x3) (T_x4) a1) (fun t2 => if (0 : Int32) < t2 then (some (0 : Int32)) else (some (1 : Int32))))
set_option maxRecDepth 100000 in
set_option maxHeartbeats 4000000 in
theorem kX4_holdsAt (l : Launch) (D : va_G) (cI cB cS : ClassId) (uT : Nat) (aT : Nat → Nat) (T_x1 : Int32) (T_x2 : Int32) (T_x3 : Int32) (T_x4 : Int32) (T_x5 : Int32) (T_x6 : Int32) (T_r0 : (Nat → Int32)) (a1 : Int32) (z : Int32) (h : fX4_holdsAt T_x3 T_x4 a1 = some z) : Mt l yX4_holdsAt cX4_holdsAt 2 (some .boolean) 2 41 D cI cB cS (tW cI uT aT T_x1 T_x2 T_x3 T_x4 T_x5 T_x6 T_r0) (tW cI uT aT T_x1 T_x2 T_x3 T_x4 T_x5 T_x6 T_r0) [.ref uT, .int a1] (some (.int z)) := by
  refine entryZ (by decide +kernel) rfl (Nat.le_of_ble_eq_true rfl) ?_
  intro p e s m below meth c A ls QQ R ar F hRet jP jD jS jl
  obtain ⟨hx, hb, hml, hown, hts, jK, hA, hf1, hf2⟩ := id F
  have jl : lv_has ls 2 [(0, .ref uT), (1, .int a1)] := jl
  unfold fX4_holdsAt at h
  refine lv_aload_n hx hb dX4_holdsAt_0 rfl (lv_at jl 0 rfl) ?_
  refine va_get (D := D) (ci := 4) (v := .int T_x3) (C := RX4) (T := TX4) (N := 7) hx hb hts in4 hown jK.1 jP 0 rfl rfl 3 (by decide) (hts _ w_373) (fun _ h9 => h9) rfl dX4_holdsAt_1 ?_
  refine lv_if_le (tgt := 19) hx hb dX4_holdsAt_4 (by decide) (fun c1 => ?_) (fun c1 => ?_)
  · have h := itp c1 h
    refine lv_iconst (v := (0 : Int32)) hx hb dX4_holdsAt_19 (by decide) ?_
    obtain rfl := Option.some.inj h
    exact hRet _ _ _ _ (Or.inl rfl) jP jD jS dX4_holdsAt_20
  · have h := itn c1 h
    refine lv_aload_n hx hb dX4_holdsAt_7 rfl (lv_at jl 0 rfl) ?_
    refine lv_iload_n hx hb dX4_holdsAt_8 rfl (lv_at jl 1 rfl) ?_
    obtain ⟨t2, hc3, h⟩ := bd_some h
    refine callW (w1 := (tW cI uT aT T_x1 T_x2 T_x3 T_x4 T_x5 T_x6 T_r0)) (As := [.int a1]) (rest := []) (st1 := [.int t2]) 0 F (kX4_lackAt l D cI cB cS uT aT T_x1 T_x2 T_x3 T_x4 T_x5 T_x6 T_r0 a1 _ hc3 ) okX4_lackAt w_491 (by decide) (by decide) ⟨Nat.zero_le _, Nat.zero_le _⟩ rfl rfl rfl jP jD jS rfl jl.1 rfl rfl (Nat.le_of_ble_eq_true rfl) dX4_holdsAt_9 (fun H locs jP jD jS => ?_)
    refine lv_if_gt (tgt := 19) hx hb dX4_holdsAt_12 (by decide) (fun c4 => ?_) (fun c4 => ?_)
    · have h := itp c4 h
      refine lv_iconst (v := (0 : Int32)) hx hb dX4_holdsAt_19 (by decide) ?_
      obtain rfl := Option.some.inj h
      exact hRet _ _ _ _ (Or.inl rfl) jP jD jS dX4_holdsAt_20
    · have h := itn c4 h
      refine lv_iconst (v := (1 : Int32)) hx hb dX4_holdsAt_15 (by decide) ?_
      refine lv_goto (tgt := 20) hx hb dX4_holdsAt_16 (by decide) ?_
      obtain rfl := Option.some.inj h
      exact hRet _ _ _ _ (Or.inr rfl) jP jD jS dX4_holdsAt_20
theorem okX4_bringsAll : okV yX4_bringsAll cX4_bringsAll 2 (some .boolean) 1 := ⟨w_612, w_613, w_614, w_23, by decide, by decide, by decide +kernel⟩
def fX4_bringsAll (T_x1 : Int32) (a1 : Int32) : Option Int32 :=
  if (T_x1 &&& a1) = a1 then (some (1 : Int32)) else (some (0 : Int32))
set_option maxRecDepth 100000 in
set_option maxHeartbeats 4000000 in
theorem kX4_bringsAll (l : Launch) (D : va_G) (cI cB cS : ClassId) (uT : Nat) (aT : Nat → Nat) (T_x1 : Int32) (T_x2 : Int32) (T_x3 : Int32) (T_x4 : Int32) (T_x5 : Int32) (T_x6 : Int32) (T_r0 : (Nat → Int32)) (a1 : Int32) (z : Int32) (h : fX4_bringsAll T_x1 a1 = some z) : Mt l yX4_bringsAll cX4_bringsAll 2 (some .boolean) 0 0 D cI cB cS (tW cI uT aT T_x1 T_x2 T_x3 T_x4 T_x5 T_x6 T_r0) (tW cI uT aT T_x1 T_x2 T_x3 T_x4 T_x5 T_x6 T_r0) [.ref uT, .int a1] (some (.int z)) := by
  refine entryZ (by decide +kernel) rfl (Nat.le_of_ble_eq_true rfl) ?_
  intro p e s m below meth c A ls QQ R ar F hRet jP jD jS jl
  obtain ⟨hx, hb, hml, hown, hts, jK, hA, hf1, hf2⟩ := id F
  have jl : lv_has ls 2 [(0, .ref uT), (1, .int a1)] := jl
  unfold fX4_bringsAll at h
  refine lv_aload_n hx hb dX4_bringsAll_0 rfl (lv_at jl 0 rfl) ?_
  refine va_get (D := D) (ci := 4) (v := .int T_x1) (C := RX4) (T := TX4) (N := 7) hx hb hts in4 hown jK.1 jP 0 rfl rfl 1 (by decide) (hts _ w_371) (fun _ h9 => h9) rfl dX4_bringsAll_1 ?_
  refine lv_iload_n hx hb dX4_bringsAll_4 rfl (lv_at jl 1 rfl) ?_
  refine lv_iand hx hb dX4_bringsAll_5 ?_
  refine lv_iload_n hx hb dX4_bringsAll_6 rfl (lv_at jl 1 rfl) ?_
  refine lv_icmp_ne (tgt := 14) hx hb dX4_bringsAll_7 (by decide) (fun c1 => ?_) (fun c1 => ?_)
  · have h := itn c1 h
    refine lv_iconst (v := (0 : Int32)) hx hb dX4_bringsAll_14 (by decide) ?_
    obtain rfl := Option.some.inj h
    exact hRet _ _ _ _ (Or.inl rfl) jP jD jS dX4_bringsAll_15
  · have h := itp c1 h
    refine lv_iconst (v := (1 : Int32)) hx hb dX4_bringsAll_10 (by decide) ?_
    refine lv_goto (tgt := 15) hx hb dX4_bringsAll_11 (by decide) ?_
    obtain rfl := Option.some.inj h
    exact hRet _ _ _ _ (Or.inr rfl) jP jD jS dX4_bringsAll_15
theorem okX4_thoughtDown : okV yX4_thoughtDown cX4_thoughtDown 1 (some .int) 0 := ⟨w_514, w_515, w_516, w_23, by decide, by decide, by decide +kernel⟩
def fX4_thoughtDown (T_x3 : Int32) (T_x4 : Int32) : Option Int32 :=
  if T_x3 ≤ (0 : Int32) then (some (0 : Int32)) else (bd (fX4_shares (T_x3)) (fun t2 => bd (fJ9_floorDiv_7cf53 (T_x4) t2) (fun t4 => some t4)))
set_option maxRecDepth 100000 in
set_option maxHeartbeats 4000000 in
theorem kX4_thoughtDown (l : Launch) (D : va_G) (cI cB cS : ClassId) (uT : Nat) (aT : Nat → Nat) (T_x1 : Int32) (T_x2 : Int32) (T_x3 : Int32) (T_x4 : Int32) (T_x5 : Int32) (T_x6 : Int32) (T_r0 : (Nat → Int32)) (z : Int32) (h : fX4_thoughtDown T_x3 T_x4 = some z) : Mt l yX4_thoughtDown cX4_thoughtDown 1 (some .int) 1 22 D cI cB cS (tW cI uT aT T_x1 T_x2 T_x3 T_x4 T_x5 T_x6 T_r0) (tW cI uT aT T_x1 T_x2 T_x3 T_x4 T_x5 T_x6 T_r0) [.ref uT] (some (.int z)) := by
  refine entryI (by decide +kernel) rfl (Nat.le_of_ble_eq_true rfl) ?_
  intro p e s m below meth c A ls QQ R ar F hRet jP jD jS jl
  obtain ⟨hx, hb, hml, hown, hts, jK, hA, hf1, hf2⟩ := id F
  have jl : lv_has ls 1 [(0, .ref uT)] := jl
  unfold fX4_thoughtDown at h
  refine lv_aload_n hx hb dX4_thoughtDown_0 rfl (lv_at jl 0 rfl) ?_
  refine va_get (D := D) (ci := 4) (v := .int T_x3) (C := RX4) (T := TX4) (N := 7) hx hb hts in4 hown jK.1 jP 0 rfl rfl 3 (by decide) (hts _ w_373) (fun _ h9 => h9) rfl dX4_thoughtDown_1 ?_
  refine lv_if_le (tgt := 21) hx hb dX4_thoughtDown_4 (by decide) (fun c1 => ?_) (fun c1 => ?_)
  · have h := itp c1 h
    refine lv_iconst (v := (0 : Int32)) hx hb dX4_thoughtDown_21 (by decide) ?_
    obtain rfl := Option.some.inj h
    exact hRet _ _ _ _ jP jD jS dX4_thoughtDown_22
  · have h := itn c1 h
    refine lv_aload_n hx hb dX4_thoughtDown_7 rfl (lv_at jl 0 rfl) ?_
    refine va_get (D := D) (ci := 4) (v := .int T_x4) (C := RX4) (T := TX4) (N := 7) hx hb hts in4 hown jK.1 jP 0 rfl rfl 4 (by decide) (hts _ w_374) (fun _ h9 => h9) rfl dX4_thoughtDown_8 ?_
    refine lv_aload_n hx hb dX4_thoughtDown_11 rfl (lv_at jl 0 rfl) ?_
    obtain ⟨t2, hc3, h⟩ := bd_some h
    refine callW (w1 := (tW cI uT aT T_x1 T_x2 T_x3 T_x4 T_x5 T_x6 T_r0)) (As := []) (rest := [.int T_x4]) (st1 := [.int t2, .int T_x4]) 0 F (kX4_shares l D cI cB cS uT aT T_x1 T_x2 T_x3 T_x4 T_x5 T_x6 T_r0  _ hc3 ) okX4_shares w_495 (by decide) (by decide) ⟨Nat.zero_le _, Nat.zero_le _⟩ rfl rfl rfl jP jD jS rfl jl.1 rfl rfl (Nat.le_of_ble_eq_true rfl) dX4_thoughtDown_12 (fun H locs jP jD jS => ?_)
    obtain ⟨t4, hc5, h⟩ := bd_some h
    refine call0 (As := [.int T_x4, .int t2]) (rest := []) (st1 := [.int t4]) F (kJ9_floorDiv_7cf53 l D cI cB cS  T_x4 t2 _ hc5 ) okJ9_floorDiv_7cf53 w_517 (by decide) (by decide) ⟨Nat.zero_le _, Nat.zero_le _⟩ jP jD jS rfl jl.1 rfl rfl (Nat.le_of_ble_eq_true rfl) dX4_thoughtDown_15 (fun H locs jP jD jS => ?_)
    refine lv_goto (tgt := 22) hx hb dX4_thoughtDown_18 (by decide) ?_
    obtain rfl := Option.some.inj h
    exact hRet _ _ _ _ jP jD jS dX4_thoughtDown_22
theorem okX4_priceBehind : okV yX4_priceBehind cX4_priceBehind 2 (some .int) 1 := ⟨w_509, w_510, w_511, w_23, by decide, by decide, by decide +kernel⟩
def fX4_priceBehind (T_x3 : Int32) (T_x4 : Int32) (a1 : Int32) : Option Int32 :=
  if T_x3 ≤ (0 : Int32) then some a1 else (bd (fX4_holdsAt (T_x3) (T_x4) a1) (fun t2 => if t2 = (0 : Int32) then (bd (fX4_thoughtDown (T_x3) (T_x4)) (fun t5 => some (if (0 : Int32) < t5 then t5 else (0 : Int32)))) else some a1))
set_option maxRecDepth 100000 in
set_option maxHeartbeats 4000000 in
theorem kX4_priceBehind (l : Launch) (D : va_G) (cI cB cS : ClassId) (uT : Nat) (aT : Nat → Nat) (T_x1 : Int32) (T_x2 : Int32) (T_x3 : Int32) (T_x4 : Int32) (T_x5 : Int32) (T_x6 : Int32) (T_r0 : (Nat → Int32)) (a1 : Int32) (z : Int32) (h : fX4_priceBehind T_x3 T_x4 a1 = some z) : Mt l yX4_priceBehind cX4_priceBehind 2 (some .int) 3 62 D cI cB cS (tW cI uT aT T_x1 T_x2 T_x3 T_x4 T_x5 T_x6 T_r0) (tW cI uT aT T_x1 T_x2 T_x3 T_x4 T_x5 T_x6 T_r0) [.ref uT, .int a1] (some (.int z)) := by
  refine entryI (by decide +kernel) rfl (Nat.le_of_ble_eq_true rfl) ?_
  intro p e s m below meth c A ls QQ R ar F hRet jP jD jS jl
  obtain ⟨hx, hb, hml, hown, hts, jK, hA, hf1, hf2⟩ := id F
  have jl : lv_has ls 2 [(0, .ref uT), (1, .int a1)] := jl
  unfold fX4_priceBehind at h
  refine lv_aload_n hx hb dX4_priceBehind_0 rfl (lv_at jl 0 rfl) ?_
  refine va_get (D := D) (ci := 4) (v := .int T_x3) (C := RX4) (T := TX4) (N := 7) hx hb hts in4 hown jK.1 jP 0 rfl rfl 3 (by decide) (hts _ w_373) (fun _ h9 => h9) rfl dX4_priceBehind_1 ?_
  refine lv_if_le (tgt := 15) hx hb dX4_priceBehind_4 (by decide) (fun c1 => ?_) (fun c1 => ?_)
  · have h := itp c1 h
    refine lv_iload_n hx hb dX4_priceBehind_15 rfl (lv_at jl 1 rfl) ?_
    obtain rfl := Option.some.inj h
    exact hRet _ _ _ _ jP jD jS dX4_priceBehind_16
  · have h := itn c1 h
    refine lv_aload_n hx hb dX4_priceBehind_7 rfl (lv_at jl 0 rfl) ?_
    refine lv_iload_n hx hb dX4_priceBehind_8 rfl (lv_at jl 1 rfl) ?_
    obtain ⟨t2, hc3, h⟩ := bd_some h
    refine callW (w1 := (tW cI uT aT T_x1 T_x2 T_x3 T_x4 T_x5 T_x6 T_r0)) (As := [.int a1]) (rest := []) (st1 := [.int t2]) 0 F (kX4_holdsAt l D cI cB cS uT aT T_x1 T_x2 T_x3 T_x4 T_x5 T_x6 T_r0 a1 _ hc3 ) okX4_holdsAt w_512 (by decide) (by decide) ⟨Nat.zero_le _, Nat.zero_le _⟩ rfl rfl rfl jP jD jS rfl jl.1 rfl rfl (Nat.le_of_ble_eq_true rfl) dX4_priceBehind_9 (fun H locs jP jD jS => ?_)
    refine lv_if_eq (tgt := 17) hx hb dX4_priceBehind_12 (by decide) (fun c4 => ?_) (fun c4 => ?_)
    · have h := itp c4 h
      refine lv_iconst (v := (0 : Int32)) hx hb dX4_priceBehind_17 (by decide) ?_
      refine lv_aload_n hx hb dX4_priceBehind_18 rfl (lv_at jl 0 rfl) ?_
      obtain ⟨t5, hc6, h⟩ := bd_some h
      refine callW (w1 := (tW cI uT aT T_x1 T_x2 T_x3 T_x4 T_x5 T_x6 T_r0)) (As := []) (rest := [.int (0 : Int32)]) (st1 := [.int t5, .int (0 : Int32)]) 0 F (kX4_thoughtDown l D cI cB cS uT aT T_x1 T_x2 T_x3 T_x4 T_x5 T_x6 T_r0  _ hc6 ) okX4_thoughtDown w_513 (by decide) (by decide) ⟨Nat.zero_le _, Nat.zero_le _⟩ rfl rfl rfl jP jD jS rfl jl.1 rfl rfl (Nat.le_of_ble_eq_true rfl) dX4_priceBehind_19 (fun H locs jP jD jS => ?_)
      refine va_mmax hx hb (hml.trans jl.1.symm) hown (hts _ w_404) (hts _ w_304) (hts _ w_305) (hts _ w_306) (Nat.le_trans (by decide) hf1) (Nat.le_trans (Nat.le_of_ble_eq_true rfl) hf2) (Nat.zero_le _) (Nat.zero_le _) dX4_priceBehind_22 ?_
      obtain rfl := Option.some.inj h
      exact hRet _ _ _ _ jP jD jS dX4_priceBehind_25
    · have h := itn c4 h
      refine lv_iload_n hx hb dX4_priceBehind_15 rfl (lv_at jl 1 rfl) ?_
      obtain rfl := Option.some.inj h
      exact hRet _ _ _ _ jP jD jS dX4_priceBehind_16
theorem okX4_isWhole : okS yX4_isWhole cX4_isWhole 6 (some .boolean) 5 := ⟨w_386, w_387, w_23, by decide, by decide, by decide +kernel⟩
def fX4_isWhole (S_r1 : (Nat → Int32)) (S_r3 : (Nat → Int32)) (a1 : Int32) (a2 : Int32) (a3 : Int32) (a4 : Int32) : Option Int32 :=
  if a2 = (1 : Int32) then (bd (fX2_tenthsForWarrant (S_r1) (S_r3) a1 a3) (fun t7 => if ((10 : Int32) * a4) < t7 then (some (0 : Int32)) else (some (1 : Int32)))) else (bd (if a2 = (3 : Int32) then (ckI a1 8 (if ((S_r3 a1.toNatClampNeg) * a3) = (100 : Int32) then (some (1 : Int32)) else (some (0 : Int32)))) else (some (0 : Int32))) (fun t4 => ckI a1 8 (if (S_r1 a1.toNatClampNeg) ≤ a4 then (some (1 : Int32)) else (if t4 = (0 : Int32) then (some (0 : Int32)) else (some (1 : Int32))))))
set_option maxRecDepth 100000 in
set_option maxHeartbeats 4000000 in
theorem kX4_isWhole (l : Launch) (D : va_G) (cI cB cS : ClassId) (uS : Nat) (aS : Nat → Nat) (S_x5 : Int32) (S_x6 : Int32) (S_x7 : Int32) (S_x8 : Int32) (S_x9 : Int32) (S_r0 : (Nat → Int32)) (S_r1 : (Nat → Int32)) (S_r2 : (Nat → Int32)) (S_r3 : (Nat → Int32)) (S_r4 : (Nat → Int32)) (a1 : Int32) (a2 : Int32) (a3 : Int32) (a4 : Int32) (z : Int32) (h : fX4_isWhole S_r1 S_r3 a1 a2 a3 a4 = some z) : Mt l yX4_isWhole cX4_isWhole 6 (some .boolean) 1 22 D cI cB cS (sW cI uS aS S_x5 S_x6 S_x7 S_x8 S_x9 S_r0 S_r1 S_r2 S_r3 S_r4) (sW cI uS aS S_x5 S_x6 S_x7 S_x8 S_x9 S_r0 S_r1 S_r2 S_r3 S_r4) [.ref uS, .int a1, .int a2, .int a3, .int a4] (some (.int z)) := by
  refine entryZ (by decide +kernel) rfl (Nat.le_of_ble_eq_true rfl) ?_
  intro p e s m below meth c A ls QQ R ar F hRet jP jD jS jl
  obtain ⟨hx, hb, hml, hown, hts, jK, hA, hf1, hf2⟩ := id F
  have jl : lv_has ls 6 [(0, .ref uS), (1, .int a1), (2, .int a2), (3, .int a3), (4, .int a4)] := jl
  unfold fX4_isWhole at h
  refine lv_iload_n hx hb dX4_isWhole_0 rfl (lv_at jl 2 rfl) ?_
  refine lv_iconst (v := (1 : Int32)) hx hb dX4_isWhole_1 (by decide) ?_
  refine lv_icmp_ne (tgt := 25) hx hb dX4_isWhole_2 (by decide) (fun c1 => ?_) (fun c1 => ?_)
  · have h := itn c1 h
    refine lv_iload_n hx hb dX4_isWhole_25 rfl (lv_at jl 2 rfl) ?_
    refine lv_iconst (v := (3 : Int32)) hx hb dX4_isWhole_26 (by decide) ?_
    obtain ⟨t4, hvt4, h⟩ := bd_some h
    have hJt4 : ∀ (H : Heap) (locs : List Loc) (ls : Array Slot), va_P D vwCl (sW cI uS aS S_x5 S_x6 S_x7 S_x8 S_x9 S_r0 S_r1 S_r2 S_r3 S_r4) H → va_D A (sW cI uS aS S_x5 S_x6 S_x7 S_x8 S_x9 S_r0 S_r1 S_r2 S_r3 S_r4) → va_S A s.heap H locs → lv_has ls 6 [(0, .ref uS), (1, .int a1), (4, .int a4)] → W p l e R s m ar below meth c H locs 0 0 QQ (F0 m 48 ls [.int t4]) := by
      clear jP jD jS jl
      intro H locs ls jP jD jS jl
      refine lv_istore (lv' := [(5, .int t4), (0, .ref uS), (1, .int a1), (4, .int a4)]) hx hb dX4_isWhole_48 jl (by decide) rfl (fun ls jl => ?_)
      refine lv_aload_n hx hb dX4_isWhole_50 rfl (lv_at jl 1 rfl) ?_
      refine va_get (D := D) (ci := 2) (v := .ref (aS 1)) (C := RX2) (T := TX2) (N := 10) hx hb hts in2 hown jK.1 jP 0 rfl rfl 1 (by decide) (hts _ w_389) (fun _ h9 => h9) rfl dX4_isWhole_51 ?_
      refine lv_iload_n hx hb dX4_isWhole_54 rfl (lv_at jl 2 rfl) ?_
      obtain ⟨hin, h⟩ := ckI_some h
      refine va_iald (f := S_r1) hx hb jK.1 jP 2 0 rfl rfl hin dX4_isWhole_55 ?_
      refine lv_iload hx hb dX4_isWhole_56 (lv_at jl 3 rfl) ?_
      refine lv_icmp_le (tgt := 66) hx hb dX4_isWhole_58 (by decide) (fun c5 => ?_) (fun c5 => ?_)
      · have h := itp c5 h
        refine lv_iconst (v := (1 : Int32)) hx hb dX4_isWhole_66 (by decide) ?_
        refine lv_goto (tgt := 71) hx hb dX4_isWhole_67 (by decide) ?_
        obtain rfl := Option.some.inj h
        exact hRet _ _ _ _ (Or.inr rfl) jP jD jS dX4_isWhole_71
      · have h := itn c5 h
        refine lv_iload hx hb dX4_isWhole_61 (lv_at jl 0 rfl) ?_
        refine lv_if_eq (tgt := 70) hx hb dX4_isWhole_63 (by decide) (fun c6 => ?_) (fun c6 => ?_)
        · have h := itp c6 h
          refine lv_iconst (v := (0 : Int32)) hx hb dX4_isWhole_70 (by decide) ?_
          obtain rfl := Option.some.inj h
          exact hRet _ _ _ _ (Or.inl rfl) jP jD jS dX4_isWhole_71
        · have h := itn c6 h
          refine lv_iconst (v := (1 : Int32)) hx hb dX4_isWhole_66 (by decide) ?_
          refine lv_goto (tgt := 71) hx hb dX4_isWhole_67 (by decide) ?_
          obtain rfl := Option.some.inj h
          exact hRet _ _ _ _ (Or.inr rfl) jP jD jS dX4_isWhole_71
    clear h
    refine lv_icmp_ne (tgt := 47) hx hb dX4_isWhole_27 (by decide) (fun c2 => ?_) (fun c2 => ?_)
    · have hvt4 := itn c2 hvt4
      refine lv_iconst (v := (0 : Int32)) hx hb dX4_isWhole_47 (by decide) ?_
      obtain rfl := Option.some.inj hvt4
      exact hJt4 _ _ _ jP jD jS (lv_sub jl [0, 1, 4] rfl)
    · have hvt4 := itp c2 hvt4
      refine lv_aload_n hx hb dX4_isWhole_30 rfl (lv_at jl 0 rfl) ?_
      refine va_get (D := D) (ci := 2) (v := .ref (aS 3)) (C := RX2) (T := TX2) (N := 10) hx hb hts in2 hown jK.1 jP 0 rfl rfl 3 (by decide) (hts _ w_388) (fun _ h9 => h9) rfl dX4_isWhole_31 ?_
      refine lv_iload_n hx hb dX4_isWhole_34 rfl (lv_at jl 1 rfl) ?_
      obtain ⟨hin, hvt4⟩ := ckI_some hvt4
      refine va_iald (f := S_r3) hx hb jK.1 jP 4 0 rfl rfl hin dX4_isWhole_35 ?_
      refine lv_iload_n hx hb dX4_isWhole_36 rfl (lv_at jl 3 rfl) ?_
      refine lv_imul hx hb dX4_isWhole_37 ?_
      refine lv_bipush (v := (100 : Int32)) hx hb dX4_isWhole_38 (by decide) ?_
      refine lv_icmp_ne (tgt := 47) hx hb dX4_isWhole_40 (by decide) (fun c3 => ?_) (fun c3 => ?_)
      · have hvt4 := itn c3 hvt4
        refine lv_iconst (v := (0 : Int32)) hx hb dX4_isWhole_47 (by decide) ?_
        obtain rfl := Option.some.inj hvt4
        exact hJt4 _ _ _ jP jD jS (lv_sub jl [0, 1, 4] rfl)
      · have hvt4 := itp c3 hvt4
        refine lv_iconst (v := (1 : Int32)) hx hb dX4_isWhole_43 (by decide) ?_
        refine lv_goto (tgt := 48) hx hb dX4_isWhole_44 (by decide) ?_
        obtain rfl := Option.some.inj hvt4
        exact hJt4 _ _ _ jP jD jS (lv_sub jl [0, 1, 4] rfl)
  · have h := itp c1 h
    refine lv_aload_n hx hb dX4_isWhole_5 rfl (lv_at jl 0 rfl) ?_
    refine lv_iload_n hx hb dX4_isWhole_6 rfl (lv_at jl 1 rfl) ?_
    refine lv_iload_n hx hb dX4_isWhole_7 rfl (lv_at jl 3 rfl) ?_
    obtain ⟨t7, hc8, h⟩ := bd_some h
    refine callW (w1 := (sW cI uS aS S_x5 S_x6 S_x7 S_x8 S_x9 S_r0 S_r1 S_r2 S_r3 S_r4)) (As := [.int a1, .int a3]) (rest := []) (st1 := [.int t7]) 0 F (kX2_tenthsForWarrant l D cI cB cS uS aS S_x5 S_x6 S_x7 S_x8 S_x9 S_r0 S_r1 S_r2 S_r3 S_r4 a1 a3 _ hc8 ) okX2_tenthsForWarrant w_390 (by decide) (by decide) ⟨Nat.zero_le _, Nat.zero_le _⟩ rfl rfl rfl jP jD jS rfl jl.1 rfl rfl (Nat.le_of_ble_eq_true rfl) dX4_isWhole_8 (fun H locs jP jD jS => ?_)
    refine lv_bipush (v := (10 : Int32)) hx hb dX4_isWhole_11 (by decide) ?_
    refine lv_iload hx hb dX4_isWhole_13 (lv_at jl 4 rfl) ?_
    refine lv_imul hx hb dX4_isWhole_15 ?_
    refine lv_icmp_gt (tgt := 23) hx hb dX4_isWhole_16 (by decide) (fun c9 => ?_) (fun c9 => ?_)
    · have h := itp c9 h
      refine lv_iconst (v := (0 : Int32)) hx hb dX4_isWhole_23 (by decide) ?_
      obtain rfl := Option.some.inj h
      exact hRet _ _ _ _ (Or.inl rfl) jP jD jS dX4_isWhole_24
    · have h := itn c9 h
      refine lv_iconst (v := (1 : Int32)) hx hb dX4_isWhole_19 (by decide) ?_
      refine lv_goto (tgt := 24) hx hb dX4_isWhole_20 (by decide) ?_
      obtain rfl := Option.some.inj h
      exact hRet _ _ _ _ (Or.inr rfl) jP jD jS dX4_isWhole_24
theorem okX4_partsOfOne : okS yX4_partsOfOne cX4_partsOfOne 4 (some .int) 4 := ⟨w_395, w_396, w_23, by decide, by decide, by decide +kernel⟩
def fX4_partsOfOne (S_r2 : (Nat → Int32)) (S_r3 : (Nat → Int32)) (S_x6 : Int32) (S_x7 : Int32) (a1 : Int32) (a2 : Int32) (a3 : Int32) : Option Int32 :=
  if a2 = (2 : Int32) then (bd (fX2_isGood (S_r2) (S_x6) a1) (fun t3 => bd (if t3 = (0 : Int32) then (some ((8 : Int32) - S_x7)) else some S_x7) (fun t6 => some ((100 : Int32) * t6)))) else (if a2 = (3 : Int32) then (ckI a1 8 (some ((8 : Int32) * ((100 : Int32) - ((S_r3 a1.toNatClampNeg) * a3))))) else (some (800 : Int32)))
set_option maxRecDepth 100000 in
set_option maxHeartbeats 4000000 in
theorem kX4_partsOfOne (l : Launch) (D : va_G) (cI cB cS : ClassId) (uS : Nat) (aS : Nat → Nat) (S_x5 : Int32) (S_x6 : Int32) (S_x7 : Int32) (S_x8 : Int32) (S_x9 : Int32) (S_r0 : (Nat → Int32)) (S_r1 : (Nat → Int32)) (S_r2 : (Nat → Int32)) (S_r3 : (Nat → Int32)) (S_r4 : (Nat → Int32)) (a1 : Int32) (a2 : Int32) (a3 : Int32) (z : Int32) (h : fX4_partsOfOne S_r2 S_r3 S_x6 S_x7 a1 a2 a3 = some z) : Mt l yX4_partsOfOne cX4_partsOfOne 4 (some .int) 1 21 D cI cB cS (sW cI uS aS S_x5 S_x6 S_x7 S_x8 S_x9 S_r0 S_r1 S_r2 S_r3 S_r4) (sW cI uS aS S_x5 S_x6 S_x7 S_x8 S_x9 S_r0 S_r1 S_r2 S_r3 S_r4) [.ref uS, .int a1, .int a2, .int a3] (some (.int z)) := by
  refine entryI (by decide +kernel) rfl (Nat.le_of_ble_eq_true rfl) ?_
  intro p e s m below meth c A ls QQ R ar F hRet jP jD jS jl
  obtain ⟨hx, hb, hml, hown, hts, jK, hA, hf1, hf2⟩ := id F
  have jl : lv_has ls 4 [(0, .ref uS), (1, .int a1), (2, .int a2), (3, .int a3)] := jl
  unfold fX4_partsOfOne at h
  refine lv_iload_n hx hb dX4_partsOfOne_0 rfl (lv_at jl 2 rfl) ?_
  refine lv_iconst (v := (2 : Int32)) hx hb dX4_partsOfOne_1 (by decide) ?_
  refine lv_icmp_ne (tgt := 31) hx hb dX4_partsOfOne_2 (by decide) (fun c1 => ?_) (fun c1 => ?_)
  · have h := itn c1 h
    refine lv_iload_n hx hb dX4_partsOfOne_31 rfl (lv_at jl 2 rfl) ?_
    refine lv_iconst (v := (3 : Int32)) hx hb dX4_partsOfOne_32 (by decide) ?_
    refine lv_icmp_ne (tgt := 53) hx hb dX4_partsOfOne_33 (by decide) (fun c2 => ?_) (fun c2 => ?_)
    · have h := itn c2 h
      refine lv_sipush (v := (800 : Int32)) hx hb dX4_partsOfOne_53 (by decide) ?_
      obtain rfl := Option.some.inj h
      exact hRet _ _ _ _ jP jD jS dX4_partsOfOne_56
    · have h := itp c2 h
      refine lv_bipush (v := (8 : Int32)) hx hb dX4_partsOfOne_36 (by decide) ?_
      refine lv_bipush (v := (100 : Int32)) hx hb dX4_partsOfOne_38 (by decide) ?_
      refine lv_aload_n hx hb dX4_partsOfOne_40 rfl (lv_at jl 0 rfl) ?_
      refine va_get (D := D) (ci := 2) (v := .ref (aS 3)) (C := RX2) (T := TX2) (N := 10) hx hb hts in2 hown jK.1 jP 0 rfl rfl 3 (by decide) (hts _ w_388) (fun _ h9 => h9) rfl dX4_partsOfOne_41 ?_
      refine lv_iload_n hx hb dX4_partsOfOne_44 rfl (lv_at jl 1 rfl) ?_
      obtain ⟨hin, h⟩ := ckI_some h
      refine va_iald (f := S_r3) hx hb jK.1 jP 4 0 rfl rfl hin dX4_partsOfOne_45 ?_
      refine lv_iload_n hx hb dX4_partsOfOne_46 rfl (lv_at jl 3 rfl) ?_
      refine lv_imul hx hb dX4_partsOfOne_47 ?_
      refine lv_isub hx hb dX4_partsOfOne_48 ?_
      refine lv_imul hx hb dX4_partsOfOne_49 ?_
      refine lv_goto (tgt := 56) hx hb dX4_partsOfOne_50 (by decide) ?_
      obtain rfl := Option.some.inj h
      exact hRet _ _ _ _ jP jD jS dX4_partsOfOne_56
  · have h := itp c1 h
    refine lv_bipush (v := (100 : Int32)) hx hb dX4_partsOfOne_5 (by decide) ?_
    refine lv_aload_n hx hb dX4_partsOfOne_7 rfl (lv_at jl 0 rfl) ?_
    refine lv_iload_n hx hb dX4_partsOfOne_8 rfl (lv_at jl 1 rfl) ?_
    obtain ⟨t3, hc4, h⟩ := bd_some h
    refine callW (w1 := (sW cI uS aS S_x5 S_x6 S_x7 S_x8 S_x9 S_r0 S_r1 S_r2 S_r3 S_r4)) (As := [.int a1]) (rest := [.int (100 : Int32)]) (st1 := [.int t3, .int (100 : Int32)]) 0 F (kX2_isGood l D cI cB cS uS aS S_x5 S_x6 S_x7 S_x8 S_x9 S_r0 S_r1 S_r2 S_r3 S_r4 a1 _ hc4 ) okX2_isGood w_398 (by decide) (by decide) ⟨Nat.zero_le _, Nat.zero_le _⟩ rfl rfl rfl jP jD jS rfl jl.1 rfl rfl (Nat.le_of_ble_eq_true rfl) dX4_partsOfOne_9 (fun H locs jP jD jS => ?_)
    obtain ⟨t6, hvt6, h⟩ := bd_some h
    have hJt6 : ∀ (H : Heap) (locs : List Loc) (ls : Array Slot), va_P D vwCl (sW cI uS aS S_x5 S_x6 S_x7 S_x8 S_x9 S_r0 S_r1 S_r2 S_r3 S_r4) H → va_D A (sW cI uS aS S_x5 S_x6 S_x7 S_x8 S_x9 S_r0 S_r1 S_r2 S_r3 S_r4) → va_S A s.heap H locs → lv_has ls 4 [] → W p l e R s m ar below meth c H locs 0 0 QQ (F0 m 29 ls [.int t6, .int (100 : Int32)]) := by
      clear jP jD jS jl
      intro H locs ls jP jD jS jl
      refine lv_imul hx hb dX4_partsOfOne_29 ?_
      obtain rfl := Option.some.inj h
      exact hRet _ _ _ _ jP jD jS dX4_partsOfOne_30
    clear h
    refine lv_if_eq (tgt := 22) hx hb dX4_partsOfOne_12 (by decide) (fun c5 => ?_) (fun c5 => ?_)
    · have hvt6 := itp c5 hvt6
      refine lv_bipush (v := (8 : Int32)) hx hb dX4_partsOfOne_22 (by decide) ?_
      refine lv_aload_n hx hb dX4_partsOfOne_24 rfl (lv_at jl 0 rfl) ?_
      refine va_get (D := D) (ci := 2) (v := .int S_x7) (C := RX2) (T := TX2) (N := 10) hx hb hts in2 hown jK.1 jP 0 rfl rfl 7 (by decide) (hts _ w_397) (fun _ h9 => h9) rfl dX4_partsOfOne_25 ?_
      refine lv_isub hx hb dX4_partsOfOne_28 ?_
      obtain rfl := Option.some.inj hvt6
      exact hJt6 _ _ _ jP jD jS (lv_sub jl [] rfl)
    · have hvt6 := itn c5 hvt6
      refine lv_aload_n hx hb dX4_partsOfOne_15 rfl (lv_at jl 0 rfl) ?_
      refine va_get (D := D) (ci := 2) (v := .int S_x7) (C := RX2) (T := TX2) (N := 10) hx hb hts in2 hown jK.1 jP 0 rfl rfl 7 (by decide) (hts _ w_397) (fun _ h9 => h9) rfl dX4_partsOfOne_16 ?_
      refine lv_goto (tgt := 29) hx hb dX4_partsOfOne_19 (by decide) ?_
      obtain rfl := Option.some.inj hvt6
      exact hJt6 _ _ _ jP jD jS (lv_sub jl [] rfl)
theorem okX4_sum : okV yX4_sum cX4_sum 6 none 3 := ⟨w_400, w_401, w_402, w_23, by decide, by decide, by decide +kernel⟩
def fX4_sum (S_r0 : (Nat → Int32)) (S_r1 : (Nat → Int32)) (S_r2 : (Nat → Int32)) (S_r3 : (Nat → Int32)) (T_r0 : (Nat → Int32)) (T_x3 : Int32) (T_x4 : Int32) (T_x5 : Int32) (T_x6 : Int32) (a2 : Int32) (a3 : Int32) : Option (Int32 × Int32 × Int32 × Int32) :=
  ckI a2 8 (bd (fX2_surplus (S_r1) (S_r2) a2) (fun t1 => ckI a2 8 (ckI a2 8 (ckI a2 8 (some ((T_x3 + (T_r0 a2.toNatClampNeg)), (T_x4 + ((T_r0 a2.toNatClampNeg) * (((10 : Int32) * (S_r2 a2.toNatClampNeg)) + ((S_r3 a2.toNatClampNeg) * a3)))), (T_x5 + ((T_r0 a2.toNatClampNeg) * t1)), (T_x6 + ((((800 : Int32) * (S_r0 a2.toNatClampNeg)) - (T_r0 a2.toNatClampNeg)) * (if (0 : Int32) < t1 then t1 else (0 : Int32))))))))))
set_option maxRecDepth 100000 in
set_option maxHeartbeats 4000000 in
theorem kX4_sum (l : Launch) (D : va_G) (cI cB cS : ClassId) (uT : Nat) (aT : Nat → Nat) (T_x1 : Int32) (T_x2 : Int32) (T_x3 : Int32) (T_x4 : Int32) (T_x5 : Int32) (T_x6 : Int32) (T_r0 : (Nat → Int32)) (uS : Nat) (aS : Nat → Nat) (S_x5 : Int32) (S_x6 : Int32) (S_x7 : Int32) (S_x8 : Int32) (S_x9 : Int32) (S_r0 : (Nat → Int32)) (S_r1 : (Nat → Int32)) (S_r2 : (Nat → Int32)) (S_r3 : (Nat → Int32)) (S_r4 : (Nat → Int32)) (a2 : Int32) (a3 : Int32) (z : (Int32 × Int32 × Int32 × Int32)) (h : fX4_sum S_r0 S_r1 S_r2 S_r3 T_r0 T_x3 T_x4 T_x5 T_x6 a2 a3 = some z) : Mt l yX4_sum cX4_sum 6 none 1 40 D cI cB cS (tW cI uT aT T_x1 T_x2 T_x3 T_x4 T_x5 T_x6 T_r0 ++ (sW cI uS aS S_x5 S_x6 S_x7 S_x8 S_x9 S_r0 S_r1 S_r2 S_r3 S_r4)) (tW cI uT aT T_x1 T_x2 z.1 z.2.1 z.2.2.1 z.2.2.2 T_r0 ++ (sW cI uS aS S_x5 S_x6 S_x7 S_x8 S_x9 S_r0 S_r1 S_r2 S_r3 S_r4)) [.ref uT, .ref uS, .int a2, .int a3] none := by
  refine entryV (by decide +kernel) rfl (Nat.le_of_ble_eq_true rfl) ?_
  intro p e s m below meth c A ls QQ R ar F hRet jP jD jS jl
  obtain ⟨hx, hb, hml, hown, hts, jK, hA, hf1, hf2⟩ := id F
  have jl : lv_has ls 6 [(0, .ref uT), (1, .ref uS), (2, .int a2), (3, .int a3)] := jl
  unfold fX4_sum at h
  refine lv_aload_n hx hb dX4_sum_0 rfl (lv_at jl 0 rfl) ?_
  refine va_get (D := D) (ci := 4) (v := .ref (aT 0)) (C := RX4) (T := TX4) (N := 7) hx hb hts in4 hown jK.1 jP 0 rfl rfl 0 (by decide) (hts _ w_50) (fun _ h9 => h9) rfl dX4_sum_1 ?_
  refine lv_iload_n hx hb dX4_sum_4 rfl (lv_at jl 2 rfl) ?_
  obtain ⟨hin, h⟩ := ckI_some h
  refine va_iald (f := T_r0) hx hb jK.1 jP 1 0 rfl rfl hin dX4_sum_5 ?_
  refine lv_istore (lv' := [(4, .int (T_r0 a2.toNatClampNeg)), (0, .ref uT), (1, .ref uS), (2, .int a2), (3, .int a3)]) hx hb dX4_sum_6 jl (by decide) rfl (fun ls jl => ?_)
  refine lv_aload_n hx hb dX4_sum_8 rfl (lv_at jl 2 rfl) ?_
  refine lv_iload_n hx hb dX4_sum_9 rfl (lv_at jl 3 rfl) ?_
  obtain ⟨t1, hc2, h⟩ := bd_some h
  refine callP (wc := (sW cI uS aS S_x5 S_x6 S_x7 S_x8 S_x9 S_r0 S_r1 S_r2 S_r3 S_r4)) (wr := (tW cI uT aT T_x1 T_x2 T_x3 T_x4 T_x5 T_x6 T_r0)) (w1 := (sW cI uS aS S_x5 S_x6 S_x7 S_x8 S_x9 S_r0 S_r1 S_r2 S_r3 S_r4)) (ws1 := (tW cI uT aT T_x1 T_x2 T_x3 T_x4 T_x5 T_x6 T_r0 ++ (sW cI uS aS S_x5 S_x6 S_x7 S_x8 S_x9 S_r0 S_r1 S_r2 S_r3 S_r4))) (As := [.int a2]) (rest := []) (st1 := [.int t1]) 0 [2, 3, 4, 5, 6, 7] [0, 1] [0, 1, 2, 3, 4, 5, 6, 7] F (kX2_surplus l D cI cB cS uS aS S_x5 S_x6 S_x7 S_x8 S_x9 S_r0 S_r1 S_r2 S_r3 S_r4 a2 _ hc2 ) okX2_surplus w_405 (by decide) (by decide) ⟨Nat.zero_le _, Nat.zero_le _⟩ rfl rfl rfl jP jD jS rfl jl.1 rfl rfl (Nat.le_of_ble_eq_true rfl) dX4_sum_10 rfl rfl (by decide) (by decide) (by decide) rfl (by decide) (fun H locs jP jD jS => ?_)
  refine lv_istore (lv' := [(5, .int t1), (4, .int (T_r0 a2.toNatClampNeg)), (0, .ref uT), (1, .ref uS), (2, .int a2), (3, .int a3)]) hx hb dX4_sum_13 jl (by decide) rfl (fun ls jl => ?_)
  refine lv_aload_n hx hb dX4_sum_15 rfl (lv_at jl 2 rfl) ?_
  refine lv_dup hx hb dX4_sum_16 rfl ?_
  refine va_get (D := D) (ci := 4) (v := .int T_x3) (C := RX4) (T := TX4) (N := 7) hx hb hts in4 hown jK.1 jP 0 rfl rfl 3 (by decide) (hts _ w_373) (fun _ h9 => h9) rfl dX4_sum_17 ?_
  refine lv_iload hx hb dX4_sum_20 (lv_at jl 1 rfl) ?_
  refine lv_iadd hx hb dX4_sum_22 ?_
  refine va_put (D := D) (ci := 4) (v := .int (T_x3 + (T_r0 a2.toNatClampNeg))) (ty := .int) (C := RX4) (T := TX4) (N := 7) hx hb hts in4 tyX4 tyX4_ok nmX4 hown jK.1 jP jD jS 0 rfl rfl 3 (by decide) (hts _ w_373) (fun _ h9 => h9) rfl (by decide +kernel) rfl rfl (Nat.le_of_ble_eq_true rfl) dX4_sum_23 (fun H locs jP jD jS => ?_)
  have jP : va_P D vwCl (tW cI uT aT T_x1 T_x2 (T_x3 + (T_r0 a2.toNatClampNeg)) T_x4 T_x5 T_x6 T_r0 ++ (sW cI uS aS S_x5 S_x6 S_x7 S_x8 S_x9 S_r0 S_r1 S_r2 S_r3 S_r4)) H := jP
  have jD : va_D A (tW cI uT aT T_x1 T_x2 (T_x3 + (T_r0 a2.toNatClampNeg)) T_x4 T_x5 T_x6 T_r0 ++ (sW cI uS aS S_x5 S_x6 S_x7 S_x8 S_x9 S_r0 S_r1 S_r2 S_r3 S_r4)) := jD
  refine lv_aload_n hx hb dX4_sum_26 rfl (lv_at jl 2 rfl) ?_
  refine lv_dup hx hb dX4_sum_27 rfl ?_
  refine va_get (D := D) (ci := 4) (v := .int T_x4) (C := RX4) (T := TX4) (N := 7) hx hb hts in4 hown jK.1 jP 0 rfl rfl 4 (by decide) (hts _ w_374) (fun _ h9 => h9) rfl dX4_sum_28 ?_
  refine lv_iload hx hb dX4_sum_31 (lv_at jl 1 rfl) ?_
  refine lv_bipush (v := (10 : Int32)) hx hb dX4_sum_33 (by decide) ?_
  refine lv_aload_n hx hb dX4_sum_35 rfl (lv_at jl 3 rfl) ?_
  refine va_get (D := D) (ci := 2) (v := .ref (aS 2)) (C := RX2) (T := TX2) (N := 10) hx hb hts in2 hown jK.1 jP 2 rfl rfl 2 (by decide) (hts _ w_403) (fun _ h9 => h9) rfl dX4_sum_36 ?_
  refine lv_iload_n hx hb dX4_sum_39 rfl (lv_at jl 4 rfl) ?_
  obtain ⟨hin, h⟩ := ckI_some h
  refine va_iald (f := S_r2) hx hb jK.1 jP 5 0 rfl rfl hin dX4_sum_40 ?_
  refine lv_imul hx hb dX4_sum_41 ?_
  refine lv_aload_n hx hb dX4_sum_42 rfl (lv_at jl 3 rfl) ?_
  refine va_get (D := D) (ci := 2) (v := .ref (aS 3)) (C := RX2) (T := TX2) (N := 10) hx hb hts in2 hown jK.1 jP 2 rfl rfl 3 (by decide) (hts _ w_388) (fun _ h9 => h9) rfl dX4_sum_43 ?_
  refine lv_iload_n hx hb dX4_sum_46 rfl (lv_at jl 4 rfl) ?_
  obtain ⟨hin, h⟩ := ckI_some h
  refine va_iald (f := S_r3) hx hb jK.1 jP 6 0 rfl rfl hin dX4_sum_47 ?_
  refine lv_iload_n hx hb dX4_sum_48 rfl (lv_at jl 5 rfl) ?_
  refine lv_imul hx hb dX4_sum_49 ?_
  refine lv_iadd hx hb dX4_sum_50 ?_
  refine lv_imul hx hb dX4_sum_51 ?_
  refine lv_iadd hx hb dX4_sum_52 ?_
  refine va_put (D := D) (ci := 4) (v := .int (T_x4 + ((T_r0 a2.toNatClampNeg) * (((10 : Int32) * (S_r2 a2.toNatClampNeg)) + ((S_r3 a2.toNatClampNeg) * a3))))) (ty := .int) (C := RX4) (T := TX4) (N := 7) hx hb hts in4 tyX4 tyX4_ok nmX4 hown jK.1 jP jD jS 0 rfl rfl 4 (by decide) (hts _ w_374) (fun _ h9 => h9) rfl (by decide +kernel) rfl rfl (Nat.le_of_ble_eq_true rfl) dX4_sum_53 (fun H locs jP jD jS => ?_)
  have jP : va_P D vwCl (tW cI uT aT T_x1 T_x2 (T_x3 + (T_r0 a2.toNatClampNeg)) (T_x4 + ((T_r0 a2.toNatClampNeg) * (((10 : Int32) * (S_r2 a2.toNatClampNeg)) + ((S_r3 a2.toNatClampNeg) * a3)))) T_x5 T_x6 T_r0 ++ (sW cI uS aS S_x5 S_x6 S_x7 S_x8 S_x9 S_r0 S_r1 S_r2 S_r3 S_r4)) H := jP
  have jD : va_D A (tW cI uT aT T_x1 T_x2 (T_x3 + (T_r0 a2.toNatClampNeg)) (T_x4 + ((T_r0 a2.toNatClampNeg) * (((10 : Int32) * (S_r2 a2.toNatClampNeg)) + ((S_r3 a2.toNatClampNeg) * a3)))) T_x5 T_x6 T_r0 ++ (sW cI uS aS S_x5 S_x6 S_x7 S_x8 S_x9 S_r0 S_r1 S_r2 S_r3 S_r4)) := jD
  refine lv_aload_n hx hb dX4_sum_56 rfl (lv_at jl 2 rfl) ?_
  refine lv_dup hx hb dX4_sum_57 rfl ?_
  refine va_get (D := D) (ci := 4) (v := .int T_x5) (C := RX4) (T := TX4) (N := 7) hx hb hts in4 hown jK.1 jP 0 rfl rfl 5 (by decide) (hts _ w_375) (fun _ h9 => h9) rfl dX4_sum_58 ?_
  refine lv_iload hx hb dX4_sum_61 (lv_at jl 1 rfl) ?_
  refine lv_iload hx hb dX4_sum_63 (lv_at jl 0 rfl) ?_
  refine lv_imul hx hb dX4_sum_65 ?_
  refine lv_iadd hx hb dX4_sum_66 ?_
  refine va_put (D := D) (ci := 4) (v := .int (T_x5 + ((T_r0 a2.toNatClampNeg) * t1))) (ty := .int) (C := RX4) (T := TX4) (N := 7) hx hb hts in4 tyX4 tyX4_ok nmX4 hown jK.1 jP jD jS 0 rfl rfl 5 (by decide) (hts _ w_375) (fun _ h9 => h9) rfl (by decide +kernel) rfl rfl (Nat.le_of_ble_eq_true rfl) dX4_sum_67 (fun H locs jP jD jS => ?_)
  have jP : va_P D vwCl (tW cI uT aT T_x1 T_x2 (T_x3 + (T_r0 a2.toNatClampNeg)) (T_x4 + ((T_r0 a2.toNatClampNeg) * (((10 : Int32) * (S_r2 a2.toNatClampNeg)) + ((S_r3 a2.toNatClampNeg) * a3)))) (T_x5 + ((T_r0 a2.toNatClampNeg) * t1)) T_x6 T_r0 ++ (sW cI uS aS S_x5 S_x6 S_x7 S_x8 S_x9 S_r0 S_r1 S_r2 S_r3 S_r4)) H := jP
  have jD : va_D A (tW cI uT aT T_x1 T_x2 (T_x3 + (T_r0 a2.toNatClampNeg)) (T_x4 + ((T_r0 a2.toNatClampNeg) * (((10 : Int32) * (S_r2 a2.toNatClampNeg)) + ((S_r3 a2.toNatClampNeg) * a3)))) (T_x5 + ((T_r0 a2.toNatClampNeg) * t1)) T_x6 T_r0 ++ (sW cI uS aS S_x5 S_x6 S_x7 S_x8 S_x9 S_r0 S_r1 S_r2 S_r3 S_r4)) := jD
  refine lv_aload_n hx hb dX4_sum_70 rfl (lv_at jl 2 rfl) ?_
  refine lv_dup hx hb dX4_sum_71 rfl ?_
  refine va_get (D := D) (ci := 4) (v := .int T_x6) (C := RX4) (T := TX4) (N := 7) hx hb hts in4 hown jK.1 jP 0 rfl rfl 6 (by decide) (hts _ w_376) (fun _ h9 => h9) rfl dX4_sum_72 ?_
  refine lv_sipush (v := (800 : Int32)) hx hb dX4_sum_75 (by decide) ?_
  refine lv_aload_n hx hb dX4_sum_78 rfl (lv_at jl 3 rfl) ?_
  refine va_get (D := D) (ci := 2) (v := .ref (aS 0)) (C := RX2) (T := TX2) (N := 10) hx hb hts in2 hown jK.1 jP 2 rfl rfl 0 (by decide) (hts _ w_379) (fun _ h9 => h9) rfl dX4_sum_79 ?_
  refine lv_iload_n hx hb dX4_sum_82 rfl (lv_at jl 4 rfl) ?_
  obtain ⟨hin, h⟩ := ckI_some h
  refine va_iald (f := S_r0) hx hb jK.1 jP 3 0 rfl rfl hin dX4_sum_83 ?_
  refine lv_imul hx hb dX4_sum_84 ?_
  refine lv_iload hx hb dX4_sum_85 (lv_at jl 1 rfl) ?_
  refine lv_isub hx hb dX4_sum_87 ?_
  refine lv_iconst (v := (0 : Int32)) hx hb dX4_sum_88 (by decide) ?_
  refine lv_iload hx hb dX4_sum_89 (lv_at jl 0 rfl) ?_
  refine va_mmax hx hb (hml.trans jl.1.symm) hown (hts _ w_404) (hts _ w_304) (hts _ w_305) (hts _ w_306) (Nat.le_trans (by decide) hf1) (Nat.le_trans (Nat.le_of_ble_eq_true rfl) hf2) (Nat.zero_le _) (Nat.zero_le _) dX4_sum_91 ?_
  refine lv_imul hx hb dX4_sum_94 ?_
  refine lv_iadd hx hb dX4_sum_95 ?_
  refine va_put (D := D) (ci := 4) (v := .int (T_x6 + ((((800 : Int32) * (S_r0 a2.toNatClampNeg)) - (T_r0 a2.toNatClampNeg)) * (if (0 : Int32) < t1 then t1 else (0 : Int32))))) (ty := .int) (C := RX4) (T := TX4) (N := 7) hx hb hts in4 tyX4 tyX4_ok nmX4 hown jK.1 jP jD jS 0 rfl rfl 6 (by decide) (hts _ w_376) (fun _ h9 => h9) rfl (by decide +kernel) rfl rfl (Nat.le_of_ble_eq_true rfl) dX4_sum_96 (fun H locs jP jD jS => ?_)
  have jP : va_P D vwCl (tW cI uT aT T_x1 T_x2 (T_x3 + (T_r0 a2.toNatClampNeg)) (T_x4 + ((T_r0 a2.toNatClampNeg) * (((10 : Int32) * (S_r2 a2.toNatClampNeg)) + ((S_r3 a2.toNatClampNeg) * a3)))) (T_x5 + ((T_r0 a2.toNatClampNeg) * t1)) (T_x6 + ((((800 : Int32) * (S_r0 a2.toNatClampNeg)) - (T_r0 a2.toNatClampNeg)) * (if (0 : Int32) < t1 then t1 else (0 : Int32)))) T_r0 ++ (sW cI uS aS S_x5 S_x6 S_x7 S_x8 S_x9 S_r0 S_r1 S_r2 S_r3 S_r4)) H := jP
  have jD : va_D A (tW cI uT aT T_x1 T_x2 (T_x3 + (T_r0 a2.toNatClampNeg)) (T_x4 + ((T_r0 a2.toNatClampNeg) * (((10 : Int32) * (S_r2 a2.toNatClampNeg)) + ((S_r3 a2.toNatClampNeg) * a3)))) (T_x5 + ((T_r0 a2.toNatClampNeg) * t1)) (T_x6 + ((((800 : Int32) * (S_r0 a2.toNatClampNeg)) - (T_r0 a2.toNatClampNeg)) * (if (0 : Int32) < t1 then t1 else (0 : Int32)))) T_r0 ++ (sW cI uS aS S_x5 S_x6 S_x7 S_x8 S_x9 S_r0 S_r1 S_r2 S_r3 S_r4)) := jD
  obtain rfl := Option.some.inj h
  exact hRet _ _ _ _ jP jD jS dX4_sum_99
theorem okX4_make : okV yX4_make cX4_make 10 none 4 := ⟨w_368, w_369, w_370, w_23, by decide, by decide, by decide +kernel⟩
def fX4_make_b54 (l2 : Int32) (l3 : Int32) (l4 : Int32) (l5 : Int32) (S_x5 : Int32) (S_r1 : (Nat → Int32)) (S_r3 : (Nat → Int32)) (S_r4 : (Nat → Int32)) (S_r0 : (Nat → Int32)) (S_r2 : (Nat → Int32)) (S_x6 : Int32) (S_x7 : Int32) (v1 : (Int32 × (Nat → Int32) × Int32 × Int32 × Int32 × Int32 × Int32 × Int32)) : Option ((Int32 × (Nat → Int32) × Int32 × Int32 × Int32 × Int32 × Int32 × Int32) ⊕ ((Nat → Int32) × Int32 × Int32 × Int32 × Int32 × Int32 × Int32)) :=
  if S_x5 ≤ v1.1 then (some (.inr (v1.2.1, v1.2.2.1, v1.2.2.2.1, v1.2.2.2.2.1, v1.2.2.2.2.2.1, v1.2.2.2.2.2.2.1, v1.2.2.2.2.2.2.2))) else (bd (if l2 = (4 : Int32) then some l5 else (bd (fX4_isWhole (S_r1) (S_r3) v1.1 (l2) (l3) (l4)) (fun t1 => some t1))) (fun t2 => bd (if t2 = (0 : Int32) then (some (0 : Int32)) else (some ((1 : Int32) <<< (v1.1 &&& 31)))) (fun t3 => bd (if l2 = (4 : Int32) then (some (0 : Int32)) else (ckI v1.1 8 (some (S_r4 v1.1.toNatClampNeg)))) (fun t4 => bd (if t2 = (0 : Int32) then some t4 else (ckI v1.1 8 (some (S_r0 v1.1.toNatClampNeg)))) (fun t5 => bd (fX4_partsOfOne (S_r2) (S_r3) (S_x6) (S_x7) v1.1 (l2) (l3)) (fun t6 => ckI v1.1 8 (bd (if l2 = (1 : Int32) then some l3 else (some (0 : Int32))) (fun t7 => bd (fX4_sum (S_r0) (S_r1) (S_r2) (S_r3) (upd v1.2.1 v1.1.toNatClampNeg (t5 * t6)) v1.2.2.2.2.1 v1.2.2.2.2.2.1 v1.2.2.2.2.2.2.1 v1.2.2.2.2.2.2.2 v1.1 t7) (fun t8 => some (.inl ((v1.1 + (1 : Int32)), (upd v1.2.1 v1.1.toNatClampNeg (t5 * t6)), (v1.2.2.1 ||| t3), (v1.2.2.2.1 + t5), t8.1, t8.2.1, t8.2.2.1, t8.2.2.2)))))))))))
def fX4_make (S_r0 : (Nat → Int32)) (S_r1 : (Nat → Int32)) (S_r2 : (Nat → Int32)) (S_r3 : (Nat → Int32)) (S_r4 : (Nat → Int32)) (S_x5 : Int32) (S_x6 : Int32) (S_x7 : Int32) (S_x8 : Int32) (T_r0 : (Nat → Int32)) (a2 : Int32) (a3 : Int32) (a4 : Int32) : Option ((Nat → Int32) × Int32 × Int32 × Int32 × Int32 × Int32 × Int32) :=
  bd (if a2 = (4 : Int32) then (bd (fX2_comesAsHeap (S_r0) (S_r1) (S_x5) a4) (fun t2 => if t2 = (0 : Int32) then (some (0 : Int32)) else (some (1 : Int32)))) else (some (0 : Int32))) (fun t5 => bd (loopF (fX4_make_b54 a2 a3 a4 t5 S_x5 S_r1 S_r3 S_r4 S_r0 S_r2 S_x6 S_x7) 1000 ((0 : Int32), T_r0, (0 : Int32), (0 : Int32), (0 : Int32), (0 : Int32), (0 : Int32), (0 : Int32))) (fun T6 => if a2 = (2 : Int32) then (some (T6.1, T6.2.1, T6.2.2.1, T6.2.2.2.1, (T6.2.2.2.2.1 - (((8000 : Int32) * S_x8) * T6.2.2.1)), (T6.2.2.2.2.2.1 - (((800 : Int32) * S_x8) * T6.2.2.1)), T6.2.2.2.2.2.2)) else (some (T6.1, T6.2.1, T6.2.2.1, T6.2.2.2.1, T6.2.2.2.2.1, T6.2.2.2.2.2.1, T6.2.2.2.2.2.2))))
set_option maxRecDepth 100000 in
set_option maxHeartbeats 4000000 in
theorem kX4_make (l : Launch) (D : va_G) (cI cB cS : ClassId) (uT : Nat) (aT : Nat → Nat) (T_x1 : Int32) (T_x2 : Int32) (T_x3 : Int32) (T_x4 : Int32) (T_x5 : Int32) (T_x6 : Int32) (T_r0 : (Nat → Int32)) (uS : Nat) (aS : Nat → Nat) (S_x5 : Int32) (S_x6 : Int32) (S_x7 : Int32) (S_x8 : Int32) (S_x9 : Int32) (S_r0 : (Nat → Int32)) (S_r1 : (Nat → Int32)) (S_r2 : (Nat → Int32)) (S_r3 : (Nat → Int32)) (S_r4 : (Nat → Int32)) (a2 : Int32) (a3 : Int32) (a4 : Int32) (z : ((Nat → Int32) × Int32 × Int32 × Int32 × Int32 × Int32 × Int32)) (h : fX4_make S_r0 S_r1 S_r2 S_r3 S_r4 S_x5 S_x6 S_x7 S_x8 T_r0 a2 a3 a4 = some z) : Mt l yX4_make cX4_make 10 none 2 65 D cI cB cS (tW cI uT aT T_x1 T_x2 T_x3 T_x4 T_x5 T_x6 T_r0 ++ (sW cI uS aS S_x5 S_x6 S_x7 S_x8 S_x9 S_r0 S_r1 S_r2 S_r3 S_r4)) (tW cI uT aT z.2.1 z.2.2.1 z.2.2.2.1 z.2.2.2.2.1 z.2.2.2.2.2.1 z.2.2.2.2.2.2 z.1 ++ (sW cI uS aS S_x5 S_x6 S_x7 S_x8 S_x9 S_r0 S_r1 S_r2 S_r3 S_r4)) [.ref uT, .ref uS, .int a2, .int a3, .int a4] none := by
  refine entryV (by decide +kernel) rfl (Nat.le_of_ble_eq_true rfl) ?_
  intro p e s m below meth c A ls QQ R ar F hRet jP jD jS jl
  obtain ⟨hx, hb, hml, hown, hts, jK, hA, hf1, hf2⟩ := id F
  have jl : lv_has ls 10 [(0, .ref uT), (1, .ref uS), (2, .int a2), (3, .int a3), (4, .int a4)] := jl
  unfold fX4_make at h
  refine lv_aload_n hx hb dX4_make_0 rfl (lv_at jl 0 rfl) ?_
  refine lv_iconst (v := (0 : Int32)) hx hb dX4_make_1 (by decide) ?_
  refine va_put (D := D) (ci := 4) (v := .int (0 : Int32)) (ty := .int) (C := RX4) (T := TX4) (N := 7) hx hb hts in4 tyX4 tyX4_ok nmX4 hown jK.1 jP jD jS 0 rfl rfl 1 (by decide) (hts _ w_371) (fun _ h9 => h9) rfl (by decide +kernel) rfl rfl (Nat.le_of_ble_eq_true rfl) dX4_make_2 (fun H locs jP jD jS => ?_)
  have jP : va_P D vwCl (tW cI uT aT (0 : Int32) T_x2 T_x3 T_x4 T_x5 T_x6 T_r0 ++ (sW cI uS aS S_x5 S_x6 S_x7 S_x8 S_x9 S_r0 S_r1 S_r2 S_r3 S_r4)) H := jP
  have jD : va_D A (tW cI uT aT (0 : Int32) T_x2 T_x3 T_x4 T_x5 T_x6 T_r0 ++ (sW cI uS aS S_x5 S_x6 S_x7 S_x8 S_x9 S_r0 S_r1 S_r2 S_r3 S_r4)) := jD
  refine lv_aload_n hx hb dX4_make_5 rfl (lv_at jl 0 rfl) ?_
  refine lv_iconst (v := (0 : Int32)) hx hb dX4_make_6 (by decide) ?_
  refine va_put (D := D) (ci := 4) (v := .int (0 : Int32)) (ty := .int) (C := RX4) (T := TX4) (N := 7) hx hb hts in4 tyX4 tyX4_ok nmX4 hown jK.1 jP jD jS 0 rfl rfl 2 (by decide) (hts _ w_372) (fun _ h9 => h9) rfl (by decide +kernel) rfl rfl (Nat.le_of_ble_eq_true rfl) dX4_make_7 (fun H locs jP jD jS => ?_)
  have jP : va_P D vwCl (tW cI uT aT (0 : Int32) (0 : Int32) T_x3 T_x4 T_x5 T_x6 T_r0 ++ (sW cI uS aS S_x5 S_x6 S_x7 S_x8 S_x9 S_r0 S_r1 S_r2 S_r3 S_r4)) H := jP
  have jD : va_D A (tW cI uT aT (0 : Int32) (0 : Int32) T_x3 T_x4 T_x5 T_x6 T_r0 ++ (sW cI uS aS S_x5 S_x6 S_x7 S_x8 S_x9 S_r0 S_r1 S_r2 S_r3 S_r4)) := jD
  refine lv_aload_n hx hb dX4_make_10 rfl (lv_at jl 0 rfl) ?_
  refine lv_iconst (v := (0 : Int32)) hx hb dX4_make_11 (by decide) ?_
  refine va_put (D := D) (ci := 4) (v := .int (0 : Int32)) (ty := .int) (C := RX4) (T := TX4) (N := 7) hx hb hts in4 tyX4 tyX4_ok nmX4 hown jK.1 jP jD jS 0 rfl rfl 3 (by decide) (hts _ w_373) (fun _ h9 => h9) rfl (by decide +kernel) rfl rfl (Nat.le_of_ble_eq_true rfl) dX4_make_12 (fun H locs jP jD jS => ?_)
  have jP : va_P D vwCl (tW cI uT aT (0 : Int32) (0 : Int32) (0 : Int32) T_x4 T_x5 T_x6 T_r0 ++ (sW cI uS aS S_x5 S_x6 S_x7 S_x8 S_x9 S_r0 S_r1 S_r2 S_r3 S_r4)) H := jP
  have jD : va_D A (tW cI uT aT (0 : Int32) (0 : Int32) (0 : Int32) T_x4 T_x5 T_x6 T_r0 ++ (sW cI uS aS S_x5 S_x6 S_x7 S_x8 S_x9 S_r0 S_r1 S_r2 S_r3 S_r4)) := jD
  refine lv_aload_n hx hb dX4_make_15 rfl (lv_at jl 0 rfl) ?_
  refine lv_iconst (v := (0 : Int32)) hx hb dX4_make_16 (by decide) ?_
  refine va_put (D := D) (ci := 4) (v := .int (0 : Int32)) (ty := .int) (C := RX4) (T := TX4) (N := 7) hx hb hts in4 tyX4 tyX4_ok nmX4 hown jK.1 jP jD jS 0 rfl rfl 4 (by decide) (hts _ w_374) (fun _ h9 => h9) rfl (by decide +kernel) rfl rfl (Nat.le_of_ble_eq_true rfl) dX4_make_17 (fun H locs jP jD jS => ?_)
  have jP : va_P D vwCl (tW cI uT aT (0 : Int32) (0 : Int32) (0 : Int32) (0 : Int32) T_x5 T_x6 T_r0 ++ (sW cI uS aS S_x5 S_x6 S_x7 S_x8 S_x9 S_r0 S_r1 S_r2 S_r3 S_r4)) H := jP
  have jD : va_D A (tW cI uT aT (0 : Int32) (0 : Int32) (0 : Int32) (0 : Int32) T_x5 T_x6 T_r0 ++ (sW cI uS aS S_x5 S_x6 S_x7 S_x8 S_x9 S_r0 S_r1 S_r2 S_r3 S_r4)) := jD
  refine lv_aload_n hx hb dX4_make_20 rfl (lv_at jl 0 rfl) ?_
  refine lv_iconst (v := (0 : Int32)) hx hb dX4_make_21 (by decide) ?_
  refine va_put (D := D) (ci := 4) (v := .int (0 : Int32)) (ty := .int) (C := RX4) (T := TX4) (N := 7) hx hb hts in4 tyX4 tyX4_ok nmX4 hown jK.1 jP jD jS 0 rfl rfl 5 (by decide) (hts _ w_375) (fun _ h9 => h9) rfl (by decide +kernel) rfl rfl (Nat.le_of_ble_eq_true rfl) dX4_make_22 (fun H locs jP jD jS => ?_)
  have jP : va_P D vwCl (tW cI uT aT (0 : Int32) (0 : Int32) (0 : Int32) (0 : Int32) (0 : Int32) T_x6 T_r0 ++ (sW cI uS aS S_x5 S_x6 S_x7 S_x8 S_x9 S_r0 S_r1 S_r2 S_r3 S_r4)) H := jP
  have jD : va_D A (tW cI uT aT (0 : Int32) (0 : Int32) (0 : Int32) (0 : Int32) (0 : Int32) T_x6 T_r0 ++ (sW cI uS aS S_x5 S_x6 S_x7 S_x8 S_x9 S_r0 S_r1 S_r2 S_r3 S_r4)) := jD
  refine lv_aload_n hx hb dX4_make_25 rfl (lv_at jl 0 rfl) ?_
  refine lv_iconst (v := (0 : Int32)) hx hb dX4_make_26 (by decide) ?_
  refine va_put (D := D) (ci := 4) (v := .int (0 : Int32)) (ty := .int) (C := RX4) (T := TX4) (N := 7) hx hb hts in4 tyX4 tyX4_ok nmX4 hown jK.1 jP jD jS 0 rfl rfl 6 (by decide) (hts _ w_376) (fun _ h9 => h9) rfl (by decide +kernel) rfl rfl (Nat.le_of_ble_eq_true rfl) dX4_make_27 (fun H locs jP jD jS => ?_)
  have jP : va_P D vwCl (tW cI uT aT (0 : Int32) (0 : Int32) (0 : Int32) (0 : Int32) (0 : Int32) (0 : Int32) T_r0 ++ (sW cI uS aS S_x5 S_x6 S_x7 S_x8 S_x9 S_r0 S_r1 S_r2 S_r3 S_r4)) H := jP
  have jD : va_D A (tW cI uT aT (0 : Int32) (0 : Int32) (0 : Int32) (0 : Int32) (0 : Int32) (0 : Int32) T_r0 ++ (sW cI uS aS S_x5 S_x6 S_x7 S_x8 S_x9 S_r0 S_r1 S_r2 S_r3 S_r4)) := jD
  refine lv_iload_n hx hb dX4_make_30 rfl (lv_at jl 2 rfl) ?_
  refine lv_iconst (v := (4 : Int32)) hx hb dX4_make_31 (by decide) ?_
  obtain ⟨t5, hvt5, h⟩ := bd_some h
  have hJt5 : ∀ (H : Heap) (locs : List Loc) (ls : Array Slot), va_P D vwCl (tW cI uT aT (0 : Int32) (0 : Int32) (0 : Int32) (0 : Int32) (0 : Int32) (0 : Int32) T_r0 ++ (sW cI uS aS S_x5 S_x6 S_x7 S_x8 S_x9 S_r0 S_r1 S_r2 S_r3 S_r4)) H → va_D A (tW cI uT aT (0 : Int32) (0 : Int32) (0 : Int32) (0 : Int32) (0 : Int32) (0 : Int32) T_r0 ++ (sW cI uS aS S_x5 S_x6 S_x7 S_x8 S_x9 S_r0 S_r1 S_r2 S_r3 S_r4)) → va_S A s.heap H locs → lv_has ls 10 [(0, .ref uT), (1, .ref uS), (2, .int a2), (3, .int a3), (4, .int a4)] → W p l e R s m ar below meth c H locs 0 0 QQ (F0 m 49 ls [.int t5]) := by
    clear jP jD jS jl
    intro H locs ls jP jD jS jl
    refine lv_istore (lv' := [(5, .int t5), (0, .ref uT), (1, .ref uS), (2, .int a2), (3, .int a3), (4, .int a4)]) hx hb dX4_make_49 jl (by decide) rfl (fun ls jl => ?_)
    refine lv_iconst (v := (0 : Int32)) hx hb dX4_make_51 (by decide) ?_
    refine lv_istore (lv' := [(6, .int (0 : Int32)), (5, .int t5), (0, .ref uT), (1, .ref uS), (2, .int a2), (3, .int a3), (4, .int a4)]) hx hb dX4_make_52 jl (by decide) rfl (fun ls jl => ?_)
    obtain ⟨T6, hT6, hz6⟩ := bd_some h
    clear h
    have hE6 : ∀ (H : Heap) (locs : List Loc) (ls : Array Slot), va_P D vwCl (tW cI uT aT T6.2.1 T6.2.2.1 T6.2.2.2.1 T6.2.2.2.2.1 T6.2.2.2.2.2.1 T6.2.2.2.2.2.2 T6.1 ++ (sW cI uS aS S_x5 S_x6 S_x7 S_x8 S_x9 S_r0 S_r1 S_r2 S_r3 S_r4)) H → va_D A (tW cI uT aT T6.2.1 T6.2.2.1 T6.2.2.2.1 T6.2.2.2.2.1 T6.2.2.2.2.2.1 T6.2.2.2.2.2.2 T6.1 ++ (sW cI uS aS S_x5 S_x6 S_x7 S_x8 S_x9 S_r0 S_r1 S_r2 S_r3 S_r4)) → va_S A s.heap H locs → lv_has ls 10 [(0, .ref uT), (1, .ref uS), (2, .int a2)] → W p l e R s m ar below meth c H locs 0 0 QQ (F0 m 196 ls []) := by
      clear jP jD jS jl
      intro H locs ls jP jD jS jl
      refine lv_iload_n hx hb dX4_make_196 rfl (lv_at jl 2 rfl) ?_
      refine lv_iconst (v := (2 : Int32)) hx hb dX4_make_197 (by decide) ?_
      refine lv_icmp_ne (tgt := 245) hx hb dX4_make_198 (by decide) (fun c24 => ?_) (fun c24 => ?_)
      · have hz6 := itn c24 hz6
        obtain rfl := Option.some.inj hz6
        exact hRet _ _ _ _ jP jD jS dX4_make_245
      · have hz6 := itp c24 hz6
        refine lv_aload_n hx hb dX4_make_201 rfl (lv_at jl 0 rfl) ?_
        refine lv_dup hx hb dX4_make_202 rfl ?_
        refine va_get (D := D) (ci := 4) (v := .int T6.2.2.2.2.1) (C := RX4) (T := TX4) (N := 7) hx hb hts in4 hown jK.1 jP 0 rfl rfl 4 (by decide) (hts _ w_374) (fun _ h9 => h9) rfl dX4_make_203 ?_
        refine lv_sipush (v := (8000 : Int32)) hx hb dX4_make_206 (by decide) ?_
        refine lv_aload_n hx hb dX4_make_209 rfl (lv_at jl 1 rfl) ?_
        refine va_get (D := D) (ci := 2) (v := .int S_x8) (C := RX2) (T := TX2) (N := 10) hx hb hts in2 hown jK.1 jP 2 rfl rfl 8 (by decide) (hts _ w_380) (fun _ h9 => h9) rfl dX4_make_210 ?_
        refine lv_imul hx hb dX4_make_213 ?_
        refine lv_aload_n hx hb dX4_make_214 rfl (lv_at jl 0 rfl) ?_
        refine va_get (D := D) (ci := 4) (v := .int T6.2.2.1) (C := RX4) (T := TX4) (N := 7) hx hb hts in4 hown jK.1 jP 0 rfl rfl 2 (by decide) (hts _ w_372) (fun _ h9 => h9) rfl dX4_make_215 ?_
        refine lv_imul hx hb dX4_make_218 ?_
        refine lv_isub hx hb dX4_make_219 ?_
        refine va_put (D := D) (ci := 4) (v := .int (T6.2.2.2.2.1 - (((8000 : Int32) * S_x8) * T6.2.2.1))) (ty := .int) (C := RX4) (T := TX4) (N := 7) hx hb hts in4 tyX4 tyX4_ok nmX4 hown jK.1 jP jD jS 0 rfl rfl 4 (by decide) (hts _ w_374) (fun _ h9 => h9) rfl (by decide +kernel) rfl rfl (Nat.le_of_ble_eq_true rfl) dX4_make_220 (fun H locs jP jD jS => ?_)
        have jP : va_P D vwCl (tW cI uT aT T6.2.1 T6.2.2.1 T6.2.2.2.1 (T6.2.2.2.2.1 - (((8000 : Int32) * S_x8) * T6.2.2.1)) T6.2.2.2.2.2.1 T6.2.2.2.2.2.2 T6.1 ++ (sW cI uS aS S_x5 S_x6 S_x7 S_x8 S_x9 S_r0 S_r1 S_r2 S_r3 S_r4)) H := jP
        have jD : va_D A (tW cI uT aT T6.2.1 T6.2.2.1 T6.2.2.2.1 (T6.2.2.2.2.1 - (((8000 : Int32) * S_x8) * T6.2.2.1)) T6.2.2.2.2.2.1 T6.2.2.2.2.2.2 T6.1 ++ (sW cI uS aS S_x5 S_x6 S_x7 S_x8 S_x9 S_r0 S_r1 S_r2 S_r3 S_r4)) := jD
        refine lv_aload_n hx hb dX4_make_223 rfl (lv_at jl 0 rfl) ?_
        refine lv_dup hx hb dX4_make_224 rfl ?_
        refine va_get (D := D) (ci := 4) (v := .int T6.2.2.2.2.2.1) (C := RX4) (T := TX4) (N := 7) hx hb hts in4 hown jK.1 jP 0 rfl rfl 5 (by decide) (hts _ w_375) (fun _ h9 => h9) rfl dX4_make_225 ?_
        refine lv_sipush (v := (800 : Int32)) hx hb dX4_make_228 (by decide) ?_
        refine lv_aload_n hx hb dX4_make_231 rfl (lv_at jl 1 rfl) ?_
        refine va_get (D := D) (ci := 2) (v := .int S_x8) (C := RX2) (T := TX2) (N := 10) hx hb hts in2 hown jK.1 jP 2 rfl rfl 8 (by decide) (hts _ w_380) (fun _ h9 => h9) rfl dX4_make_232 ?_
        refine lv_imul hx hb dX4_make_235 ?_
        refine lv_aload_n hx hb dX4_make_236 rfl (lv_at jl 0 rfl) ?_
        refine va_get (D := D) (ci := 4) (v := .int T6.2.2.1) (C := RX4) (T := TX4) (N := 7) hx hb hts in4 hown jK.1 jP 0 rfl rfl 2 (by decide) (hts _ w_372) (fun _ h9 => h9) rfl dX4_make_237 ?_
        refine lv_imul hx hb dX4_make_240 ?_
        refine lv_isub hx hb dX4_make_241 ?_
        refine va_put (D := D) (ci := 4) (v := .int (T6.2.2.2.2.2.1 - (((800 : Int32) * S_x8) * T6.2.2.1))) (ty := .int) (C := RX4) (T := TX4) (N := 7) hx hb hts in4 tyX4 tyX4_ok nmX4 hown jK.1 jP jD jS 0 rfl rfl 5 (by decide) (hts _ w_375) (fun _ h9 => h9) rfl (by decide +kernel) rfl rfl (Nat.le_of_ble_eq_true rfl) dX4_make_242 (fun H locs jP jD jS => ?_)
        have jP : va_P D vwCl (tW cI uT aT T6.2.1 T6.2.2.1 T6.2.2.2.1 (T6.2.2.2.2.1 - (((8000 : Int32) * S_x8) * T6.2.2.1)) (T6.2.2.2.2.2.1 - (((800 : Int32) * S_x8) * T6.2.2.1)) T6.2.2.2.2.2.2 T6.1 ++ (sW cI uS aS S_x5 S_x6 S_x7 S_x8 S_x9 S_r0 S_r1 S_r2 S_r3 S_r4)) H := jP
        have jD : va_D A (tW cI uT aT T6.2.1 T6.2.2.1 T6.2.2.2.1 (T6.2.2.2.2.1 - (((8000 : Int32) * S_x8) * T6.2.2.1)) (T6.2.2.2.2.2.1 - (((800 : Int32) * S_x8) * T6.2.2.1)) T6.2.2.2.2.2.2 T6.1 ++ (sW cI uS aS S_x5 S_x6 S_x7 S_x8 S_x9 S_r0 S_r1 S_r2 S_r3 S_r4)) := jD
        obtain rfl := Option.some.inj hz6
        exact hRet _ _ _ _ jP jD jS dX4_make_245
    have hL6 : ∀ (n : Nat) (v6 : (Int32 × (Nat → Int32) × Int32 × Int32 × Int32 × Int32 × Int32 × Int32)), loopF (fX4_make_b54 a2 a3 a4 t5 S_x5 S_r1 S_r3 S_r4 S_r0 S_r2 S_x6 S_x7) n v6 = some T6 → ∀ (H : Heap) (locs : List Loc) (ls : Array Slot), va_P D vwCl (tW cI uT aT v6.2.2.1 v6.2.2.2.1 v6.2.2.2.2.1 v6.2.2.2.2.2.1 v6.2.2.2.2.2.2.1 v6.2.2.2.2.2.2.2 v6.2.1 ++ (sW cI uS aS S_x5 S_x6 S_x7 S_x8 S_x9 S_r0 S_r1 S_r2 S_r3 S_r4)) H → va_D A (tW cI uT aT v6.2.2.1 v6.2.2.2.1 v6.2.2.2.2.1 v6.2.2.2.2.2.1 v6.2.2.2.2.2.2.1 v6.2.2.2.2.2.2.2 v6.2.1 ++ (sW cI uS aS S_x5 S_x6 S_x7 S_x8 S_x9 S_r0 S_r1 S_r2 S_r3 S_r4)) → va_S A s.heap H locs → lv_has ls 10 [(0, .ref uT), (1, .ref uS), (2, .int a2), (3, .int a3), (4, .int a4), (5, .int t5), (6, .int v6.1)] → W p l e R s m ar below meth c H locs 0 0 QQ (F0 m 54 ls []) := by
      clear jP jD jS jl hT6
      intro n
      induction n with
      | zero => intro v6 hq; exact (loop_none hq).elim
      | succ n ih =>
        intro v6 hq H locs ls jP jD jS jl
        obtain ⟨o6, hv6, hq6⟩ := loop_some hq
        clear hq
        unfold fX4_make_b54 at hv6
        refine lv_iload hx hb dX4_make_54 (lv_at jl 6 rfl) ?_
        refine lv_aload_n hx hb dX4_make_56 rfl (lv_at jl 1 rfl) ?_
        refine va_get (D := D) (ci := 2) (v := .int S_x5) (C := RX2) (T := TX2) (N := 10) hx hb hts in2 hown jK.1 jP 2 rfl rfl 5 (by decide) (hts _ w_377) (fun _ h9 => h9) rfl dX4_make_57 ?_
        refine lv_icmp_ge (tgt := 196) hx hb dX4_make_60 (by decide) (fun c7 => ?_) (fun c7 => ?_)
        · have hv6 := itp c7 hv6
          obtain rfl := Option.some.inj hv6
          obtain rfl := nxt_r hq6
          exact hE6 _ _ _ jP jD jS (lv_sub jl [0, 1, 2] rfl)
        · have hv6 := itn c7 hv6
          refine lv_iload_n hx hb dX4_make_63 rfl (lv_at jl 2 rfl) ?_
          refine lv_iconst (v := (4 : Int32)) hx hb dX4_make_64 (by decide) ?_
          obtain ⟨t11, hvt11, hv6⟩ := bd_some hv6
          have hJt11 : ∀ (H : Heap) (locs : List Loc) (ls : Array Slot), va_P D vwCl (tW cI uT aT v6.2.2.1 v6.2.2.2.1 v6.2.2.2.2.1 v6.2.2.2.2.2.1 v6.2.2.2.2.2.2.1 v6.2.2.2.2.2.2.2 v6.2.1 ++ (sW cI uS aS S_x5 S_x6 S_x7 S_x8 S_x9 S_r0 S_r1 S_r2 S_r3 S_r4)) H → va_D A (tW cI uT aT v6.2.2.1 v6.2.2.2.1 v6.2.2.2.2.1 v6.2.2.2.2.2.1 v6.2.2.2.2.2.2.1 v6.2.2.2.2.2.2.2 v6.2.1 ++ (sW cI uS aS S_x5 S_x6 S_x7 S_x8 S_x9 S_r0 S_r1 S_r2 S_r3 S_r4)) → va_S A s.heap H locs → lv_has ls 10 [(0, .ref uT), (1, .ref uS), (2, .int a2), (3, .int a3), (4, .int a4), (5, .int t5), (6, .int v6.1)] → W p l e R s m ar below meth c H locs 0 0 QQ (F0 m 83 ls [.int t11]) := by
            clear jP jD jS jl
            intro H locs ls jP jD jS jl
            refine lv_istore (lv' := [(7, .int t11), (0, .ref uT), (1, .ref uS), (2, .int a2), (3, .int a3), (4, .int a4), (5, .int t5), (6, .int v6.1)]) hx hb dX4_make_83 jl (by decide) rfl (fun ls jl => ?_)
            refine lv_aload_n hx hb dX4_make_85 rfl (lv_at jl 1 rfl) ?_
            refine lv_dup hx hb dX4_make_86 rfl ?_
            refine va_get (D := D) (ci := 4) (v := .int v6.2.2.1) (C := RX4) (T := TX4) (N := 7) hx hb hts in4 hown jK.1 jP 0 rfl rfl 1 (by decide) (hts _ w_371) (fun _ h9 => h9) rfl dX4_make_87 ?_
            refine lv_iload hx hb dX4_make_90 (lv_at jl 0 rfl) ?_
            obtain ⟨t13, hvt13, hv6⟩ := bd_some hv6
            have hJt13 : ∀ (H : Heap) (locs : List Loc) (ls : Array Slot), va_P D vwCl (tW cI uT aT v6.2.2.1 v6.2.2.2.1 v6.2.2.2.2.1 v6.2.2.2.2.2.1 v6.2.2.2.2.2.2.1 v6.2.2.2.2.2.2.2 v6.2.1 ++ (sW cI uS aS S_x5 S_x6 S_x7 S_x8 S_x9 S_r0 S_r1 S_r2 S_r3 S_r4)) H → va_D A (tW cI uT aT v6.2.2.1 v6.2.2.2.1 v6.2.2.2.2.1 v6.2.2.2.2.2.1 v6.2.2.2.2.2.2.1 v6.2.2.2.2.2.2.2 v6.2.1 ++ (sW cI uS aS S_x5 S_x6 S_x7 S_x8 S_x9 S_r0 S_r1 S_r2 S_r3 S_r4)) → va_S A s.heap H locs → lv_has ls 10 [(0, .ref uT), (1, .ref uS), (2, .int a2), (3, .int a3), (4, .int a4), (5, .int t5), (6, .int v6.1), (7, .int t11)] → W p l e R s m ar below meth c H locs 0 0 QQ (F0 m 103 ls [.int t13, .int v6.2.2.1, .ref uT]) := by
              clear jP jD jS jl
              intro H locs ls jP jD jS jl
              refine lv_ior hx hb dX4_make_103 ?_
              refine va_put (D := D) (ci := 4) (v := .int (v6.2.2.1 ||| t13)) (ty := .int) (C := RX4) (T := TX4) (N := 7) hx hb hts in4 tyX4 tyX4_ok nmX4 hown jK.1 jP jD jS 0 rfl rfl 1 (by decide) (hts _ w_371) (fun _ h9 => h9) rfl (by decide +kernel) rfl rfl (Nat.le_of_ble_eq_true rfl) dX4_make_104 (fun H locs jP jD jS => ?_)
              have jP : va_P D vwCl (tW cI uT aT (v6.2.2.1 ||| t13) v6.2.2.2.1 v6.2.2.2.2.1 v6.2.2.2.2.2.1 v6.2.2.2.2.2.2.1 v6.2.2.2.2.2.2.2 v6.2.1 ++ (sW cI uS aS S_x5 S_x6 S_x7 S_x8 S_x9 S_r0 S_r1 S_r2 S_r3 S_r4)) H := jP
              have jD : va_D A (tW cI uT aT (v6.2.2.1 ||| t13) v6.2.2.2.1 v6.2.2.2.2.1 v6.2.2.2.2.2.1 v6.2.2.2.2.2.2.1 v6.2.2.2.2.2.2.2 v6.2.1 ++ (sW cI uS aS S_x5 S_x6 S_x7 S_x8 S_x9 S_r0 S_r1 S_r2 S_r3 S_r4)) := jD
              refine lv_iload_n hx hb dX4_make_107 rfl (lv_at jl 2 rfl) ?_
              refine lv_iconst (v := (4 : Int32)) hx hb dX4_make_108 (by decide) ?_
              obtain ⟨t15, hvt15, hv6⟩ := bd_some hv6
              have hJt15 : ∀ (H : Heap) (locs : List Loc) (ls : Array Slot), va_P D vwCl (tW cI uT aT (v6.2.2.1 ||| t13) v6.2.2.2.1 v6.2.2.2.2.1 v6.2.2.2.2.2.1 v6.2.2.2.2.2.2.1 v6.2.2.2.2.2.2.2 v6.2.1 ++ (sW cI uS aS S_x5 S_x6 S_x7 S_x8 S_x9 S_r0 S_r1 S_r2 S_r3 S_r4)) H → va_D A (tW cI uT aT (v6.2.2.1 ||| t13) v6.2.2.2.1 v6.2.2.2.2.1 v6.2.2.2.2.2.1 v6.2.2.2.2.2.2.1 v6.2.2.2.2.2.2.2 v6.2.1 ++ (sW cI uS aS S_x5 S_x6 S_x7 S_x8 S_x9 S_r0 S_r1 S_r2 S_r3 S_r4)) → va_S A s.heap H locs → lv_has ls 10 [(0, .ref uT), (1, .ref uS), (2, .int a2), (3, .int a3), (4, .int a4), (5, .int t5), (6, .int v6.1), (7, .int t11)] → W p l e R s m ar below meth c H locs 0 0 QQ (F0 m 123 ls [.int t15]) := by
                clear jP jD jS jl
                intro H locs ls jP jD jS jl
                refine lv_istore (lv' := [(8, .int t15), (0, .ref uT), (1, .ref uS), (2, .int a2), (3, .int a3), (4, .int a4), (5, .int t5), (6, .int v6.1), (7, .int t11)]) hx hb dX4_make_123 jl (by decide) rfl (fun ls jl => ?_)
                refine lv_iload hx hb dX4_make_125 (lv_at jl 8 rfl) ?_
                obtain ⟨t17, hvt17, hv6⟩ := bd_some hv6
                have hJt17 : ∀ (H : Heap) (locs : List Loc) (ls : Array Slot), va_P D vwCl (tW cI uT aT (v6.2.2.1 ||| t13) v6.2.2.2.1 v6.2.2.2.2.1 v6.2.2.2.2.2.1 v6.2.2.2.2.2.2.1 v6.2.2.2.2.2.2.2 v6.2.1 ++ (sW cI uS aS S_x5 S_x6 S_x7 S_x8 S_x9 S_r0 S_r1 S_r2 S_r3 S_r4)) H → va_D A (tW cI uT aT (v6.2.2.1 ||| t13) v6.2.2.2.1 v6.2.2.2.2.1 v6.2.2.2.2.2.1 v6.2.2.2.2.2.2.1 v6.2.2.2.2.2.2.2 v6.2.1 ++ (sW cI uS aS S_x5 S_x6 S_x7 S_x8 S_x9 S_r0 S_r1 S_r2 S_r3 S_r4)) → va_S A s.heap H locs → lv_has ls 10 [(0, .ref uT), (1, .ref uS), (2, .int a2), (3, .int a3), (4, .int a4), (5, .int t5), (6, .int v6.1)] → W p l e R s m ar below meth c H locs 0 0 QQ (F0 m 142 ls [.int t17]) := by
                  clear jP jD jS jl
                  intro H locs ls jP jD jS jl
                  refine lv_istore (lv' := [(9, .int t17), (0, .ref uT), (1, .ref uS), (2, .int a2), (3, .int a3), (4, .int a4), (5, .int t5), (6, .int v6.1)]) hx hb dX4_make_142 jl (by decide) rfl (fun ls jl => ?_)
                  refine lv_aload_n hx hb dX4_make_144 rfl (lv_at jl 1 rfl) ?_
                  refine lv_dup hx hb dX4_make_145 rfl ?_
                  refine va_get (D := D) (ci := 4) (v := .int v6.2.2.2.1) (C := RX4) (T := TX4) (N := 7) hx hb hts in4 hown jK.1 jP 0 rfl rfl 2 (by decide) (hts _ w_372) (fun _ h9 => h9) rfl dX4_make_146 ?_
                  refine lv_iload hx hb dX4_make_149 (lv_at jl 0 rfl) ?_
                  refine lv_iadd hx hb dX4_make_151 ?_
                  refine va_put (D := D) (ci := 4) (v := .int (v6.2.2.2.1 + t17)) (ty := .int) (C := RX4) (T := TX4) (N := 7) hx hb hts in4 tyX4 tyX4_ok nmX4 hown jK.1 jP jD jS 0 rfl rfl 2 (by decide) (hts _ w_372) (fun _ h9 => h9) rfl (by decide +kernel) rfl rfl (Nat.le_of_ble_eq_true rfl) dX4_make_152 (fun H locs jP jD jS => ?_)
                  have jP : va_P D vwCl (tW cI uT aT (v6.2.2.1 ||| t13) (v6.2.2.2.1 + t17) v6.2.2.2.2.1 v6.2.2.2.2.2.1 v6.2.2.2.2.2.2.1 v6.2.2.2.2.2.2.2 v6.2.1 ++ (sW cI uS aS S_x5 S_x6 S_x7 S_x8 S_x9 S_r0 S_r1 S_r2 S_r3 S_r4)) H := jP
                  have jD : va_D A (tW cI uT aT (v6.2.2.1 ||| t13) (v6.2.2.2.1 + t17) v6.2.2.2.2.1 v6.2.2.2.2.2.1 v6.2.2.2.2.2.2.1 v6.2.2.2.2.2.2.2 v6.2.1 ++ (sW cI uS aS S_x5 S_x6 S_x7 S_x8 S_x9 S_r0 S_r1 S_r2 S_r3 S_r4)) := jD
                  refine lv_aload_n hx hb dX4_make_155 rfl (lv_at jl 1 rfl) ?_
                  refine va_get (D := D) (ci := 4) (v := .ref (aT 0)) (C := RX4) (T := TX4) (N := 7) hx hb hts in4 hown jK.1 jP 0 rfl rfl 0 (by decide) (hts _ w_50) (fun _ h9 => h9) rfl dX4_make_156 ?_
                  refine lv_iload hx hb dX4_make_159 (lv_at jl 7 rfl) ?_
                  refine lv_iload hx hb dX4_make_161 (lv_at jl 0 rfl) ?_
                  refine lv_aload_n hx hb dX4_make_163 rfl (lv_at jl 2 rfl) ?_
                  refine lv_iload hx hb dX4_make_164 (lv_at jl 7 rfl) ?_
                  refine lv_iload_n hx hb dX4_make_166 rfl (lv_at jl 3 rfl) ?_
                  refine lv_iload_n hx hb dX4_make_167 rfl (lv_at jl 4 rfl) ?_
                  obtain ⟨t18, hc19, hv6⟩ := bd_some hv6
                  refine callPS (wc := (sW cI uS aS S_x5 S_x6 S_x7 S_x8 S_x9 S_r0 S_r1 S_r2 S_r3 S_r4)) (wr := (tW cI uT aT (v6.2.2.1 ||| t13) (v6.2.2.2.1 + t17) v6.2.2.2.2.1 v6.2.2.2.2.2.1 v6.2.2.2.2.2.2.1 v6.2.2.2.2.2.2.2 v6.2.1)) (w1 := (sW cI uS aS S_x5 S_x6 S_x7 S_x8 S_x9 S_r0 S_r1 S_r2 S_r3 S_r4)) (ws1 := (tW cI uT aT (v6.2.2.1 ||| t13) (v6.2.2.2.1 + t17) v6.2.2.2.2.1 v6.2.2.2.2.2.1 v6.2.2.2.2.2.2.1 v6.2.2.2.2.2.2.2 v6.2.1 ++ (sW cI uS aS S_x5 S_x6 S_x7 S_x8 S_x9 S_r0 S_r1 S_r2 S_r3 S_r4))) (As := [.ref uS, .int v6.1, .int a2, .int a3]) (rest := [.int t17, .int v6.1, .ref (aT 0)]) (st1 := [.int t18, .int t17, .int v6.1, .ref (aT 0)]) [2, 3, 4, 5, 6, 7] [0, 1] [0, 1, 2, 3, 4, 5, 6, 7] F (kX4_partsOfOne l D cI cB cS uS aS S_x5 S_x6 S_x7 S_x8 S_x9 S_r0 S_r1 S_r2 S_r3 S_r4 v6.1 a2 a3 _ hc19 ) okX4_partsOfOne w_394 (by decide) (by decide) ⟨Nat.zero_le _, Nat.zero_le _⟩ jP jD jS rfl jl.1 rfl rfl (Nat.le_of_ble_eq_true rfl) dX4_make_168 rfl rfl (by decide) (by decide) (by decide) rfl (by decide) (fun H locs jP jD jS => ?_)
                  refine lv_imul hx hb dX4_make_171 ?_
                  obtain ⟨hin, hv6⟩ := ckI_some hv6
                  refine va_iast (f := v6.2.1) hx hb jK.1 jP jD jS 1 0 rfl rfl hin dX4_make_172 (fun H locs jP jD jS => ?_)
                  have jP : va_P D vwCl (tW cI uT aT (v6.2.2.1 ||| t13) (v6.2.2.2.1 + t17) v6.2.2.2.2.1 v6.2.2.2.2.2.1 v6.2.2.2.2.2.2.1 v6.2.2.2.2.2.2.2 (upd v6.2.1 v6.1.toNatClampNeg (t17 * t18)) ++ (sW cI uS aS S_x5 S_x6 S_x7 S_x8 S_x9 S_r0 S_r1 S_r2 S_r3 S_r4)) H := jP
                  have jD : va_D A (tW cI uT aT (v6.2.2.1 ||| t13) (v6.2.2.2.1 + t17) v6.2.2.2.2.1 v6.2.2.2.2.2.1 v6.2.2.2.2.2.2.1 v6.2.2.2.2.2.2.2 (upd v6.2.1 v6.1.toNatClampNeg (t17 * t18)) ++ (sW cI uS aS S_x5 S_x6 S_x7 S_x8 S_x9 S_r0 S_r1 S_r2 S_r3 S_r4)) := jD
                  refine lv_aload_n hx hb dX4_make_173 rfl (lv_at jl 1 rfl) ?_
                  refine lv_aload_n hx hb dX4_make_174 rfl (lv_at jl 2 rfl) ?_
                  refine lv_iload hx hb dX4_make_175 (lv_at jl 7 rfl) ?_
                  refine lv_iload_n hx hb dX4_make_177 rfl (lv_at jl 3 rfl) ?_
                  refine lv_iconst (v := (1 : Int32)) hx hb dX4_make_178 (by decide) ?_
                  obtain ⟨t21, hvt21, hv6⟩ := bd_some hv6
                  have hJt21 : ∀ (H : Heap) (locs : List Loc) (ls : Array Slot), va_P D vwCl (tW cI uT aT (v6.2.2.1 ||| t13) (v6.2.2.2.1 + t17) v6.2.2.2.2.1 v6.2.2.2.2.2.1 v6.2.2.2.2.2.2.1 v6.2.2.2.2.2.2.2 (upd v6.2.1 v6.1.toNatClampNeg (t17 * t18)) ++ (sW cI uS aS S_x5 S_x6 S_x7 S_x8 S_x9 S_r0 S_r1 S_r2 S_r3 S_r4)) H → va_D A (tW cI uT aT (v6.2.2.1 ||| t13) (v6.2.2.2.1 + t17) v6.2.2.2.2.1 v6.2.2.2.2.2.1 v6.2.2.2.2.2.2.1 v6.2.2.2.2.2.2.2 (upd v6.2.1 v6.1.toNatClampNeg (t17 * t18)) ++ (sW cI uS aS S_x5 S_x6 S_x7 S_x8 S_x9 S_r0 S_r1 S_r2 S_r3 S_r4)) → va_S A s.heap H locs → lv_has ls 10 [(0, .ref uT), (1, .ref uS), (2, .int a2), (3, .int a3), (4, .int a4), (5, .int t5), (6, .int v6.1)] → W p l e R s m ar below meth c H locs 0 0 QQ (F0 m 187 ls [.int t21, .int v6.1, .ref uS, .ref uT]) := by
                    clear jP jD jS jl
                    intro H locs ls jP jD jS jl
                    obtain ⟨t22, hc23, hv6⟩ := bd_some hv6
                    refine callW (w1 := (tW cI uT aT (v6.2.2.1 ||| t13) (v6.2.2.2.1 + t17) t22.1 t22.2.1 t22.2.2.1 t22.2.2.2 (upd v6.2.1 v6.1.toNatClampNeg (t17 * t18)) ++ (sW cI uS aS S_x5 S_x6 S_x7 S_x8 S_x9 S_r0 S_r1 S_r2 S_r3 S_r4))) (As := [.ref uS, .int v6.1, .int t21]) (rest := []) (st1 := []) 0 F (kX4_sum l D cI cB cS uT aT (v6.2.2.1 ||| t13) (v6.2.2.2.1 + t17) v6.2.2.2.2.1 v6.2.2.2.2.2.1 v6.2.2.2.2.2.2.1 v6.2.2.2.2.2.2.2 (upd v6.2.1 v6.1.toNatClampNeg (t17 * t18)) uS aS S_x5 S_x6 S_x7 S_x8 S_x9 S_r0 S_r1 S_r2 S_r3 S_r4 v6.1 t21 _ hc23 ) okX4_sum w_399 (by decide) (by decide) ⟨Nat.zero_le _, Nat.zero_le _⟩ rfl rfl rfl jP jD jS rfl jl.1 rfl rfl (Nat.le_of_ble_eq_true rfl) dX4_make_187 (fun H locs jP jD jS => ?_)
                    refine lv_iinc (v := (v6.1 + (1 : Int32))) (lv' := [(6, .int (v6.1 + (1 : Int32))), (0, .ref uT), (1, .ref uS), (2, .int a2), (3, .int a3), (4, .int a4), (5, .int t5)]) hx hb dX4_make_190 jl (k := 6) rfl rfl (by decide) rfl (fun ls jl => ?_)
                    refine lv_goto (tgt := 54) hx hb dX4_make_193 (by decide) ?_
                    obtain rfl := Option.some.inj hv6
                    exact ih _ (nxt_l hq6) _ _ _ jP jD jS (lv_sub jl [1, 2, 3, 4, 5, 6, 0] rfl)
                  clear hv6
                  refine lv_icmp_ne (tgt := 186) hx hb dX4_make_179 (by decide) (fun c20 => ?_) (fun c20 => ?_)
                  · have hvt21 := itn c20 hvt21
                    refine lv_iconst (v := (0 : Int32)) hx hb dX4_make_186 (by decide) ?_
                    obtain rfl := Option.some.inj hvt21
                    exact hJt21 _ _ _ jP jD jS (lv_sub jl [1, 2, 3, 4, 5, 6, 7] rfl)
                  · have hvt21 := itp c20 hvt21
                    refine lv_iload_n hx hb dX4_make_182 rfl (lv_at jl 4 rfl) ?_
                    refine lv_goto (tgt := 187) hx hb dX4_make_183 (by decide) ?_
                    obtain rfl := Option.some.inj hvt21
                    exact hJt21 _ _ _ jP jD jS (lv_sub jl [1, 2, 3, 4, 5, 6, 7] rfl)
                clear hv6
                refine lv_if_eq (tgt := 140) hx hb dX4_make_127 (by decide) (fun c16 => ?_) (fun c16 => ?_)
                · have hvt17 := itp c16 hvt17
                  refine lv_iload hx hb dX4_make_140 (lv_at jl 0 rfl) ?_
                  obtain rfl := Option.some.inj hvt17
                  exact hJt17 _ _ _ jP jD jS (lv_sub jl [1, 2, 3, 4, 5, 6, 7] rfl)
                · have hvt17 := itn c16 hvt17
                  refine lv_aload_n hx hb dX4_make_130 rfl (lv_at jl 2 rfl) ?_
                  refine va_get (D := D) (ci := 2) (v := .ref (aS 0)) (C := RX2) (T := TX2) (N := 10) hx hb hts in2 hown jK.1 jP 2 rfl rfl 0 (by decide) (hts _ w_379) (fun _ h9 => h9) rfl dX4_make_131 ?_
                  refine lv_iload hx hb dX4_make_134 (lv_at jl 7 rfl) ?_
                  obtain ⟨hin, hvt17⟩ := ckI_some hvt17
                  refine va_iald (f := S_r0) hx hb jK.1 jP 3 0 rfl rfl hin dX4_make_136 ?_
                  refine lv_goto (tgt := 142) hx hb dX4_make_137 (by decide) ?_
                  obtain rfl := Option.some.inj hvt17
                  exact hJt17 _ _ _ jP jD jS (lv_sub jl [1, 2, 3, 4, 5, 6, 7] rfl)
              clear hv6
              refine lv_icmp_ne (tgt := 116) hx hb dX4_make_109 (by decide) (fun c14 => ?_) (fun c14 => ?_)
              · have hvt15 := itn c14 hvt15
                refine lv_aload_n hx hb dX4_make_116 rfl (lv_at jl 1 rfl) ?_
                refine va_get (D := D) (ci := 2) (v := .ref (aS 4)) (C := RX2) (T := TX2) (N := 10) hx hb hts in2 hown jK.1 jP 2 rfl rfl 4 (by decide) (hts _ w_378) (fun _ h9 => h9) rfl dX4_make_117 ?_
                refine lv_iload hx hb dX4_make_120 (lv_at jl 6 rfl) ?_
                obtain ⟨hin, hvt15⟩ := ckI_some hvt15
                refine va_iald (f := S_r4) hx hb jK.1 jP 7 0 rfl rfl hin dX4_make_122 ?_
                obtain rfl := Option.some.inj hvt15
                exact hJt15 _ _ _ jP jD jS (lv_sub jl [0, 1, 2, 3, 4, 5, 6, 7] rfl)
              · have hvt15 := itp c14 hvt15
                refine lv_iconst (v := (0 : Int32)) hx hb dX4_make_112 (by decide) ?_
                refine lv_goto (tgt := 123) hx hb dX4_make_113 (by decide) ?_
                obtain rfl := Option.some.inj hvt15
                exact hJt15 _ _ _ jP jD jS (lv_sub jl [0, 1, 2, 3, 4, 5, 6, 7] rfl)
            clear hv6
            refine lv_if_eq (tgt := 102) hx hb dX4_make_92 (by decide) (fun c12 => ?_) (fun c12 => ?_)
            · have hvt13 := itp c12 hvt13
              refine lv_iconst (v := (0 : Int32)) hx hb dX4_make_102 (by decide) ?_
              obtain rfl := Option.some.inj hvt13
              exact hJt13 _ _ _ jP jD jS (lv_sub jl [1, 2, 3, 4, 5, 6, 7, 0] rfl)
            · have hvt13 := itn c12 hvt13
              refine lv_iconst (v := (1 : Int32)) hx hb dX4_make_95 (by decide) ?_
              refine lv_iload hx hb dX4_make_96 (lv_at jl 7 rfl) ?_
              refine lv_ishl hx hb dX4_make_98 ?_
              refine lv_goto (tgt := 103) hx hb dX4_make_99 (by decide) ?_
              obtain rfl := Option.some.inj hvt13
              exact hJt13 _ _ _ jP jD jS (lv_sub jl [1, 2, 3, 4, 5, 6, 7, 0] rfl)
          clear hv6
          refine lv_icmp_ne (tgt := 73) hx hb dX4_make_65 (by decide) (fun c8 => ?_) (fun c8 => ?_)
          · have hvt11 := itn c8 hvt11
            refine lv_aload_n hx hb dX4_make_73 rfl (lv_at jl 1 rfl) ?_
            refine lv_iload hx hb dX4_make_74 (lv_at jl 6 rfl) ?_
            refine lv_iload_n hx hb dX4_make_76 rfl (lv_at jl 2 rfl) ?_
            refine lv_iload_n hx hb dX4_make_77 rfl (lv_at jl 3 rfl) ?_
            refine lv_iload hx hb dX4_make_78 (lv_at jl 4 rfl) ?_
            obtain ⟨t9, hc10, hvt11⟩ := bd_some hvt11
            refine callPS (wc := (sW cI uS aS S_x5 S_x6 S_x7 S_x8 S_x9 S_r0 S_r1 S_r2 S_r3 S_r4)) (wr := (tW cI uT aT v6.2.2.1 v6.2.2.2.1 v6.2.2.2.2.1 v6.2.2.2.2.2.1 v6.2.2.2.2.2.2.1 v6.2.2.2.2.2.2.2 v6.2.1)) (w1 := (sW cI uS aS S_x5 S_x6 S_x7 S_x8 S_x9 S_r0 S_r1 S_r2 S_r3 S_r4)) (ws1 := (tW cI uT aT v6.2.2.1 v6.2.2.2.1 v6.2.2.2.2.1 v6.2.2.2.2.2.1 v6.2.2.2.2.2.2.1 v6.2.2.2.2.2.2.2 v6.2.1 ++ (sW cI uS aS S_x5 S_x6 S_x7 S_x8 S_x9 S_r0 S_r1 S_r2 S_r3 S_r4))) (As := [.ref uS, .int v6.1, .int a2, .int a3, .int a4]) (rest := []) (st1 := [.int t9]) [2, 3, 4, 5, 6, 7] [0, 1] [0, 1, 2, 3, 4, 5, 6, 7] F (kX4_isWhole l D cI cB cS uS aS S_x5 S_x6 S_x7 S_x8 S_x9 S_r0 S_r1 S_r2 S_r3 S_r4 v6.1 a2 a3 a4 _ hc10 ) okX4_isWhole w_385 (by decide) (by decide) ⟨Nat.zero_le _, Nat.zero_le _⟩ jP jD jS rfl jl.1 rfl rfl (Nat.le_of_ble_eq_true rfl) dX4_make_80 rfl rfl (by decide) (by decide) (by decide) rfl (by decide) (fun H locs jP jD jS => ?_)
            obtain rfl := Option.some.inj hvt11
            exact hJt11 _ _ _ jP jD jS (lv_sub jl [0, 1, 2, 3, 4, 5, 6] rfl)
          · have hvt11 := itp c8 hvt11
            refine lv_iload hx hb dX4_make_68 (lv_at jl 5 rfl) ?_
            refine lv_goto (tgt := 83) hx hb dX4_make_70 (by decide) ?_
            obtain rfl := Option.some.inj hvt11
            exact hJt11 _ _ _ jP jD jS (lv_sub jl [0, 1, 2, 3, 4, 5, 6] rfl)
    exact hL6 1000 _ hT6 _ _ _ jP jD jS (lv_sub jl [2, 3, 4, 5, 6, 1, 0] rfl)
  clear h
  refine lv_icmp_ne (tgt := 48) hx hb dX4_make_32 (by decide) (fun c1 => ?_) (fun c1 => ?_)
  · have hvt5 := itn c1 hvt5
    refine lv_iconst (v := (0 : Int32)) hx hb dX4_make_48 (by decide) ?_
    obtain rfl := Option.some.inj hvt5
    exact hJt5 _ _ _ jP jD jS (lv_sub jl [0, 1, 2, 3, 4] rfl)
  · have hvt5 := itp c1 hvt5
    refine lv_aload_n hx hb dX4_make_35 rfl (lv_at jl 1 rfl) ?_
    refine lv_iload hx hb dX4_make_36 (lv_at jl 4 rfl) ?_
    obtain ⟨t2, hc3, hvt5⟩ := bd_some hvt5
    refine callP (wc := (sW cI uS aS S_x5 S_x6 S_x7 S_x8 S_x9 S_r0 S_r1 S_r2 S_r3 S_r4)) (wr := (tW cI uT aT (0 : Int32) (0 : Int32) (0 : Int32) (0 : Int32) (0 : Int32) (0 : Int32) T_r0)) (w1 := (sW cI uS aS S_x5 S_x6 S_x7 S_x8 S_x9 S_r0 S_r1 S_r2 S_r3 S_r4)) (ws1 := (tW cI uT aT (0 : Int32) (0 : Int32) (0 : Int32) (0 : Int32) (0 : Int32) (0 : Int32) T_r0 ++ (sW cI uS aS S_x5 S_x6 S_x7 S_x8 S_x9 S_r0 S_r1 S_r2 S_r3 S_r4))) (As := [.int a4]) (rest := []) (st1 := [.int t2]) 0 [2, 3, 4, 5, 6, 7] [0, 1] [0, 1, 2, 3, 4, 5, 6, 7] F (kX2_comesAsHeap l D cI cB cS uS aS S_x5 S_x6 S_x7 S_x8 S_x9 S_r0 S_r1 S_r2 S_r3 S_r4 a4 _ hc3 ) okX2_comesAsHeap w_381 (by decide) (by decide) ⟨Nat.zero_le _, Nat.zero_le _⟩ rfl rfl rfl jP jD jS rfl jl.1 rfl rfl (Nat.le_of_ble_eq_true rfl) dX4_make_38 rfl rfl (by decide) (by decide) (by decide) rfl (by decide) (fun H locs jP jD jS => ?_)
    refine lv_if_eq (tgt := 48) hx hb dX4_make_41 (by decide) (fun c4 => ?_) (fun c4 => ?_)
    · have hvt5 := itp c4 hvt5
      refine lv_iconst (v := (0 : Int32)) hx hb dX4_make_48 (by decide) ?_
      obtain rfl := Option.some.inj hvt5
      exact hJt5 _ _ _ jP jD jS (lv_sub jl [0, 1, 2, 3, 4] rfl)
    · have hvt5 := itn c4 hvt5
      refine lv_iconst (v := (1 : Int32)) hx hb dX4_make_44 (by decide) ?_
      refine lv_goto (tgt := 49) hx hb dX4_make_45 (by decide) ?_
      obtain rfl := Option.some.inj hvt5
      exact hJt5 _ _ _ jP jD jS (lv_sub jl [0, 1, 2, 3, 4] rfl)
