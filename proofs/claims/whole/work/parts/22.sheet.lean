theorem okX1_renew : okV yX1_renew cX1_renew 4 none 2 := ⟨w_751, w_752, w_753, w_28, by decide, by decide, by decide +kernel⟩
def fX1_renew_b12 (v1 : (Int32 × (Nat → Int32))) : Option ((Int32 × (Nat → Int32)) ⊕ (Nat → Int32)) :=
  if (40 : Int32) ≤ v1.1 then (some (.inr v1.2)) else (ckI v1.1 40 (some (.inl ((v1.1 + (1 : Int32)), (upd v1.2 v1.1.toNatClampNeg (0 : Int32))))))
def fX1_renew (H_r0 : (Nat → Int32)) (a1 : Int32) (a2 : Int32) : Option ((Nat → Int32) × Int32 × Int32) :=
  bd (loopF (fX1_renew_b12) 1000 ((0 : Int32), H_r0)) (fun T1 => some (T1, a2, a1))
set_option maxRecDepth 100000 in
set_option maxHeartbeats 4000000 in
theorem kX1_renew (l : Launch) (D : va_G) (cI cB cS : ClassId) (uH : Nat) (aH : Nat → Nat) (H_x1 : Int32) (H_x2 : Int32) (H_r0 : (Nat → Int32)) (a1 : Int32) (a2 : Int32) (z : ((Nat → Int32) × Int32 × Int32)) (h : fX1_renew H_r0 a1 a2 = some z) : Mt l yX1_renew cX1_renew 4 none 0 0 D cI cB cS (hW cI uH aH H_x1 H_x2 H_r0) (hW cI uH aH z.2.1 z.2.2 z.1) [.ref uH, .int a1, .int a2] none := by
  refine entryV (by decide +kernel) rfl (Nat.le_of_ble_eq_true rfl) ?_
  intro p e s m below meth c A ls QQ R ar F hRet jP jD jS jl
  obtain ⟨hx, hb, hml, hown, hts, jK, hA, hf1, hf2⟩ := id F
  have jl : lv_has ls 4 [(0, .ref uH), (1, .int a1), (2, .int a2)] := jl
  unfold fX1_renew at h
  refine lv_aload_n hx hb dX1_renew_0 rfl (lv_at jl 0 rfl) ?_
  refine lv_iload_n hx hb dX1_renew_1 rfl (lv_at jl 1 rfl) ?_
  refine va_put (D := D) (ci := 1) (v := .int a1) (ty := .int) (C := RX1) (T := TX1) (N := 3) hx hb hts in1 tyX1 tyX1_ok nmX1 hown jK.1 jP jD jS 0 rfl rfl 2 (by decide) (hts _ w_754) (fun _ h9 => h9) rfl (by decide +kernel) rfl rfl (Nat.le_of_ble_eq_true rfl) dX1_renew_2 (fun H locs jP jD jS => ?_)
  have jP : va_P D vwCl (hW cI uH aH H_x1 a1 H_r0) H := jP
  have jD : va_D A (hW cI uH aH H_x1 a1 H_r0) := jD
  refine lv_aload_n hx hb dX1_renew_5 rfl (lv_at jl 0 rfl) ?_
  refine lv_iload_n hx hb dX1_renew_6 rfl (lv_at jl 2 rfl) ?_
  refine va_put (D := D) (ci := 1) (v := .int a2) (ty := .int) (C := RX1) (T := TX1) (N := 3) hx hb hts in1 tyX1 tyX1_ok nmX1 hown jK.1 jP jD jS 0 rfl rfl 1 (by decide) (hts _ w_55) (fun _ h9 => h9) rfl (by decide +kernel) rfl rfl (Nat.le_of_ble_eq_true rfl) dX1_renew_7 (fun H locs jP jD jS => ?_)
  have jP : va_P D vwCl (hW cI uH aH a2 a1 H_r0) H := jP
  have jD : va_D A (hW cI uH aH a2 a1 H_r0) := jD
  refine lv_iconst (v := (0 : Int32)) hx hb dX1_renew_10 (by decide) ?_
  refine lv_istore_n (lv' := [(3, .int (0 : Int32)), (0, .ref uH), (1, .int a1), (2, .int a2)]) hx hb dX1_renew_11 rfl jl (by decide) rfl (fun ls jl => ?_)
  obtain ⟨T1, hT1, hz1⟩ := bd_some h
  clear h
  have hE1 : ∀ (H : Heap) (locs : List Loc) (ls : Array Slot), va_P D vwCl (hW cI uH aH a2 a1 T1) H → va_D A (hW cI uH aH a2 a1 T1) → va_S A s.heap H locs → lv_has ls 4 [] → W p l e R s m ar below meth c H locs 0 0 QQ (F0 m 31 ls []) := by
    clear jP jD jS jl
    intro H locs ls jP jD jS jl
    obtain rfl := Option.some.inj hz1
    exact hRet _ _ _ _ jP jD jS dX1_renew_31
  have hL1 : ∀ (n : Nat) (v1 : (Int32 × (Nat → Int32))), loopF (fX1_renew_b12) n v1 = some T1 → ∀ (H : Heap) (locs : List Loc) (ls : Array Slot), va_P D vwCl (hW cI uH aH a2 a1 v1.2) H → va_D A (hW cI uH aH a2 a1 v1.2) → va_S A s.heap H locs → lv_has ls 4 [(0, .ref uH), (3, .int v1.1)] → W p l e R s m ar below meth c H locs 0 0 QQ (F0 m 12 ls []) := by
    clear jP jD jS jl hT1
    intro n
    induction n with
    | zero => intro v1 hq; exact (loop_none hq).elim
    | succ n ih =>
      intro v1 hq H locs ls jP jD jS jl
      obtain ⟨o1, hv1, hq1⟩ := loop_some hq
      clear hq
      unfold fX1_renew_b12 at hv1
      refine lv_iload_n hx hb dX1_renew_12 rfl (lv_at jl 1 rfl) ?_
      refine lv_bipush (v := (40 : Int32)) hx hb dX1_renew_13 (by decide) ?_
      refine lv_icmp_ge (tgt := 31) hx hb dX1_renew_15 (by decide) (fun c2 => ?_) (fun c2 => ?_)
      · have hv1 := itp c2 hv1
        obtain rfl := Option.some.inj hv1
        obtain rfl := nxt_r hq1
        exact hE1 _ _ _ jP jD jS (lv_sub jl [] rfl)
      · have hv1 := itn c2 hv1
        refine lv_aload_n hx hb dX1_renew_18 rfl (lv_at jl 0 rfl) ?_
        refine va_get (D := D) (ci := 1) (v := .ref (aH 0)) (C := RX1) (T := TX1) (N := 3) hx hb hts in1 hown jK.1 jP 0 rfl rfl 0 (by decide) (hts _ w_54) (fun _ h9 => h9) rfl dX1_renew_19 ?_
        refine lv_iload_n hx hb dX1_renew_22 rfl (lv_at jl 1 rfl) ?_
        refine lv_iconst (v := (0 : Int32)) hx hb dX1_renew_23 (by decide) ?_
        obtain ⟨hin, hv1⟩ := ckI_some hv1
        refine va_iast (f := v1.2) hx hb jK.1 jP jD jS 1 0 rfl rfl hin dX1_renew_24 (fun H locs jP jD jS => ?_)
        have jP : va_P D vwCl (hW cI uH aH a2 a1 (upd v1.2 v1.1.toNatClampNeg (0 : Int32))) H := jP
        have jD : va_D A (hW cI uH aH a2 a1 (upd v1.2 v1.1.toNatClampNeg (0 : Int32))) := jD
        refine lv_iinc (v := (v1.1 + (1 : Int32))) (lv' := [(3, .int (v1.1 + (1 : Int32))), (0, .ref uH)]) hx hb dX1_renew_25 jl (k := 1) rfl rfl (by decide) rfl (fun ls jl => ?_)
        refine lv_goto (tgt := 12) hx hb dX1_renew_28 (by decide) ?_
        obtain rfl := Option.some.inj hv1
        exact ih _ (nxt_l hq1) _ _ _ jP jD jS (lv_sub jl [1, 0] rfl)
  exact hL1 1000 _ hT1 _ _ _ jP jD jS (lv_sub jl [1, 0] rfl)
theorem okX1_lowestBits : okV yX1_lowestBits cX1_lowestBits 2 (some .int) 1 := ⟨w_770, w_771, w_772, w_28, by decide, by decide, by decide +kernel⟩
def fX1_lowestBits (H_x2 : Int32) (a1 : Int32) : Option Int32 :=
  if H_x2 = (0 : Int32) then some a1.toInt8.toInt32 else (if H_x2 = (1 : Int32) then some a1.toInt16.toInt32 else some a1)
set_option maxRecDepth 100000 in
set_option maxHeartbeats 4000000 in
theorem kX1_lowestBits (l : Launch) (D : va_G) (cI cB cS : ClassId) (uH : Nat) (aH : Nat → Nat) (H_x1 : Int32) (H_x2 : Int32) (H_r0 : (Nat → Int32)) (a1 : Int32) (z : Int32) (h : fX1_lowestBits H_x2 a1 = some z) : Mt l yX1_lowestBits cX1_lowestBits 2 (some .int) 0 0 D cI cB cS (hW cI uH aH H_x1 H_x2 H_r0) (hW cI uH aH H_x1 H_x2 H_r0) [.ref uH, .int a1] (some (.int z)) := by
  refine entryI (by decide +kernel) rfl (Nat.le_of_ble_eq_true rfl) ?_
  intro p e s m below meth c A ls QQ R ar F hRet jP jD jS jl
  obtain ⟨hx, hb, hml, hown, hts, jK, hA, hf1, hf2⟩ := id F
  have jl : lv_has ls 2 [(0, .ref uH), (1, .int a1)] := jl
  unfold fX1_lowestBits at h
  refine lv_aload_n hx hb dX1_lowestBits_0 rfl (lv_at jl 0 rfl) ?_
  refine va_get (D := D) (ci := 1) (v := .int H_x2) (C := RX1) (T := TX1) (N := 3) hx hb hts in1 hown jK.1 jP 0 rfl rfl 2 (by decide) (hts _ w_754) (fun _ h9 => h9) rfl dX1_lowestBits_1 ?_
  refine lv_if_ne (tgt := 10) hx hb dX1_lowestBits_4 (by decide) (fun c1 => ?_) (fun c1 => ?_)
  · have h := itn c1 h
    refine lv_aload_n hx hb dX1_lowestBits_10 rfl (lv_at jl 0 rfl) ?_
    refine va_get (D := D) (ci := 1) (v := .int H_x2) (C := RX1) (T := TX1) (N := 3) hx hb hts in1 hown jK.1 jP 0 rfl rfl 2 (by decide) (hts _ w_754) (fun _ h9 => h9) rfl dX1_lowestBits_11 ?_
    refine lv_iconst (v := (1 : Int32)) hx hb dX1_lowestBits_14 (by decide) ?_
    refine lv_icmp_ne (tgt := 23) hx hb dX1_lowestBits_15 (by decide) (fun c2 => ?_) (fun c2 => ?_)
    · have h := itn c2 h
      refine lv_iload_n hx hb dX1_lowestBits_23 rfl (lv_at jl 1 rfl) ?_
      obtain rfl := Option.some.inj h
      exact hRet _ _ _ _ jP jD jS dX1_lowestBits_24
    · have h := itp c2 h
      refine lv_iload_n hx hb dX1_lowestBits_18 rfl (lv_at jl 1 rfl) ?_
      refine lv_i2s (v := a1.toInt16.toInt32) hx hb dX1_lowestBits_19 rfl ?_
      refine lv_goto (tgt := 24) hx hb dX1_lowestBits_20 (by decide) ?_
      obtain rfl := Option.some.inj h
      exact hRet _ _ _ _ jP jD jS dX1_lowestBits_24
  · have h := itp c1 h
    refine lv_iload_n hx hb dX1_lowestBits_7 rfl (lv_at jl 1 rfl) ?_
    refine lv_i2b (v := a1.toInt8.toInt32) hx hb dX1_lowestBits_8 rfl ?_
    obtain rfl := Option.some.inj h
    exact hRet _ _ _ _ jP jD jS dX1_lowestBits_9
theorem okX1_faultAt : okV yX1_faultAt cX1_faultAt 4 (some .int) 3 := ⟨w_766, w_767, w_768, w_28, by decide, by decide, by decide +kernel⟩
def fX1_faultAt (H_x1 : Int32) (H_x2 : Int32) (a1 : Int32) (a2 : Int32) (a3 : Int32) : Option Int32 :=
  if (0 : Int32) ≤ H_x1 then (if a1 = H_x2 then (bd (fX5_isWithin a2 (0 : Int32) (H_x1 - a3)) (fun t3 => if t3 = (0 : Int32) then (some (2 : Int32)) else (some (0 : Int32)))) else (some (3 : Int32))) else (some (1 : Int32))
set_option maxRecDepth 100000 in
set_option maxHeartbeats 4000000 in
theorem kX1_faultAt (l : Launch) (D : va_G) (cI cB cS : ClassId) (uH : Nat) (aH : Nat → Nat) (H_x1 : Int32) (H_x2 : Int32) (H_r0 : (Nat → Int32)) (a1 : Int32) (a2 : Int32) (a3 : Int32) (z : Int32) (h : fX1_faultAt H_x1 H_x2 a1 a2 a3 = some z) : Mt l yX1_faultAt cX1_faultAt 4 (some .int) 1 22 D cI cB cS (hW cI uH aH H_x1 H_x2 H_r0) (hW cI uH aH H_x1 H_x2 H_r0) [.ref uH, .int a1, .int a2, .int a3] (some (.int z)) := by
  refine entryI (by decide +kernel) rfl (Nat.le_of_ble_eq_true rfl) ?_
  intro p e s m below meth c A ls QQ R ar F hRet jP jD jS jl
  obtain ⟨hx, hb, hml, hown, hts, jK, hA, hf1, hf2⟩ := id F
  have jl : lv_has ls 4 [(0, .ref uH), (1, .int a1), (2, .int a2), (3, .int a3)] := jl
  unfold fX1_faultAt at h
  refine lv_aload_n hx hb dX1_faultAt_0 rfl (lv_at jl 0 rfl) ?_
  refine va_get (D := D) (ci := 1) (v := .int H_x1) (C := RX1) (T := TX1) (N := 3) hx hb hts in1 hown jK.1 jP 0 rfl rfl 1 (by decide) (hts _ w_55) (fun _ h9 => h9) rfl dX1_faultAt_1 ?_
  refine lv_if_ge (tgt := 9) hx hb dX1_faultAt_4 (by decide) (fun c1 => ?_) (fun c1 => ?_)
  · have h := itp c1 h
    refine lv_iload_n hx hb dX1_faultAt_9 rfl (lv_at jl 1 rfl) ?_
    refine lv_aload_n hx hb dX1_faultAt_10 rfl (lv_at jl 0 rfl) ?_
    refine va_get (D := D) (ci := 1) (v := .int H_x2) (C := RX1) (T := TX1) (N := 3) hx hb hts in1 hown jK.1 jP 0 rfl rfl 2 (by decide) (hts _ w_754) (fun _ h9 => h9) rfl dX1_faultAt_11 ?_
    refine lv_icmp_eq (tgt := 19) hx hb dX1_faultAt_14 (by decide) (fun c2 => ?_) (fun c2 => ?_)
    · have h := itp c2 h
      refine lv_iload_n hx hb dX1_faultAt_19 rfl (lv_at jl 2 rfl) ?_
      refine lv_iconst (v := (0 : Int32)) hx hb dX1_faultAt_20 (by decide) ?_
      refine lv_aload_n hx hb dX1_faultAt_21 rfl (lv_at jl 0 rfl) ?_
      refine va_get (D := D) (ci := 1) (v := .int H_x1) (C := RX1) (T := TX1) (N := 3) hx hb hts in1 hown jK.1 jP 0 rfl rfl 1 (by decide) (hts _ w_55) (fun _ h9 => h9) rfl dX1_faultAt_22 ?_
      refine lv_iload_n hx hb dX1_faultAt_25 rfl (lv_at jl 3 rfl) ?_
      refine lv_isub hx hb dX1_faultAt_26 ?_
      obtain ⟨t3, hc4, h⟩ := bd_some h
      refine call0N (As := [.int a2, .int (0 : Int32), .int (H_x1 - a3)]) (rest := []) (st1 := [.int t3]) F (kX5_isWithin l D cI cB cS  a2 (0 : Int32) (H_x1 - a3) _ hc4 ) okX5_isWithin nl_1 (by decide) (by decide) ⟨Nat.zero_le _, Nat.zero_le _⟩ jP jD jS rfl jl.1 rfl rfl (Nat.le_of_ble_eq_true rfl) dX1_faultAt_27 (fun H locs jP jD jS => ?_)
      refine lv_if_eq (tgt := 37) hx hb dX1_faultAt_30 (by decide) (fun c5 => ?_) (fun c5 => ?_)
      · have h := itp c5 h
        refine lv_iconst (v := (2 : Int32)) hx hb dX1_faultAt_37 (by decide) ?_
        obtain rfl := Option.some.inj h
        exact hRet _ _ _ _ jP jD jS dX1_faultAt_38
      · have h := itn c5 h
        refine lv_iconst (v := (0 : Int32)) hx hb dX1_faultAt_33 (by decide) ?_
        refine lv_goto (tgt := 38) hx hb dX1_faultAt_34 (by decide) ?_
        obtain rfl := Option.some.inj h
        exact hRet _ _ _ _ jP jD jS dX1_faultAt_38
    · have h := itn c2 h
      refine lv_iconst (v := (3 : Int32)) hx hb dX1_faultAt_17 (by decide) ?_
      obtain rfl := Option.some.inj h
      exact hRet _ _ _ _ jP jD jS dX1_faultAt_18
  · have h := itn c1 h
    refine lv_iconst (v := (1 : Int32)) hx hb dX1_faultAt_7 (by decide) ?_
    obtain rfl := Option.some.inj h
    exact hRet _ _ _ _ jP jD jS dX1_faultAt_8
theorem okX1_tellsSortAt : okV yX1_tellsSortAt cX1_tellsSortAt 2 (some .boolean) 1 := ⟨w_782, w_783, w_784, w_28, by decide, by decide, by decide +kernel⟩
def fX1_tellsSortAt (H_r0 : (Nat → Int32)) (a1 : Int32) : Option Int32 :=
  ckI a1 40 (ckI (a1 + (1 : Int32)) 40 (ckI (a1 + (2 : Int32)) 40 (ckI (a1 + (3 : Int32)) 40 (bd (fX5_isSortAsTold (H_r0 a1.toNatClampNeg) (H_r0 (a1 + (1 : Int32)).toNatClampNeg) (H_r0 (a1 + (2 : Int32)).toNatClampNeg) (H_r0 (a1 + (3 : Int32)).toNatClampNeg)) (fun t1 => ckB t1 (some t1))))))
set_option maxRecDepth 100000 in
set_option maxHeartbeats 4000000 in
theorem kX1_tellsSortAt (l : Launch) (D : va_G) (cI cB cS : ClassId) (uH : Nat) (aH : Nat → Nat) (H_x1 : Int32) (H_x2 : Int32) (H_r0 : (Nat → Int32)) (a1 : Int32) (z : Int32) (h : fX1_tellsSortAt H_r0 a1 = some z) : Mt l yX1_tellsSortAt cX1_tellsSortAt 2 (some .boolean) 2 45 D cI cB cS (hW cI uH aH H_x1 H_x2 H_r0) (hW cI uH aH H_x1 H_x2 H_r0) [.ref uH, .int a1] (some (.int z)) := by
  refine entryZ (by decide +kernel) rfl (Nat.le_of_ble_eq_true rfl) ?_
  intro p e s m below meth c A ls QQ R ar F hRet jP jD jS jl
  obtain ⟨hx, hb, hml, hown, hts, jK, hA, hf1, hf2⟩ := id F
  have jl : lv_has ls 2 [(0, .ref uH), (1, .int a1)] := jl
  unfold fX1_tellsSortAt at h
  refine lv_aload_n hx hb dX1_tellsSortAt_0 rfl (lv_at jl 0 rfl) ?_
  refine va_get (D := D) (ci := 1) (v := .ref (aH 0)) (C := RX1) (T := TX1) (N := 3) hx hb hts in1 hown jK.1 jP 0 rfl rfl 0 (by decide) (hts _ w_54) (fun _ h9 => h9) rfl dX1_tellsSortAt_1 ?_
  refine lv_iload_n hx hb dX1_tellsSortAt_4 rfl (lv_at jl 1 rfl) ?_
  obtain ⟨hin, h⟩ := ckI_some h
  refine va_iald (f := H_r0) hx hb jK.1 jP 1 0 rfl rfl hin dX1_tellsSortAt_5 ?_
  refine lv_aload_n hx hb dX1_tellsSortAt_6 rfl (lv_at jl 0 rfl) ?_
  refine va_get (D := D) (ci := 1) (v := .ref (aH 0)) (C := RX1) (T := TX1) (N := 3) hx hb hts in1 hown jK.1 jP 0 rfl rfl 0 (by decide) (hts _ w_54) (fun _ h9 => h9) rfl dX1_tellsSortAt_7 ?_
  refine lv_iload_n hx hb dX1_tellsSortAt_10 rfl (lv_at jl 1 rfl) ?_
  refine lv_iconst (v := (1 : Int32)) hx hb dX1_tellsSortAt_11 (by decide) ?_
  refine lv_iadd hx hb dX1_tellsSortAt_12 ?_
  obtain ⟨hin, h⟩ := ckI_some h
  refine va_iald (f := H_r0) hx hb jK.1 jP 1 0 rfl rfl hin dX1_tellsSortAt_13 ?_
  refine lv_aload_n hx hb dX1_tellsSortAt_14 rfl (lv_at jl 0 rfl) ?_
  refine va_get (D := D) (ci := 1) (v := .ref (aH 0)) (C := RX1) (T := TX1) (N := 3) hx hb hts in1 hown jK.1 jP 0 rfl rfl 0 (by decide) (hts _ w_54) (fun _ h9 => h9) rfl dX1_tellsSortAt_15 ?_
  refine lv_iload_n hx hb dX1_tellsSortAt_18 rfl (lv_at jl 1 rfl) ?_
  refine lv_iconst (v := (2 : Int32)) hx hb dX1_tellsSortAt_19 (by decide) ?_
  refine lv_iadd hx hb dX1_tellsSortAt_20 ?_
  obtain ⟨hin, h⟩ := ckI_some h
  refine va_iald (f := H_r0) hx hb jK.1 jP 1 0 rfl rfl hin dX1_tellsSortAt_21 ?_
  refine lv_aload_n hx hb dX1_tellsSortAt_22 rfl (lv_at jl 0 rfl) ?_
  refine va_get (D := D) (ci := 1) (v := .ref (aH 0)) (C := RX1) (T := TX1) (N := 3) hx hb hts in1 hown jK.1 jP 0 rfl rfl 0 (by decide) (hts _ w_54) (fun _ h9 => h9) rfl dX1_tellsSortAt_23 ?_
  refine lv_iload_n hx hb dX1_tellsSortAt_26 rfl (lv_at jl 1 rfl) ?_
  refine lv_iconst (v := (3 : Int32)) hx hb dX1_tellsSortAt_27 (by decide) ?_
  refine lv_iadd hx hb dX1_tellsSortAt_28 ?_
  obtain ⟨hin, h⟩ := ckI_some h
  refine va_iald (f := H_r0) hx hb jK.1 jP 1 0 rfl rfl hin dX1_tellsSortAt_29 ?_
  obtain ⟨t1, hc2, h⟩ := bd_some h
  refine call0N (As := [.int (H_r0 a1.toNatClampNeg), .int (H_r0 (a1 + (1 : Int32)).toNatClampNeg), .int (H_r0 (a1 + (2 : Int32)).toNatClampNeg), .int (H_r0 (a1 + (3 : Int32)).toNatClampNeg)]) (rest := []) (st1 := [.int t1]) F (kX5_isSortAsTold l D cI cB cS  (H_r0 a1.toNatClampNeg) (H_r0 (a1 + (1 : Int32)).toNatClampNeg) (H_r0 (a1 + (2 : Int32)).toNatClampNeg) (H_r0 (a1 + (3 : Int32)).toNatClampNeg) _ hc2 ) okX5_isSortAsTold nl_2 (by decide) (by decide) ⟨Nat.zero_le _, Nat.zero_le _⟩ jP jD jS rfl jl.1 rfl rfl (Nat.le_of_ble_eq_true rfl) dX1_tellsSortAt_30 (fun H locs jP jD jS => ?_)
  obtain ⟨hbz, h⟩ := ckB_some h
  obtain rfl := Option.some.inj h
  exact hRet _ _ _ _ hbz jP jD jS dX1_tellsSortAt_33
theorem okX1_addSortAt : okV yX1_addSortAt cX1_addSortAt 3 none 2 := ⟨w_786, w_787, w_788, w_28, by decide, by decide, by decide +kernel⟩
def fX1_addSortAt (H_r0 : (Nat → Int32)) (S_r0 : (Nat → Int32)) (S_r1 : (Nat → Int32)) (S_r2 : (Nat → Int32)) (S_r3 : (Nat → Int32)) (S_r4 : (Nat → Int32)) (S_x5 : Int32) (a1 : Int32) : Option ((Nat → Int32) × (Nat → Int32) × (Nat → Int32) × (Nat → Int32) × (Nat → Int32) × Int32) :=
  ckI a1 40 (ckI (a1 + (1 : Int32)) 40 (ckI (a1 + (2 : Int32)) 40 (ckI (a1 + (3 : Int32)) 40 (bd (fX2_add (S_r0) (S_r1) (S_r2) (S_r3) (S_r4) (S_x5) (H_r0 a1.toNatClampNeg) (H_r0 (a1 + (1 : Int32)).toNatClampNeg) (H_r0 (a1 + (2 : Int32)).toNatClampNeg) (H_r0 (a1 + (3 : Int32)).toNatClampNeg)) (fun t1 => some (t1.1, t1.2.1, t1.2.2.1, t1.2.2.2.1, t1.2.2.2.2.1, t1.2.2.2.2.2))))))
set_option maxRecDepth 100000 in
set_option maxHeartbeats 4000000 in
theorem kX1_addSortAt (l : Launch) (D : va_G) (cI cB cS : ClassId) (uH : Nat) (aH : Nat → Nat) (H_x1 : Int32) (H_x2 : Int32) (H_r0 : (Nat → Int32)) (uS : Nat) (aS : Nat → Nat) (S_x5 : Int32) (S_x6 : Int32) (S_x7 : Int32) (S_x8 : Int32) (S_x9 : Int32) (S_r0 : (Nat → Int32)) (S_r1 : (Nat → Int32)) (S_r2 : (Nat → Int32)) (S_r3 : (Nat → Int32)) (S_r4 : (Nat → Int32)) (a1 : Int32) (z : ((Nat → Int32) × (Nat → Int32) × (Nat → Int32) × (Nat → Int32) × (Nat → Int32) × Int32)) (h : fX1_addSortAt H_r0 S_r0 S_r1 S_r2 S_r3 S_r4 S_x5 a1 = some z) : Mt l yX1_addSortAt cX1_addSortAt 3 none 1 24 D cI cB cS (hW cI uH aH H_x1 H_x2 H_r0 ++ (sW cI uS aS S_x5 S_x6 S_x7 S_x8 S_x9 S_r0 S_r1 S_r2 S_r3 S_r4)) (hW cI uH aH H_x1 H_x2 H_r0 ++ (sW cI uS aS z.2.2.2.2.2 S_x6 S_x7 S_x8 S_x9 z.1 z.2.1 z.2.2.1 z.2.2.2.1 z.2.2.2.2.1)) [.ref uH, .int a1, .ref uS] none := by
  refine entryV (by decide +kernel) rfl (Nat.le_of_ble_eq_true rfl) ?_
  intro p e s m below meth c A ls QQ R ar F hRet jP jD jS jl
  obtain ⟨hx, hb, hml, hown, hts, jK, hA, hf1, hf2⟩ := id F
  have jl : lv_has ls 3 [(0, .ref uH), (1, .int a1), (2, .ref uS)] := jl
  unfold fX1_addSortAt at h
  refine lv_aload_n hx hb dX1_addSortAt_0 rfl (lv_at jl 2 rfl) ?_
  refine lv_aload_n hx hb dX1_addSortAt_1 rfl (lv_at jl 0 rfl) ?_
  refine va_get (D := D) (ci := 1) (v := .ref (aH 0)) (C := RX1) (T := TX1) (N := 3) hx hb hts in1 hown jK.1 jP 0 rfl rfl 0 (by decide) (hts _ w_54) (fun _ h9 => h9) rfl dX1_addSortAt_2 ?_
  refine lv_iload_n hx hb dX1_addSortAt_5 rfl (lv_at jl 1 rfl) ?_
  obtain ⟨hin, h⟩ := ckI_some h
  refine va_iald (f := H_r0) hx hb jK.1 jP 1 0 rfl rfl hin dX1_addSortAt_6 ?_
  refine lv_aload_n hx hb dX1_addSortAt_7 rfl (lv_at jl 0 rfl) ?_
  refine va_get (D := D) (ci := 1) (v := .ref (aH 0)) (C := RX1) (T := TX1) (N := 3) hx hb hts in1 hown jK.1 jP 0 rfl rfl 0 (by decide) (hts _ w_54) (fun _ h9 => h9) rfl dX1_addSortAt_8 ?_
  refine lv_iload_n hx hb dX1_addSortAt_11 rfl (lv_at jl 1 rfl) ?_
  refine lv_iconst (v := (1 : Int32)) hx hb dX1_addSortAt_12 (by decide) ?_
  refine lv_iadd hx hb dX1_addSortAt_13 ?_
  obtain ⟨hin, h⟩ := ckI_some h
  refine va_iald (f := H_r0) hx hb jK.1 jP 1 0 rfl rfl hin dX1_addSortAt_14 ?_
  refine lv_aload_n hx hb dX1_addSortAt_15 rfl (lv_at jl 0 rfl) ?_
  refine va_get (D := D) (ci := 1) (v := .ref (aH 0)) (C := RX1) (T := TX1) (N := 3) hx hb hts in1 hown jK.1 jP 0 rfl rfl 0 (by decide) (hts _ w_54) (fun _ h9 => h9) rfl dX1_addSortAt_16 ?_
  refine lv_iload_n hx hb dX1_addSortAt_19 rfl (lv_at jl 1 rfl) ?_
  refine lv_iconst (v := (2 : Int32)) hx hb dX1_addSortAt_20 (by decide) ?_
  refine lv_iadd hx hb dX1_addSortAt_21 ?_
  obtain ⟨hin, h⟩ := ckI_some h
  refine va_iald (f := H_r0) hx hb jK.1 jP 1 0 rfl rfl hin dX1_addSortAt_22 ?_
  refine lv_aload_n hx hb dX1_addSortAt_23 rfl (lv_at jl 0 rfl) ?_
  refine va_get (D := D) (ci := 1) (v := .ref (aH 0)) (C := RX1) (T := TX1) (N := 3) hx hb hts in1 hown jK.1 jP 0 rfl rfl 0 (by decide) (hts _ w_54) (fun _ h9 => h9) rfl dX1_addSortAt_24 ?_
  refine lv_iload_n hx hb dX1_addSortAt_27 rfl (lv_at jl 1 rfl) ?_
  refine lv_iconst (v := (3 : Int32)) hx hb dX1_addSortAt_28 (by decide) ?_
  refine lv_iadd hx hb dX1_addSortAt_29 ?_
  obtain ⟨hin, h⟩ := ckI_some h
  refine va_iald (f := H_r0) hx hb jK.1 jP 1 0 rfl rfl hin dX1_addSortAt_30 ?_
  obtain ⟨t1, hc2, h⟩ := bd_some h
  refine callP (wc := (sW cI uS aS S_x5 S_x6 S_x7 S_x8 S_x9 S_r0 S_r1 S_r2 S_r3 S_r4)) (wr := (hW cI uH aH H_x1 H_x2 H_r0)) (w1 := (sW cI uS aS t1.2.2.2.2.2 S_x6 S_x7 S_x8 S_x9 t1.1 t1.2.1 t1.2.2.1 t1.2.2.2.1 t1.2.2.2.2.1)) (ws1 := (hW cI uH aH H_x1 H_x2 H_r0 ++ (sW cI uS aS t1.2.2.2.2.2 S_x6 S_x7 S_x8 S_x9 t1.1 t1.2.1 t1.2.2.1 t1.2.2.2.1 t1.2.2.2.2.1))) (As := [.int (H_r0 a1.toNatClampNeg), .int (H_r0 (a1 + (1 : Int32)).toNatClampNeg), .int (H_r0 (a1 + (2 : Int32)).toNatClampNeg), .int (H_r0 (a1 + (3 : Int32)).toNatClampNeg)]) (rest := []) (st1 := []) 0 [2, 3, 4, 5, 6, 7] [0, 1] [0, 1, 2, 3, 4, 5, 6, 7] F (kX2_add l D cI cB cS uS aS S_x5 S_x6 S_x7 S_x8 S_x9 S_r0 S_r1 S_r2 S_r3 S_r4 (H_r0 a1.toNatClampNeg) (H_r0 (a1 + (1 : Int32)).toNatClampNeg) (H_r0 (a1 + (2 : Int32)).toNatClampNeg) (H_r0 (a1 + (3 : Int32)).toNatClampNeg) _ hc2 ) okX2_add w_789 (by decide) (by decide) ⟨Nat.zero_le _, Nat.zero_le _⟩ rfl rfl rfl jP jD jS rfl jl.1 rfl rfl (Nat.le_of_ble_eq_true rfl) dX1_addSortAt_31 rfl rfl (by decide) (by decide) (by decide) rfl (by decide) (fun H locs jP jD jS => ?_)
  obtain rfl := Option.some.inj h
  exact hRet _ _ _ _ jP jD jS dX1_addSortAt_34
