theorem okX5_isSort : okV yX5_isSort cX5_isSort 2 (some .boolean) 1 := ⟨w_296, w_297, w_298, w_2, by decide, by decide, by decide +kernel⟩
def fX5_isSort (S_x5 : Int32) (a1 : Int32) : Option Int32 :=
  bd (fX5_isWithin a1 (0 : Int32) (S_x5 - (1 : Int32))) (fun t1 => ckB t1 (some t1))
set_option maxRecDepth 100000 in
set_option maxHeartbeats 4000000 in
theorem kX5_isSort (l : Launch) (D : va_G) (cI cB cS : ClassId) (uL : Nat) (L_x6 : Int32) (L_x7 : Int32) (uS : Nat) (aS : Nat → Nat) (S_x5 : Int32) (S_x6 : Int32) (S_x7 : Int32) (S_x8 : Int32) (S_x9 : Int32) (S_r0 : (Nat → Int32)) (S_r1 : (Nat → Int32)) (S_r2 : (Nat → Int32)) (S_r3 : (Nat → Int32)) (S_r4 : (Nat → Int32)) (uE : Nat) (uD : Nat) (uT : Nat) (uV : Nat) (uP : Nat) (a1 : Int32) (z : Int32) (h : fX5_isSort S_x5 a1 = some z) : Mt l yX5_isSort cX5_isSort 2 (some .boolean) 1 22 D cI cB cS (lW uL uE uD uT uV uS uP L_x6 L_x7 ++ (sW cI uS aS S_x5 S_x6 S_x7 S_x8 S_x9 S_r0 S_r1 S_r2 S_r3 S_r4)) (lW uL uE uD uT uV uS uP L_x6 L_x7 ++ (sW cI uS aS S_x5 S_x6 S_x7 S_x8 S_x9 S_r0 S_r1 S_r2 S_r3 S_r4)) [.ref uL, .int a1] (some (.int z)) := by
  refine entryZ (by decide +kernel) rfl (Nat.le_of_ble_eq_true rfl) ?_
  intro p e s m below meth c A ls QQ R ar F hRet jP jD jS jl
  obtain ⟨hx, hb, hml, hown, hts, jK, hA, hf1, hf2⟩ := id F
  have jl : lv_has ls 2 [(0, .ref uL), (1, .int a1)] := jl
  unfold fX5_isSort at h
  refine lv_iload_n hx hb dX5_isSort_0 rfl (lv_at jl 1 rfl) ?_
  refine lv_iconst (v := (0 : Int32)) hx hb dX5_isSort_1 (by decide) ?_
  refine lv_aload_n hx hb dX5_isSort_2 rfl (lv_at jl 0 rfl) ?_
  refine va_get (D := D) (ci := 5) (v := .ref uS) (C := RX5) (T := TX5) (N := 8) hx hb hts in5 hown jK.1 jP 0 rfl rfl 4 (by decide) (hts _ w_32) (fun _ h9 => h9) rfl dX5_isSort_3 ?_
  refine va_get (D := D) (ci := 2) (v := .int S_x5) (C := RX2) (T := TX2) (N := 10) hx hb hts in2 hown jK.1 jP 1 rfl rfl 5 (by decide) (hts _ w_276) (fun _ h9 => h9) rfl dX5_isSort_6 ?_
  refine lv_iconst (v := (1 : Int32)) hx hb dX5_isSort_9 (by decide) ?_
  refine lv_isub hx hb dX5_isSort_10 ?_
  obtain ⟨t1, hc2, h⟩ := bd_some h
  refine call0 (As := [.int a1, .int (0 : Int32), .int (S_x5 - (1 : Int32))]) (rest := []) (st1 := [.int t1]) F (kX5_isWithin l D cI cB cS  a1 (0 : Int32) (S_x5 - (1 : Int32)) _ hc2 ) okX5_isWithin w_105 (by decide) (by decide) ⟨Nat.zero_le _, Nat.zero_le _⟩ jP jD jS rfl jl.1 rfl rfl (Nat.le_of_ble_eq_true rfl) dX5_isSort_11 (fun H locs jP jD jS => ?_)
  obtain ⟨hbz, h⟩ := ckB_some h
  obtain rfl := Option.some.inj h
  exact hRet _ _ _ _ hbz jP jD jS dX5_isSort_14
theorem okX5_feed : okV yX5_feed cX5_feed 4 (some .int) 1 := ⟨w_91, w_92, w_93, w_2, by decide, by decide, by decide +kernel⟩
def fX5_feed_b22 (l1 : Int64) (v1 : (Int32 × (Nat → Int32) × Int32)) : Option ((Int32 × (Nat → Int32) × Int32) ⊕ ((Nat → Int32) × Int32)) :=
  if v1.1 < (0 : Int32) then (some (.inr (v1.2.1, v1.2.2))) else (ckI v1.2.2 240 (some (.inl ((v1.1 + (-8 : Int32)), (upd v1.2.1 v1.2.2.toNatClampNeg (vp_nar .byte (((l1.toUInt64 >>> (v1.1.toInt64.toUInt64 &&& Int64.toUInt64 63)).toInt64).toInt32).toInt8.toInt32)), (v1.2.2 + (1 : Int32))))))
def fX5_feed (E_r0 : (Nat → Int32)) (E_x1 : Int32) (a1 : Int64) : Option (Int32 × (Nat → Int32) × Int32) :=
  if (E_x1 + (8 : Int32)) ≤ (240 : Int32) then (bd (loopF (fX5_feed_b22 a1) 1000 ((56 : Int32), E_r0, E_x1)) (fun T2 => some (T2.2, T2.1, T2.2))) else (some ((-3 : Int32), E_r0, E_x1))
set_option maxRecDepth 100000 in
set_option maxHeartbeats 4000000 in
theorem kX5_feed (l : Launch) (D : va_G) (cI cB cS : ClassId) (uL : Nat) (L_x6 : Int32) (L_x7 : Int32) (uE : Nat) (aE : Nat → Nat) (E_x1 : Int32) (E_r0 : (Nat → Int32)) (uD : Nat) (uT : Nat) (uV : Nat) (uS : Nat) (uP : Nat) (a1 : Int64) (z : (Int32 × (Nat → Int32) × Int32)) (h : fX5_feed E_r0 E_x1 a1 = some z) : Mt l yX5_feed cX5_feed 4 (some .int) 0 0 D cI cB cS (lW uL uE uD uT uV uS uP L_x6 L_x7 ++ (eW cB uE aE E_x1 E_r0)) (lW uL uE uD uT uV uS uP L_x6 L_x7 ++ (eW cB uE aE z.2.2 z.2.1)) [.ref uL, .long a1] (some (.int z.1)) := by
  refine entryI (by decide +kernel) rfl (Nat.le_of_ble_eq_true rfl) ?_
  intro p e s m below meth c A ls QQ R ar F hRet jP jD jS jl
  obtain ⟨hx, hb, hml, hown, hts, jK, hA, hf1, hf2⟩ := id F
  have jl : lv_has ls 4 [(0, .ref uL), (1, .long a1)] := jl
  unfold fX5_feed at h
  refine lv_aload_n hx hb dX5_feed_0 rfl (lv_at jl 0 rfl) ?_
  refine va_get (D := D) (ci := 5) (v := .ref uE) (C := RX5) (T := TX5) (N := 8) hx hb hts in5 hown jK.1 jP 0 rfl rfl 0 (by decide) (hts _ w_16) (fun _ h9 => h9) rfl dX5_feed_1 ?_
  refine va_get (D := D) (ci := 3) (v := .int E_x1) (C := RX3) (T := TX3) (N := 2) hx hb hts in3 hown jK.1 jP 1 rfl rfl 1 (by decide) (hts _ w_94) (fun _ h9 => h9) rfl dX5_feed_4 ?_
  refine lv_bipush (v := (8 : Int32)) hx hb dX5_feed_7 (by decide) ?_
  refine lv_iadd hx hb dX5_feed_9 ?_
  refine lv_sipush (v := (240 : Int32)) hx hb dX5_feed_10 (by decide) ?_
  refine lv_icmp_le (tgt := 19) hx hb dX5_feed_13 (by decide) (fun c1 => ?_) (fun c1 => ?_)
  · have h := itp c1 h
    refine lv_bipush (v := (56 : Int32)) hx hb dX5_feed_19 (by decide) ?_
    refine lv_istore_n (lv' := [(3, .int (56 : Int32)), (0, .ref uL), (1, .long a1)]) hx hb dX5_feed_21 rfl jl (by decide) rfl (fun ls jl => ?_)
    obtain ⟨T2, hT2, hz2⟩ := bd_some h
    clear h
    have hE2 : ∀ (H : Heap) (locs : List Loc) (ls : Array Slot), va_P D vwCl (lW uL uE uD uT uV uS uP L_x6 L_x7 ++ (eW cB uE aE T2.2 T2.1)) H → va_D A (lW uL uE uD uT uV uS uP L_x6 L_x7 ++ (eW cB uE aE T2.2 T2.1)) → va_S A s.heap H locs → lv_has ls 4 [(0, .ref uL)] → W p l e R s m ar below meth c H locs 0 0 QQ (F0 m 65 ls []) := by
      clear jP jD jS jl
      intro H locs ls jP jD jS jl
      refine lv_aload_n hx hb dX5_feed_65 rfl (lv_at jl 0 rfl) ?_
      refine va_get (D := D) (ci := 5) (v := .ref uE) (C := RX5) (T := TX5) (N := 8) hx hb hts in5 hown jK.1 jP 0 rfl rfl 0 (by decide) (hts _ w_16) (fun _ h9 => h9) rfl dX5_feed_66 ?_
      refine va_get (D := D) (ci := 3) (v := .int T2.2) (C := RX3) (T := TX3) (N := 2) hx hb hts in3 hown jK.1 jP 1 rfl rfl 1 (by decide) (hts _ w_94) (fun _ h9 => h9) rfl dX5_feed_69 ?_
      obtain rfl := Option.some.inj hz2
      exact hRet _ _ _ _ jP jD jS dX5_feed_72
    have hL2 : ∀ (n : Nat) (v2 : (Int32 × (Nat → Int32) × Int32)), loopF (fX5_feed_b22 a1) n v2 = some T2 → ∀ (H : Heap) (locs : List Loc) (ls : Array Slot), va_P D vwCl (lW uL uE uD uT uV uS uP L_x6 L_x7 ++ (eW cB uE aE v2.2.2 v2.2.1)) H → va_D A (lW uL uE uD uT uV uS uP L_x6 L_x7 ++ (eW cB uE aE v2.2.2 v2.2.1)) → va_S A s.heap H locs → lv_has ls 4 [(0, .ref uL), (1, .long a1), (3, .int v2.1)] → W p l e R s m ar below meth c H locs 0 0 QQ (F0 m 22 ls []) := by
      clear jP jD jS jl hT2
      intro n
      induction n with
      | zero => intro v2 hq; exact (loop_none hq).elim
      | succ n ih =>
        intro v2 hq H locs ls jP jD jS jl
        obtain ⟨o2, hv2, hq2⟩ := loop_some hq
        clear hq
        unfold fX5_feed_b22 at hv2
        refine lv_iload_n hx hb dX5_feed_22 rfl (lv_at jl 2 rfl) ?_
        refine lv_if_lt (tgt := 65) hx hb dX5_feed_23 (by decide) (fun c3 => ?_) (fun c3 => ?_)
        · have hv2 := itp c3 hv2
          obtain rfl := Option.some.inj hv2
          obtain rfl := nxt_r hq2
          exact hE2 _ _ _ jP jD jS (lv_sub jl [0] rfl)
        · have hv2 := itn c3 hv2
          refine lv_aload_n hx hb dX5_feed_26 rfl (lv_at jl 0 rfl) ?_
          refine va_get (D := D) (ci := 5) (v := .ref uE) (C := RX5) (T := TX5) (N := 8) hx hb hts in5 hown jK.1 jP 0 rfl rfl 0 (by decide) (hts _ w_16) (fun _ h9 => h9) rfl dX5_feed_27 ?_
          refine va_get (D := D) (ci := 3) (v := .ref (aE 0)) (C := RX3) (T := TX3) (N := 2) hx hb hts in3 hown jK.1 jP 1 rfl rfl 0 (by decide) (hts _ w_95) (fun _ h9 => h9) rfl dX5_feed_30 ?_
          refine lv_aload_n hx hb dX5_feed_33 rfl (lv_at jl 0 rfl) ?_
          refine va_get (D := D) (ci := 5) (v := .ref uE) (C := RX5) (T := TX5) (N := 8) hx hb hts in5 hown jK.1 jP 0 rfl rfl 0 (by decide) (hts _ w_16) (fun _ h9 => h9) rfl dX5_feed_34 ?_
          refine va_get (D := D) (ci := 3) (v := .int v2.2.2) (C := RX3) (T := TX3) (N := 2) hx hb hts in3 hown jK.1 jP 1 rfl rfl 1 (by decide) (hts _ w_94) (fun _ h9 => h9) rfl dX5_feed_37 ?_
          refine lv_lload_n hx hb dX5_feed_40 rfl (lv_at jl 1 rfl) ?_
          refine lv_iload_n hx hb dX5_feed_41 rfl (lv_at jl 2 rfl) ?_
          refine lv_lushr (v := (a1.toUInt64 >>> (v2.1.toInt64.toUInt64 &&& Int64.toUInt64 63)).toInt64) hx hb dX5_feed_42 rfl ?_
          refine lv_l2i (v := ((a1.toUInt64 >>> (v2.1.toInt64.toUInt64 &&& Int64.toUInt64 63)).toInt64).toInt32) hx hb dX5_feed_43 rfl ?_
          refine lv_i2b (v := (((a1.toUInt64 >>> (v2.1.toInt64.toUInt64 &&& Int64.toUInt64 63)).toInt64).toInt32).toInt8.toInt32) hx hb dX5_feed_44 rfl ?_
          obtain ⟨hin, hv2⟩ := ckI_some hv2
          refine va_bast (f := v2.2.1) hx hb jK.1 jP jD jS 2 1 rfl rfl hin dX5_feed_45 (fun H locs jP jD jS => ?_)
          have jP : va_P D vwCl (lW uL uE uD uT uV uS uP L_x6 L_x7 ++ (eW cB uE aE v2.2.2 (upd v2.2.1 v2.2.2.toNatClampNeg (vp_nar .byte (((a1.toUInt64 >>> (v2.1.toInt64.toUInt64 &&& Int64.toUInt64 63)).toInt64).toInt32).toInt8.toInt32)))) H := jP
          have jD : va_D A (lW uL uE uD uT uV uS uP L_x6 L_x7 ++ (eW cB uE aE v2.2.2 (upd v2.2.1 v2.2.2.toNatClampNeg (vp_nar .byte (((a1.toUInt64 >>> (v2.1.toInt64.toUInt64 &&& Int64.toUInt64 63)).toInt64).toInt32).toInt8.toInt32)))) := jD
          refine lv_aload_n hx hb dX5_feed_46 rfl (lv_at jl 0 rfl) ?_
          refine va_get (D := D) (ci := 5) (v := .ref uE) (C := RX5) (T := TX5) (N := 8) hx hb hts in5 hown jK.1 jP 0 rfl rfl 0 (by decide) (hts _ w_16) (fun _ h9 => h9) rfl dX5_feed_47 ?_
          refine lv_dup hx hb dX5_feed_50 rfl ?_
          refine va_get (D := D) (ci := 3) (v := .int v2.2.2) (C := RX3) (T := TX3) (N := 2) hx hb hts in3 hown jK.1 jP 1 rfl rfl 1 (by decide) (hts _ w_94) (fun _ h9 => h9) rfl dX5_feed_51 ?_
          refine lv_iconst (v := (1 : Int32)) hx hb dX5_feed_54 (by decide) ?_
          refine lv_iadd hx hb dX5_feed_55 ?_
          refine va_put (D := D) (ci := 3) (v := .int (v2.2.2 + (1 : Int32))) (ty := .int) (C := RX3) (T := TX3) (N := 2) hx hb hts in3 tyX3 tyX3_ok nmX3 hown jK.1 jP jD jS 1 rfl rfl 1 (by decide) (hts _ w_94) (fun _ h9 => h9) rfl (by decide +kernel) rfl rfl (Nat.le_of_ble_eq_true rfl) dX5_feed_56 (fun H locs jP jD jS => ?_)
          have jP : va_P D vwCl (lW uL uE uD uT uV uS uP L_x6 L_x7 ++ (eW cB uE aE (v2.2.2 + (1 : Int32)) (upd v2.2.1 v2.2.2.toNatClampNeg (vp_nar .byte (((a1.toUInt64 >>> (v2.1.toInt64.toUInt64 &&& Int64.toUInt64 63)).toInt64).toInt32).toInt8.toInt32)))) H := jP
          have jD : va_D A (lW uL uE uD uT uV uS uP L_x6 L_x7 ++ (eW cB uE aE (v2.2.2 + (1 : Int32)) (upd v2.2.1 v2.2.2.toNatClampNeg (vp_nar .byte (((a1.toUInt64 >>> (v2.1.toInt64.toUInt64 &&& Int64.toUInt64 63)).toInt64).toInt32).toInt8.toInt32)))) := jD
          refine lv_iinc (v := (v2.1 + (-8 : Int32))) (lv' := [(3, .int (v2.1 + (-8 : Int32))), (0, .ref uL), (1, .long a1)]) hx hb dX5_feed_59 jl (k := 2) rfl rfl (by decide) rfl (fun ls jl => ?_)
          refine lv_goto (tgt := 22) hx hb dX5_feed_62 (by decide) ?_
          obtain rfl := Option.some.inj hv2
          exact ih _ (nxt_l hq2) _ _ _ jP jD jS (lv_sub jl [1, 2, 0] rfl)
    exact hL2 1000 _ hT2 _ _ _ jP jD jS (lv_sub jl [1, 2, 0] rfl)
  · have h := itn c1 h
    refine lv_bipush (v := (-3 : Int32)) hx hb dX5_feed_16 (by decide) ?_
    obtain rfl := Option.some.inj h
    exact hRet _ _ _ _ jP jD jS dX5_feed_18
theorem okX5_end : okV yX5_end cX5_end 3 (some .int) 1 := ⟨w_102, w_103, w_104, w_2, by decide, by decide, by decide +kernel⟩
def fX5_end (E_x1 : Int32) (a1 : Int32) : Option (Int32 × Int32) :=
  bd (fX5_isWithin a1 (0 : Int32) (E_x1)) (fun t1 => if t1 = (0 : Int32) then (some ((-1 : Int32), E_x1)) else (some (E_x1, a1)))
set_option maxRecDepth 100000 in
set_option maxHeartbeats 4000000 in
theorem kX5_end (l : Launch) (D : va_G) (cI cB cS : ClassId) (uL : Nat) (L_x6 : Int32) (L_x7 : Int32) (uE : Nat) (aE : Nat → Nat) (E_x1 : Int32) (E_r0 : (Nat → Int32)) (uD : Nat) (uT : Nat) (uV : Nat) (uS : Nat) (uP : Nat) (a1 : Int32) (z : (Int32 × Int32)) (h : fX5_end E_x1 a1 = some z) : Mt l yX5_end cX5_end 3 (some .int) 1 22 D cI cB cS (lW uL uE uD uT uV uS uP L_x6 L_x7 ++ (eW cB uE aE E_x1 E_r0)) (lW uL uE uD uT uV uS uP L_x6 L_x7 ++ (eW cB uE aE z.2 E_r0)) [.ref uL, .int a1] (some (.int z.1)) := by
  refine entryI (by decide +kernel) rfl (Nat.le_of_ble_eq_true rfl) ?_
  intro p e s m below meth c A ls QQ R ar F hRet jP jD jS jl
  obtain ⟨hx, hb, hml, hown, hts, jK, hA, hf1, hf2⟩ := id F
  have jl : lv_has ls 3 [(0, .ref uL), (1, .int a1)] := jl
  unfold fX5_end at h
  refine lv_iload_n hx hb dX5_end_0 rfl (lv_at jl 1 rfl) ?_
  refine lv_iconst (v := (0 : Int32)) hx hb dX5_end_1 (by decide) ?_
  refine lv_aload_n hx hb dX5_end_2 rfl (lv_at jl 0 rfl) ?_
  refine va_get (D := D) (ci := 5) (v := .ref uE) (C := RX5) (T := TX5) (N := 8) hx hb hts in5 hown jK.1 jP 0 rfl rfl 0 (by decide) (hts _ w_16) (fun _ h9 => h9) rfl dX5_end_3 ?_
  refine va_get (D := D) (ci := 3) (v := .int E_x1) (C := RX3) (T := TX3) (N := 2) hx hb hts in3 hown jK.1 jP 1 rfl rfl 1 (by decide) (hts _ w_94) (fun _ h9 => h9) rfl dX5_end_6 ?_
  obtain ⟨t1, hc2, h⟩ := bd_some h
  refine call0 (As := [.int a1, .int (0 : Int32), .int E_x1]) (rest := []) (st1 := [.int t1]) F (kX5_isWithin l D cI cB cS  a1 (0 : Int32) E_x1 _ hc2 ) okX5_isWithin w_105 (by decide) (by decide) ⟨Nat.zero_le _, Nat.zero_le _⟩ jP jD jS rfl jl.1 rfl rfl (Nat.le_of_ble_eq_true rfl) dX5_end_9 (fun H locs jP jD jS => ?_)
  refine lv_if_ne (tgt := 17) hx hb dX5_end_12 (by decide) (fun c3 => ?_) (fun c3 => ?_)
  · have h := itn c3 h
    refine lv_aload_n hx hb dX5_end_17 rfl (lv_at jl 0 rfl) ?_
    refine va_get (D := D) (ci := 5) (v := .ref uE) (C := RX5) (T := TX5) (N := 8) hx hb hts in5 hown jK.1 jP 0 rfl rfl 0 (by decide) (hts _ w_16) (fun _ h9 => h9) rfl dX5_end_18 ?_
    refine va_get (D := D) (ci := 3) (v := .int E_x1) (C := RX3) (T := TX3) (N := 2) hx hb hts in3 hown jK.1 jP 1 rfl rfl 1 (by decide) (hts _ w_94) (fun _ h9 => h9) rfl dX5_end_21 ?_
    refine lv_istore_n (lv' := [(2, .int E_x1), (0, .ref uL), (1, .int a1)]) hx hb dX5_end_24 rfl jl (by decide) rfl (fun ls jl => ?_)
    refine lv_aload_n hx hb dX5_end_25 rfl (lv_at jl 1 rfl) ?_
    refine va_get (D := D) (ci := 5) (v := .ref uE) (C := RX5) (T := TX5) (N := 8) hx hb hts in5 hown jK.1 jP 0 rfl rfl 0 (by decide) (hts _ w_16) (fun _ h9 => h9) rfl dX5_end_26 ?_
    refine lv_iload_n hx hb dX5_end_29 rfl (lv_at jl 2 rfl) ?_
    refine va_put (D := D) (ci := 3) (v := .int a1) (ty := .int) (C := RX3) (T := TX3) (N := 2) hx hb hts in3 tyX3 tyX3_ok nmX3 hown jK.1 jP jD jS 1 rfl rfl 1 (by decide) (hts _ w_94) (fun _ h9 => h9) rfl (by decide +kernel) rfl rfl (Nat.le_of_ble_eq_true rfl) dX5_end_30 (fun H locs jP jD jS => ?_)
    have jP : va_P D vwCl (lW uL uE uD uT uV uS uP L_x6 L_x7 ++ (eW cB uE aE a1 E_r0)) H := jP
    have jD : va_D A (lW uL uE uD uT uV uS uP L_x6 L_x7 ++ (eW cB uE aE a1 E_r0)) := jD
    refine lv_iload_n hx hb dX5_end_33 rfl (lv_at jl 0 rfl) ?_
    obtain rfl := Option.some.inj h
    exact hRet _ _ _ _ jP jD jS dX5_end_34
  · have h := itp c3 h
    refine lv_iconst (v := (-1 : Int32)) hx hb dX5_end_15 (by decide) ?_
    obtain rfl := Option.some.inj h
    exact hRet _ _ _ _ jP jD jS dX5_end_16
theorem okX5_text : okV yX5_text cX5_text 2 (some .int) 0 := ⟨w_116, w_117, w_118, w_2, by decide, by decide, by decide +kernel⟩
def fX5_texta (D_x8 : Int32) (E_r0 : (Nat → Int32)) (E_x1 : Int32) (P_r0 : (Nat → Int32)) (P_r1 : (Nat → Int32)) (P_r2 : (Nat → Int32)) (P_r3 : (Nat → Int32)) (P_r4 : (Nat → Int32)) : Option (Int32 × Int32 × Int32 × Int32 × Int32 × Int32 × Int32 × Int32 × Int32 × Int32 × Int32 × (Nat → Int32) × (Nat → Int32) × (Nat → Int32) × (Nat → Int32) × (Nat → Int32) × Int32 × Int32 × Int32 × Int32 × Int32) :=
  bd (fX2_clear) (fun t1 => bd (fX0_readInto (D_x8) (E_r0) (E_x1) (P_r0) (P_r1) (P_r2) (P_r3) (P_r4) t1.1 t1.2.1 t1.2.2.1 t1.2.2.2.1 t1.2.2.2.2) (fun t3 => if t3.1 = (0 : Int32) then (some (t3.2.2.1, t3.1, t3.2.1, t3.2.2.1, t3.2.2.2.1, t3.2.2.2.2.1, t3.2.2.2.2.2.1, t3.2.2.2.2.2.2.1, t3.2.2.2.2.2.2.2.1, (0 : Int32), t3.1, t3.2.2.2.2.2.2.2.2.1, t3.2.2.2.2.2.2.2.2.2.1, t3.2.2.2.2.2.2.2.2.2.2.1, t3.2.2.2.2.2.2.2.2.2.2.2.1, t3.2.2.2.2.2.2.2.2.2.2.2.2.1, t3.2.2.2.2.2.2.2.2.2.2.2.2.2.1, t3.2.2.2.2.2.2.2.2.2.2.2.2.2.2.1, t3.2.2.2.2.2.2.2.2.2.2.2.2.2.2.2.1, t3.2.2.2.2.2.2.2.2.2.2.2.2.2.2.2.2.1, t3.2.2.2.2.2.2.2.2.2.2.2.2.2.2.2.2.2)) else (some (((-10 : Int32) - t3.2.1), t3.1, t3.2.1, t3.2.2.1, t3.2.2.2.1, t3.2.2.2.2.1, t3.2.2.2.2.2.1, t3.2.2.2.2.2.2.1, t3.2.2.2.2.2.2.2.1, (0 : Int32), t3.1, t3.2.2.2.2.2.2.2.2.1, t3.2.2.2.2.2.2.2.2.2.1, t3.2.2.2.2.2.2.2.2.2.2.1, t3.2.2.2.2.2.2.2.2.2.2.2.1, t3.2.2.2.2.2.2.2.2.2.2.2.2.1, t3.2.2.2.2.2.2.2.2.2.2.2.2.2.1, t3.2.2.2.2.2.2.2.2.2.2.2.2.2.2.1, t3.2.2.2.2.2.2.2.2.2.2.2.2.2.2.2.1, t3.2.2.2.2.2.2.2.2.2.2.2.2.2.2.2.2.1, t3.2.2.2.2.2.2.2.2.2.2.2.2.2.2.2.2.2))))
set_option maxRecDepth 100000 in
set_option maxHeartbeats 4000000 in
theorem kX5_texta (l : Launch) (D : va_G) (cI cB cS : ClassId) (uL : Nat) (L_x6 : Int32) (L_x7 : Int32) (uE : Nat) (aE : Nat → Nat) (E_x1 : Int32) (E_r0 : (Nat → Int32)) (uD : Nat) (D_x1 : Int32) (D_x2 : Int32) (D_x3 : Int32) (D_x4 : Int32) (D_x5 : Int32) (D_x6 : Int32) (D_x7 : Int32) (D_x8 : Int32) (uS : Nat) (aS : Nat → Nat) (S_x5 : Int32) (S_x6 : Int32) (S_x7 : Int32) (S_x8 : Int32) (S_x9 : Int32) (S_r0 : (Nat → Int32)) (S_r1 : (Nat → Int32)) (S_r2 : (Nat → Int32)) (S_r3 : (Nat → Int32)) (S_r4 : (Nat → Int32)) (uP : Nat) (aP : Nat → Nat) (P_x5 : Int32) (P_x6 : Int32) (P_x7 : Int32) (P_x8 : Int32) (P_x9 : Int32) (P_r0 : (Nat → Int32)) (P_r1 : (Nat → Int32)) (P_r2 : (Nat → Int32)) (P_r3 : (Nat → Int32)) (P_r4 : (Nat → Int32)) (uT : Nat) (uV : Nat) (z : (Int32 × Int32 × Int32 × Int32 × Int32 × Int32 × Int32 × Int32 × Int32 × Int32 × Int32 × (Nat → Int32) × (Nat → Int32) × (Nat → Int32) × (Nat → Int32) × (Nat → Int32) × Int32 × Int32 × Int32 × Int32 × Int32)) (h : fX5_texta D_x8 E_r0 E_x1 P_r0 P_r1 P_r2 P_r3 P_r4 = some z) (hf : z.2.2.2.2.2.2.2.2.2.2.1 = (0 : Int32)) : Mt l yX5_text cX5_text 2 (some .int) 6 135 D cI cB cS (lW uL uE uD uT uV uS uP L_x6 L_x7 ++ (eW cB uE aE E_x1 E_r0 ++ (dW uD uE D_x1 D_x2 D_x3 D_x4 D_x5 D_x6 D_x7 D_x8 ++ (sW cI uS aS S_x5 S_x6 S_x7 S_x8 S_x9 S_r0 S_r1 S_r2 S_r3 S_r4 ++ (sW cI uP aP P_x5 P_x6 P_x7 P_x8 P_x9 P_r0 P_r1 P_r2 P_r3 P_r4))))) (lW uL uE uD uT uV uP uS z.2.2.2.2.2.2.2.2.2.2.1 L_x7 ++ (eW cB uE aE z.2.2.2.2.2.2.2.2.2.1 E_r0 ++ (dW uD uE z.2.1 z.2.2.1 z.2.2.2.1 z.2.2.2.2.1 z.2.2.2.2.2.1 z.2.2.2.2.2.2.1 z.2.2.2.2.2.2.2.1 z.2.2.2.2.2.2.2.2.1 ++ (sW cI uS aS S_x5 S_x6 S_x7 S_x8 S_x9 S_r0 S_r1 S_r2 S_r3 S_r4 ++ (sW cI uP aP z.2.2.2.2.2.2.2.2.2.2.2.2.2.2.2.2.1 z.2.2.2.2.2.2.2.2.2.2.2.2.2.2.2.2.2.1 z.2.2.2.2.2.2.2.2.2.2.2.2.2.2.2.2.2.2.1 z.2.2.2.2.2.2.2.2.2.2.2.2.2.2.2.2.2.2.2.1 z.2.2.2.2.2.2.2.2.2.2.2.2.2.2.2.2.2.2.2.2 z.2.2.2.2.2.2.2.2.2.2.2.1 z.2.2.2.2.2.2.2.2.2.2.2.2.1 z.2.2.2.2.2.2.2.2.2.2.2.2.2.1 z.2.2.2.2.2.2.2.2.2.2.2.2.2.2.1 z.2.2.2.2.2.2.2.2.2.2.2.2.2.2.2.1))))) [.ref uL] (some (.int z.1)) := by
  refine entryI (by decide +kernel) rfl (Nat.le_of_ble_eq_true rfl) ?_
  intro p e s m below meth c A ls QQ R ar F hRet jP jD jS jl
  obtain ⟨hx, hb, hml, hown, hts, jK, hA, hf1, hf2⟩ := id F
  have jl : lv_has ls 2 [(0, .ref uL)] := jl
  unfold fX5_texta at h
  refine lv_aload_n hx hb dX5_text_0 rfl (lv_at jl 0 rfl) ?_
  refine va_get (D := D) (ci := 5) (v := .ref uP) (C := RX5) (T := TX5) (N := 8) hx hb hts in5 hown jK.1 jP 0 rfl rfl 5 (by decide) (hts _ w_33) (fun _ h9 => h9) rfl dX5_text_1 ?_
  obtain ⟨t1, hc2, h⟩ := bd_some h
  refine callP (wc := (sW cI uP aP P_x5 P_x6 P_x7 P_x8 P_x9 P_r0 P_r1 P_r2 P_r3 P_r4)) (wr := (lW uL uE uD uT uV uS uP L_x6 L_x7 ++ (eW cB uE aE E_x1 E_r0 ++ (dW uD uE D_x1 D_x2 D_x3 D_x4 D_x5 D_x6 D_x7 D_x8 ++ (sW cI uS aS S_x5 S_x6 S_x7 S_x8 S_x9 S_r0 S_r1 S_r2 S_r3 S_r4))))) (w1 := (sW cI uP aP t1.1 t1.2.1 t1.2.2.1 t1.2.2.2.1 t1.2.2.2.2 P_r0 P_r1 P_r2 P_r3 P_r4)) (ws1 := (lW uL uE uD uT uV uS uP L_x6 L_x7 ++ (eW cB uE aE E_x1 E_r0 ++ (dW uD uE D_x1 D_x2 D_x3 D_x4 D_x5 D_x6 D_x7 D_x8 ++ (sW cI uS aS S_x5 S_x6 S_x7 S_x8 S_x9 S_r0 S_r1 S_r2 S_r3 S_r4 ++ (sW cI uP aP t1.1 t1.2.1 t1.2.2.1 t1.2.2.2.1 t1.2.2.2.2 P_r0 P_r1 P_r2 P_r3 P_r4)))))) (As := []) (rest := []) (st1 := []) 0 [10, 11, 12, 13, 14, 15] [0, 1, 2, 3, 4, 5, 6, 7, 8, 9] [0, 1, 2, 3, 4, 5, 6, 7, 8, 9, 10, 11, 12, 13, 14, 15] F (kX2_clear l D cI cB cS uP aP P_x5 P_x6 P_x7 P_x8 P_x9 P_r0 P_r1 P_r2 P_r3 P_r4  _ hc2 ) okX2_clear w_64 (by decide) (by decide) ⟨Nat.zero_le _, Nat.zero_le _⟩ rfl rfl rfl jP jD jS rfl jl.1 rfl rfl (Nat.le_of_ble_eq_true rfl) dX5_text_4 rfl rfl (by decide) (by decide) (by decide) rfl (by decide) (fun H locs jP jD jS => ?_)
  refine lv_aload_n hx hb dX5_text_7 rfl (lv_at jl 0 rfl) ?_
  refine va_get (D := D) (ci := 5) (v := .ref uD) (C := RX5) (T := TX5) (N := 8) hx hb hts in5 hown jK.1 jP 0 rfl rfl 1 (by decide) (hts _ w_20) (fun _ h9 => h9) rfl dX5_text_8 ?_
  refine lv_aload_n hx hb dX5_text_11 rfl (lv_at jl 0 rfl) ?_
  refine va_get (D := D) (ci := 5) (v := .ref uP) (C := RX5) (T := TX5) (N := 8) hx hb hts in5 hown jK.1 jP 0 rfl rfl 5 (by decide) (hts _ w_33) (fun _ h9 => h9) rfl dX5_text_12 ?_
  obtain ⟨t3, hc4, h⟩ := bd_some h
  refine callP (wc := (dW uD uE D_x1 D_x2 D_x3 D_x4 D_x5 D_x6 D_x7 D_x8 ++ (eW cB uE aE E_x1 E_r0 ++ (sW cI uP aP t1.1 t1.2.1 t1.2.2.1 t1.2.2.2.1 t1.2.2.2.2 P_r0 P_r1 P_r2 P_r3 P_r4)))) (wr := (lW uL uE uD uT uV uS uP L_x6 L_x7 ++ (sW cI uS aS S_x5 S_x6 S_x7 S_x8 S_x9 S_r0 S_r1 S_r2 S_r3 S_r4))) (w1 := (dW uD uE t3.1 t3.2.1 t3.2.2.1 t3.2.2.2.1 t3.2.2.2.2.1 t3.2.2.2.2.2.1 t3.2.2.2.2.2.2.1 t3.2.2.2.2.2.2.2.1 ++ (eW cB uE aE E_x1 E_r0 ++ (sW cI uP aP t3.2.2.2.2.2.2.2.2.2.2.2.2.2.1 t3.2.2.2.2.2.2.2.2.2.2.2.2.2.2.1 t3.2.2.2.2.2.2.2.2.2.2.2.2.2.2.2.1 t3.2.2.2.2.2.2.2.2.2.2.2.2.2.2.2.2.1 t3.2.2.2.2.2.2.2.2.2.2.2.2.2.2.2.2.2 t3.2.2.2.2.2.2.2.2.1 t3.2.2.2.2.2.2.2.2.2.1 t3.2.2.2.2.2.2.2.2.2.2.1 t3.2.2.2.2.2.2.2.2.2.2.2.1 t3.2.2.2.2.2.2.2.2.2.2.2.2.1)))) (ws1 := (lW uL uE uD uT uV uS uP L_x6 L_x7 ++ (eW cB uE aE E_x1 E_r0 ++ (dW uD uE t3.1 t3.2.1 t3.2.2.1 t3.2.2.2.1 t3.2.2.2.2.1 t3.2.2.2.2.2.1 t3.2.2.2.2.2.2.1 t3.2.2.2.2.2.2.2.1 ++ (sW cI uS aS S_x5 S_x6 S_x7 S_x8 S_x9 S_r0 S_r1 S_r2 S_r3 S_r4 ++ (sW cI uP aP t3.2.2.2.2.2.2.2.2.2.2.2.2.2.1 t3.2.2.2.2.2.2.2.2.2.2.2.2.2.2.1 t3.2.2.2.2.2.2.2.2.2.2.2.2.2.2.2.1 t3.2.2.2.2.2.2.2.2.2.2.2.2.2.2.2.2.1 t3.2.2.2.2.2.2.2.2.2.2.2.2.2.2.2.2.2 t3.2.2.2.2.2.2.2.2.1 t3.2.2.2.2.2.2.2.2.2.1 t3.2.2.2.2.2.2.2.2.2.2.1 t3.2.2.2.2.2.2.2.2.2.2.2.1 t3.2.2.2.2.2.2.2.2.2.2.2.2.1)))))) (As := [.ref uP]) (rest := []) (st1 := []) 0 [3, 1, 2, 10, 11, 12, 13, 14, 15] [0, 4, 5, 6, 7, 8, 9] [0, 8, 9, 7, 1, 2, 3, 4, 5, 6, 10, 11, 12, 13, 14, 15] F (kX0_readInto l D cI cB cS uD D_x1 D_x2 D_x3 D_x4 D_x5 D_x6 D_x7 D_x8 uE aE E_x1 E_r0 uP aP t1.1 t1.2.1 t1.2.2.1 t1.2.2.2.1 t1.2.2.2.2 P_r0 P_r1 P_r2 P_r3 P_r4  _ hc4 ) okX0_readInto w_122 (by decide) (by decide) ⟨Nat.zero_le _, Nat.zero_le _⟩ rfl rfl rfl jP jD jS rfl jl.1 rfl rfl (Nat.le_of_ble_eq_true rfl) dX5_text_15 rfl rfl (by decide) (by decide) (by decide) rfl (by decide) (fun H locs jP jD jS => ?_)
  refine lv_aload_n hx hb dX5_text_18 rfl (lv_at jl 0 rfl) ?_
  refine va_get (D := D) (ci := 5) (v := .ref uE) (C := RX5) (T := TX5) (N := 8) hx hb hts in5 hown jK.1 jP 0 rfl rfl 0 (by decide) (hts _ w_16) (fun _ h9 => h9) rfl dX5_text_19 ?_
  refine lv_iconst (v := (0 : Int32)) hx hb dX5_text_22 (by decide) ?_
  refine va_put (D := D) (ci := 3) (v := .int (0 : Int32)) (ty := .int) (C := RX3) (T := TX3) (N := 2) hx hb hts in3 tyX3 tyX3_ok nmX3 hown jK.1 jP jD jS 1 rfl rfl 1 (by decide) (hts _ w_94) (fun _ h9 => h9) rfl (by decide +kernel) rfl rfl (Nat.le_of_ble_eq_true rfl) dX5_text_23 (fun H locs jP jD jS => ?_)
  have jP : va_P D vwCl (lW uL uE uD uT uV uS uP L_x6 L_x7 ++ (eW cB uE aE (0 : Int32) E_r0 ++ (dW uD uE t3.1 t3.2.1 t3.2.2.1 t3.2.2.2.1 t3.2.2.2.2.1 t3.2.2.2.2.2.1 t3.2.2.2.2.2.2.1 t3.2.2.2.2.2.2.2.1 ++ (sW cI uS aS S_x5 S_x6 S_x7 S_x8 S_x9 S_r0 S_r1 S_r2 S_r3 S_r4 ++ (sW cI uP aP t3.2.2.2.2.2.2.2.2.2.2.2.2.2.1 t3.2.2.2.2.2.2.2.2.2.2.2.2.2.2.1 t3.2.2.2.2.2.2.2.2.2.2.2.2.2.2.2.1 t3.2.2.2.2.2.2.2.2.2.2.2.2.2.2.2.2.1 t3.2.2.2.2.2.2.2.2.2.2.2.2.2.2.2.2.2 t3.2.2.2.2.2.2.2.2.1 t3.2.2.2.2.2.2.2.2.2.1 t3.2.2.2.2.2.2.2.2.2.2.1 t3.2.2.2.2.2.2.2.2.2.2.2.1 t3.2.2.2.2.2.2.2.2.2.2.2.2.1))))) H := jP
  have jD : va_D A (lW uL uE uD uT uV uS uP L_x6 L_x7 ++ (eW cB uE aE (0 : Int32) E_r0 ++ (dW uD uE t3.1 t3.2.1 t3.2.2.1 t3.2.2.2.1 t3.2.2.2.2.1 t3.2.2.2.2.2.1 t3.2.2.2.2.2.2.1 t3.2.2.2.2.2.2.2.1 ++ (sW cI uS aS S_x5 S_x6 S_x7 S_x8 S_x9 S_r0 S_r1 S_r2 S_r3 S_r4 ++ (sW cI uP aP t3.2.2.2.2.2.2.2.2.2.2.2.2.2.1 t3.2.2.2.2.2.2.2.2.2.2.2.2.2.2.1 t3.2.2.2.2.2.2.2.2.2.2.2.2.2.2.2.1 t3.2.2.2.2.2.2.2.2.2.2.2.2.2.2.2.2.1 t3.2.2.2.2.2.2.2.2.2.2.2.2.2.2.2.2.2 t3.2.2.2.2.2.2.2.2.1 t3.2.2.2.2.2.2.2.2.2.1 t3.2.2.2.2.2.2.2.2.2.2.1 t3.2.2.2.2.2.2.2.2.2.2.2.1 t3.2.2.2.2.2.2.2.2.2.2.2.2.1))))) := jD
  refine lv_aload_n hx hb dX5_text_26 rfl (lv_at jl 0 rfl) ?_
  refine lv_aload_n hx hb dX5_text_27 rfl (lv_at jl 0 rfl) ?_
  refine va_get (D := D) (ci := 5) (v := .ref uD) (C := RX5) (T := TX5) (N := 8) hx hb hts in5 hown jK.1 jP 0 rfl rfl 1 (by decide) (hts _ w_20) (fun _ h9 => h9) rfl dX5_text_28 ?_
  refine va_get (D := D) (ci := 0) (v := .int t3.1) (C := RX0) (T := TX0) (N := 9) hx hb hts in0 hown jK.1 jP 3 rfl rfl 1 (by decide) (hts _ w_119) (fun _ h9 => h9) rfl dX5_text_31 ?_
  refine va_put (D := D) (ci := 5) (v := .int t3.1) (ty := .int) (C := RX5) (T := TX5) (N := 8) hx hb hts in5 tyX5 tyX5_ok nmX5 hown jK.1 jP jD jS 0 rfl rfl 6 (by decide) (hts _ w_34) (fun _ h9 => h9) rfl (by decide +kernel) rfl rfl (Nat.le_of_ble_eq_true rfl) dX5_text_34 (fun H locs jP jD jS => ?_)
  have jP : va_P D vwCl (lW uL uE uD uT uV uS uP t3.1 L_x7 ++ (eW cB uE aE (0 : Int32) E_r0 ++ (dW uD uE t3.1 t3.2.1 t3.2.2.1 t3.2.2.2.1 t3.2.2.2.2.1 t3.2.2.2.2.2.1 t3.2.2.2.2.2.2.1 t3.2.2.2.2.2.2.2.1 ++ (sW cI uS aS S_x5 S_x6 S_x7 S_x8 S_x9 S_r0 S_r1 S_r2 S_r3 S_r4 ++ (sW cI uP aP t3.2.2.2.2.2.2.2.2.2.2.2.2.2.1 t3.2.2.2.2.2.2.2.2.2.2.2.2.2.2.1 t3.2.2.2.2.2.2.2.2.2.2.2.2.2.2.2.1 t3.2.2.2.2.2.2.2.2.2.2.2.2.2.2.2.2.1 t3.2.2.2.2.2.2.2.2.2.2.2.2.2.2.2.2.2 t3.2.2.2.2.2.2.2.2.1 t3.2.2.2.2.2.2.2.2.2.1 t3.2.2.2.2.2.2.2.2.2.2.1 t3.2.2.2.2.2.2.2.2.2.2.2.1 t3.2.2.2.2.2.2.2.2.2.2.2.2.1))))) H := jP
  have jD : va_D A (lW uL uE uD uT uV uS uP t3.1 L_x7 ++ (eW cB uE aE (0 : Int32) E_r0 ++ (dW uD uE t3.1 t3.2.1 t3.2.2.1 t3.2.2.2.1 t3.2.2.2.2.1 t3.2.2.2.2.2.1 t3.2.2.2.2.2.2.1 t3.2.2.2.2.2.2.2.1 ++ (sW cI uS aS S_x5 S_x6 S_x7 S_x8 S_x9 S_r0 S_r1 S_r2 S_r3 S_r4 ++ (sW cI uP aP t3.2.2.2.2.2.2.2.2.2.2.2.2.2.1 t3.2.2.2.2.2.2.2.2.2.2.2.2.2.2.1 t3.2.2.2.2.2.2.2.2.2.2.2.2.2.2.2.1 t3.2.2.2.2.2.2.2.2.2.2.2.2.2.2.2.2.1 t3.2.2.2.2.2.2.2.2.2.2.2.2.2.2.2.2.2 t3.2.2.2.2.2.2.2.2.1 t3.2.2.2.2.2.2.2.2.2.1 t3.2.2.2.2.2.2.2.2.2.2.1 t3.2.2.2.2.2.2.2.2.2.2.2.1 t3.2.2.2.2.2.2.2.2.2.2.2.2.1))))) := jD
  refine lv_aload_n hx hb dX5_text_37 rfl (lv_at jl 0 rfl) ?_
  refine va_get (D := D) (ci := 5) (v := .int t3.1) (C := RX5) (T := TX5) (N := 8) hx hb hts in5 hown jK.1 jP 0 rfl rfl 6 (by decide) (hts _ w_34) (fun _ h9 => h9) rfl dX5_text_38 ?_
  refine lv_if_eq (tgt := 55) hx hb dX5_text_41 (by decide) (fun c5 => ?_) (fun c5 => ?_)
  · have h := itp c5 h
    refine lv_aload_n hx hb dX5_text_55 rfl (lv_at jl 0 rfl) ?_
    refine va_get (D := D) (ci := 5) (v := .ref uS) (C := RX5) (T := TX5) (N := 8) hx hb hts in5 hown jK.1 jP 0 rfl rfl 4 (by decide) (hts _ w_32) (fun _ h9 => h9) rfl dX5_text_56 ?_
    refine lv_astore_n (lv' := [(1, .ref uS), (0, .ref uL)]) hx hb dX5_text_59 rfl jl (by decide) rfl (fun ls jl => ?_)
    refine lv_aload_n hx hb dX5_text_60 rfl (lv_at jl 1 rfl) ?_
    refine lv_aload_n hx hb dX5_text_61 rfl (lv_at jl 1 rfl) ?_
    refine va_get (D := D) (ci := 5) (v := .ref uP) (C := RX5) (T := TX5) (N := 8) hx hb hts in5 hown jK.1 jP 0 rfl rfl 5 (by decide) (hts _ w_33) (fun _ h9 => h9) rfl dX5_text_62 ?_
    refine va_put (D := D) (ci := 5) (v := .ref uP) (ty := .object "LemonMarket$Stock") (C := RX5) (T := TX5) (N := 8) hx hb hts in5 tyX5 tyX5_ok nmX5 hown jK.1 jP jD jS 0 rfl rfl 4 (by decide) (hts _ w_32) (fun _ h9 => h9) rfl (by decide +kernel) rfl rfl (Nat.le_of_ble_eq_true rfl) dX5_text_65 (fun H locs jP jD jS => ?_)
    have jP : va_P D vwCl (lW uL uE uD uT uV uP uP t3.1 L_x7 ++ (eW cB uE aE (0 : Int32) E_r0 ++ (dW uD uE t3.1 t3.2.1 t3.2.2.1 t3.2.2.2.1 t3.2.2.2.2.1 t3.2.2.2.2.2.1 t3.2.2.2.2.2.2.1 t3.2.2.2.2.2.2.2.1 ++ (sW cI uS aS S_x5 S_x6 S_x7 S_x8 S_x9 S_r0 S_r1 S_r2 S_r3 S_r4 ++ (sW cI uP aP t3.2.2.2.2.2.2.2.2.2.2.2.2.2.1 t3.2.2.2.2.2.2.2.2.2.2.2.2.2.2.1 t3.2.2.2.2.2.2.2.2.2.2.2.2.2.2.2.1 t3.2.2.2.2.2.2.2.2.2.2.2.2.2.2.2.2.1 t3.2.2.2.2.2.2.2.2.2.2.2.2.2.2.2.2.2 t3.2.2.2.2.2.2.2.2.1 t3.2.2.2.2.2.2.2.2.2.1 t3.2.2.2.2.2.2.2.2.2.2.1 t3.2.2.2.2.2.2.2.2.2.2.2.1 t3.2.2.2.2.2.2.2.2.2.2.2.2.1))))) H := jP
    have jD : va_D A (lW uL uE uD uT uV uP uP t3.1 L_x7 ++ (eW cB uE aE (0 : Int32) E_r0 ++ (dW uD uE t3.1 t3.2.1 t3.2.2.1 t3.2.2.2.1 t3.2.2.2.2.1 t3.2.2.2.2.2.1 t3.2.2.2.2.2.2.1 t3.2.2.2.2.2.2.2.1 ++ (sW cI uS aS S_x5 S_x6 S_x7 S_x8 S_x9 S_r0 S_r1 S_r2 S_r3 S_r4 ++ (sW cI uP aP t3.2.2.2.2.2.2.2.2.2.2.2.2.2.1 t3.2.2.2.2.2.2.2.2.2.2.2.2.2.2.1 t3.2.2.2.2.2.2.2.2.2.2.2.2.2.2.2.1 t3.2.2.2.2.2.2.2.2.2.2.2.2.2.2.2.2.1 t3.2.2.2.2.2.2.2.2.2.2.2.2.2.2.2.2.2 t3.2.2.2.2.2.2.2.2.1 t3.2.2.2.2.2.2.2.2.2.1 t3.2.2.2.2.2.2.2.2.2.2.1 t3.2.2.2.2.2.2.2.2.2.2.2.1 t3.2.2.2.2.2.2.2.2.2.2.2.2.1))))) := jD
    refine lv_aload_n hx hb dX5_text_68 rfl (lv_at jl 1 rfl) ?_
    refine lv_aload_n hx hb dX5_text_69 rfl (lv_at jl 0 rfl) ?_
    refine va_put (D := D) (ci := 5) (v := .ref uS) (ty := .object "LemonMarket$Stock") (C := RX5) (T := TX5) (N := 8) hx hb hts in5 tyX5 tyX5_ok nmX5 hown jK.1 jP jD jS 0 rfl rfl 5 (by decide) (hts _ w_33) (fun _ h9 => h9) rfl (by decide +kernel) rfl rfl (Nat.le_of_ble_eq_true rfl) dX5_text_70 (fun H locs jP jD jS => ?_)
    have jP : va_P D vwCl (lW uL uE uD uT uV uP uS t3.1 L_x7 ++ (eW cB uE aE (0 : Int32) E_r0 ++ (dW uD uE t3.1 t3.2.1 t3.2.2.1 t3.2.2.2.1 t3.2.2.2.2.1 t3.2.2.2.2.2.1 t3.2.2.2.2.2.2.1 t3.2.2.2.2.2.2.2.1 ++ (sW cI uS aS S_x5 S_x6 S_x7 S_x8 S_x9 S_r0 S_r1 S_r2 S_r3 S_r4 ++ (sW cI uP aP t3.2.2.2.2.2.2.2.2.2.2.2.2.2.1 t3.2.2.2.2.2.2.2.2.2.2.2.2.2.2.1 t3.2.2.2.2.2.2.2.2.2.2.2.2.2.2.2.1 t3.2.2.2.2.2.2.2.2.2.2.2.2.2.2.2.2.1 t3.2.2.2.2.2.2.2.2.2.2.2.2.2.2.2.2.2 t3.2.2.2.2.2.2.2.2.1 t3.2.2.2.2.2.2.2.2.2.1 t3.2.2.2.2.2.2.2.2.2.2.1 t3.2.2.2.2.2.2.2.2.2.2.2.1 t3.2.2.2.2.2.2.2.2.2.2.2.2.1))))) H := jP
    have jD : va_D A (lW uL uE uD uT uV uP uS t3.1 L_x7 ++ (eW cB uE aE (0 : Int32) E_r0 ++ (dW uD uE t3.1 t3.2.1 t3.2.2.1 t3.2.2.2.1 t3.2.2.2.2.1 t3.2.2.2.2.2.1 t3.2.2.2.2.2.2.1 t3.2.2.2.2.2.2.2.1 ++ (sW cI uS aS S_x5 S_x6 S_x7 S_x8 S_x9 S_r0 S_r1 S_r2 S_r3 S_r4 ++ (sW cI uP aP t3.2.2.2.2.2.2.2.2.2.2.2.2.2.1 t3.2.2.2.2.2.2.2.2.2.2.2.2.2.2.1 t3.2.2.2.2.2.2.2.2.2.2.2.2.2.2.2.1 t3.2.2.2.2.2.2.2.2.2.2.2.2.2.2.2.2.1 t3.2.2.2.2.2.2.2.2.2.2.2.2.2.2.2.2.2 t3.2.2.2.2.2.2.2.2.1 t3.2.2.2.2.2.2.2.2.2.1 t3.2.2.2.2.2.2.2.2.2.2.1 t3.2.2.2.2.2.2.2.2.2.2.2.1 t3.2.2.2.2.2.2.2.2.2.2.2.2.1))))) := jD
    refine lv_aload_n hx hb dX5_text_73 rfl (lv_at jl 1 rfl) ?_
    refine va_get (D := D) (ci := 5) (v := .ref uD) (C := RX5) (T := TX5) (N := 8) hx hb hts in5 hown jK.1 jP 0 rfl rfl 1 (by decide) (hts _ w_20) (fun _ h9 => h9) rfl dX5_text_74 ?_
    refine va_get (D := D) (ci := 0) (v := .int t3.2.2.1) (C := RX0) (T := TX0) (N := 9) hx hb hts in0 hown jK.1 jP 3 rfl rfl 3 (by decide) (hts _ w_121) (fun _ h9 => h9) rfl dX5_text_77 ?_
    obtain rfl := Option.some.inj h
    exact hRet _ _ _ _ jP jD jS dX5_text_80
  · have h := itn c5 h
    refine lv_bipush (v := (-10 : Int32)) hx hb dX5_text_44 (by decide) ?_
    refine lv_aload_n hx hb dX5_text_46 rfl (lv_at jl 0 rfl) ?_
    refine va_get (D := D) (ci := 5) (v := .ref uD) (C := RX5) (T := TX5) (N := 8) hx hb hts in5 hown jK.1 jP 0 rfl rfl 1 (by decide) (hts _ w_20) (fun _ h9 => h9) rfl dX5_text_47 ?_
    refine va_get (D := D) (ci := 0) (v := .int t3.2.1) (C := RX0) (T := TX0) (N := 9) hx hb hts in0 hown jK.1 jP 3 rfl rfl 2 (by decide) (hts _ w_120) (fun _ h9 => h9) rfl dX5_text_50 ?_
    refine lv_isub hx hb dX5_text_53 ?_
    obtain rfl := Option.some.inj h
    exact absurd hf c5
def fX5_textb (D_x8 : Int32) (E_r0 : (Nat → Int32)) (E_x1 : Int32) (P_r0 : (Nat → Int32)) (P_r1 : (Nat → Int32)) (P_r2 : (Nat → Int32)) (P_r3 : (Nat → Int32)) (P_r4 : (Nat → Int32)) : Option (Int32 × Int32 × Int32 × Int32 × Int32 × Int32 × Int32 × Int32 × Int32 × Int32 × Int32 × (Nat → Int32) × (Nat → Int32) × (Nat → Int32) × (Nat → Int32) × (Nat → Int32) × Int32 × Int32 × Int32 × Int32 × Int32) :=
  bd (fX2_clear) (fun t1 => bd (fX0_readInto (D_x8) (E_r0) (E_x1) (P_r0) (P_r1) (P_r2) (P_r3) (P_r4) t1.1 t1.2.1 t1.2.2.1 t1.2.2.2.1 t1.2.2.2.2) (fun t3 => if t3.1 = (0 : Int32) then (some (t3.2.2.1, t3.1, t3.2.1, t3.2.2.1, t3.2.2.2.1, t3.2.2.2.2.1, t3.2.2.2.2.2.1, t3.2.2.2.2.2.2.1, t3.2.2.2.2.2.2.2.1, (0 : Int32), t3.1, t3.2.2.2.2.2.2.2.2.1, t3.2.2.2.2.2.2.2.2.2.1, t3.2.2.2.2.2.2.2.2.2.2.1, t3.2.2.2.2.2.2.2.2.2.2.2.1, t3.2.2.2.2.2.2.2.2.2.2.2.2.1, t3.2.2.2.2.2.2.2.2.2.2.2.2.2.1, t3.2.2.2.2.2.2.2.2.2.2.2.2.2.2.1, t3.2.2.2.2.2.2.2.2.2.2.2.2.2.2.2.1, t3.2.2.2.2.2.2.2.2.2.2.2.2.2.2.2.2.1, t3.2.2.2.2.2.2.2.2.2.2.2.2.2.2.2.2.2)) else (some (((-10 : Int32) - t3.2.1), t3.1, t3.2.1, t3.2.2.1, t3.2.2.2.1, t3.2.2.2.2.1, t3.2.2.2.2.2.1, t3.2.2.2.2.2.2.1, t3.2.2.2.2.2.2.2.1, (0 : Int32), t3.1, t3.2.2.2.2.2.2.2.2.1, t3.2.2.2.2.2.2.2.2.2.1, t3.2.2.2.2.2.2.2.2.2.2.1, t3.2.2.2.2.2.2.2.2.2.2.2.1, t3.2.2.2.2.2.2.2.2.2.2.2.2.1, t3.2.2.2.2.2.2.2.2.2.2.2.2.2.1, t3.2.2.2.2.2.2.2.2.2.2.2.2.2.2.1, t3.2.2.2.2.2.2.2.2.2.2.2.2.2.2.2.1, t3.2.2.2.2.2.2.2.2.2.2.2.2.2.2.2.2.1, t3.2.2.2.2.2.2.2.2.2.2.2.2.2.2.2.2.2))))
set_option maxRecDepth 100000 in
set_option maxHeartbeats 4000000 in
theorem kX5_textb (l : Launch) (D : va_G) (cI cB cS : ClassId) (uL : Nat) (L_x6 : Int32) (L_x7 : Int32) (uE : Nat) (aE : Nat → Nat) (E_x1 : Int32) (E_r0 : (Nat → Int32)) (uD : Nat) (D_x1 : Int32) (D_x2 : Int32) (D_x3 : Int32) (D_x4 : Int32) (D_x5 : Int32) (D_x6 : Int32) (D_x7 : Int32) (D_x8 : Int32) (uS : Nat) (aS : Nat → Nat) (S_x5 : Int32) (S_x6 : Int32) (S_x7 : Int32) (S_x8 : Int32) (S_x9 : Int32) (S_r0 : (Nat → Int32)) (S_r1 : (Nat → Int32)) (S_r2 : (Nat → Int32)) (S_r3 : (Nat → Int32)) (S_r4 : (Nat → Int32)) (uP : Nat) (aP : Nat → Nat) (P_x5 : Int32) (P_x6 : Int32) (P_x7 : Int32) (P_x8 : Int32) (P_x9 : Int32) (P_r0 : (Nat → Int32)) (P_r1 : (Nat → Int32)) (P_r2 : (Nat → Int32)) (P_r3 : (Nat → Int32)) (P_r4 : (Nat → Int32)) (uT : Nat) (uV : Nat) (z : (Int32 × Int32 × Int32 × Int32 × Int32 × Int32 × Int32 × Int32 × Int32 × Int32 × Int32 × (Nat → Int32) × (Nat → Int32) × (Nat → Int32) × (Nat → Int32) × (Nat → Int32) × Int32 × Int32 × Int32 × Int32 × Int32)) (h : fX5_textb D_x8 E_r0 E_x1 P_r0 P_r1 P_r2 P_r3 P_r4 = some z) (hf : ¬ z.2.2.2.2.2.2.2.2.2.2.1 = (0 : Int32)) : Mt l yX5_text cX5_text 2 (some .int) 6 135 D cI cB cS (lW uL uE uD uT uV uS uP L_x6 L_x7 ++ (eW cB uE aE E_x1 E_r0 ++ (dW uD uE D_x1 D_x2 D_x3 D_x4 D_x5 D_x6 D_x7 D_x8 ++ (sW cI uS aS S_x5 S_x6 S_x7 S_x8 S_x9 S_r0 S_r1 S_r2 S_r3 S_r4 ++ (sW cI uP aP P_x5 P_x6 P_x7 P_x8 P_x9 P_r0 P_r1 P_r2 P_r3 P_r4))))) (lW uL uE uD uT uV uS uP z.2.2.2.2.2.2.2.2.2.2.1 L_x7 ++ (eW cB uE aE z.2.2.2.2.2.2.2.2.2.1 E_r0 ++ (dW uD uE z.2.1 z.2.2.1 z.2.2.2.1 z.2.2.2.2.1 z.2.2.2.2.2.1 z.2.2.2.2.2.2.1 z.2.2.2.2.2.2.2.1 z.2.2.2.2.2.2.2.2.1 ++ (sW cI uS aS S_x5 S_x6 S_x7 S_x8 S_x9 S_r0 S_r1 S_r2 S_r3 S_r4 ++ (sW cI uP aP z.2.2.2.2.2.2.2.2.2.2.2.2.2.2.2.2.1 z.2.2.2.2.2.2.2.2.2.2.2.2.2.2.2.2.2.1 z.2.2.2.2.2.2.2.2.2.2.2.2.2.2.2.2.2.2.1 z.2.2.2.2.2.2.2.2.2.2.2.2.2.2.2.2.2.2.2.1 z.2.2.2.2.2.2.2.2.2.2.2.2.2.2.2.2.2.2.2.2 z.2.2.2.2.2.2.2.2.2.2.2.1 z.2.2.2.2.2.2.2.2.2.2.2.2.1 z.2.2.2.2.2.2.2.2.2.2.2.2.2.1 z.2.2.2.2.2.2.2.2.2.2.2.2.2.2.1 z.2.2.2.2.2.2.2.2.2.2.2.2.2.2.2.1))))) [.ref uL] (some (.int z.1)) := by
  refine entryI (by decide +kernel) rfl (Nat.le_of_ble_eq_true rfl) ?_
  intro p e s m below meth c A ls QQ R ar F hRet jP jD jS jl
  obtain ⟨hx, hb, hml, hown, hts, jK, hA, hf1, hf2⟩ := id F
  have jl : lv_has ls 2 [(0, .ref uL)] := jl
  unfold fX5_textb at h
  refine lv_aload_n hx hb dX5_text_0 rfl (lv_at jl 0 rfl) ?_
  refine va_get (D := D) (ci := 5) (v := .ref uP) (C := RX5) (T := TX5) (N := 8) hx hb hts in5 hown jK.1 jP 0 rfl rfl 5 (by decide) (hts _ w_33) (fun _ h9 => h9) rfl dX5_text_1 ?_
  obtain ⟨t1, hc2, h⟩ := bd_some h
  refine callP (wc := (sW cI uP aP P_x5 P_x6 P_x7 P_x8 P_x9 P_r0 P_r1 P_r2 P_r3 P_r4)) (wr := (lW uL uE uD uT uV uS uP L_x6 L_x7 ++ (eW cB uE aE E_x1 E_r0 ++ (dW uD uE D_x1 D_x2 D_x3 D_x4 D_x5 D_x6 D_x7 D_x8 ++ (sW cI uS aS S_x5 S_x6 S_x7 S_x8 S_x9 S_r0 S_r1 S_r2 S_r3 S_r4))))) (w1 := (sW cI uP aP t1.1 t1.2.1 t1.2.2.1 t1.2.2.2.1 t1.2.2.2.2 P_r0 P_r1 P_r2 P_r3 P_r4)) (ws1 := (lW uL uE uD uT uV uS uP L_x6 L_x7 ++ (eW cB uE aE E_x1 E_r0 ++ (dW uD uE D_x1 D_x2 D_x3 D_x4 D_x5 D_x6 D_x7 D_x8 ++ (sW cI uS aS S_x5 S_x6 S_x7 S_x8 S_x9 S_r0 S_r1 S_r2 S_r3 S_r4 ++ (sW cI uP aP t1.1 t1.2.1 t1.2.2.1 t1.2.2.2.1 t1.2.2.2.2 P_r0 P_r1 P_r2 P_r3 P_r4)))))) (As := []) (rest := []) (st1 := []) 0 [10, 11, 12, 13, 14, 15] [0, 1, 2, 3, 4, 5, 6, 7, 8, 9] [0, 1, 2, 3, 4, 5, 6, 7, 8, 9, 10, 11, 12, 13, 14, 15] F (kX2_clear l D cI cB cS uP aP P_x5 P_x6 P_x7 P_x8 P_x9 P_r0 P_r1 P_r2 P_r3 P_r4  _ hc2 ) okX2_clear w_64 (by decide) (by decide) ⟨Nat.zero_le _, Nat.zero_le _⟩ rfl rfl rfl jP jD jS rfl jl.1 rfl rfl (Nat.le_of_ble_eq_true rfl) dX5_text_4 rfl rfl (by decide) (by decide) (by decide) rfl (by decide) (fun H locs jP jD jS => ?_)
  refine lv_aload_n hx hb dX5_text_7 rfl (lv_at jl 0 rfl) ?_
  refine va_get (D := D) (ci := 5) (v := .ref uD) (C := RX5) (T := TX5) (N := 8) hx hb hts in5 hown jK.1 jP 0 rfl rfl 1 (by decide) (hts _ w_20) (fun _ h9 => h9) rfl dX5_text_8 ?_
  refine lv_aload_n hx hb dX5_text_11 rfl (lv_at jl 0 rfl) ?_
  refine va_get (D := D) (ci := 5) (v := .ref uP) (C := RX5) (T := TX5) (N := 8) hx hb hts in5 hown jK.1 jP 0 rfl rfl 5 (by decide) (hts _ w_33) (fun _ h9 => h9) rfl dX5_text_12 ?_
  obtain ⟨t3, hc4, h⟩ := bd_some h
  refine callP (wc := (dW uD uE D_x1 D_x2 D_x3 D_x4 D_x5 D_x6 D_x7 D_x8 ++ (eW cB uE aE E_x1 E_r0 ++ (sW cI uP aP t1.1 t1.2.1 t1.2.2.1 t1.2.2.2.1 t1.2.2.2.2 P_r0 P_r1 P_r2 P_r3 P_r4)))) (wr := (lW uL uE uD uT uV uS uP L_x6 L_x7 ++ (sW cI uS aS S_x5 S_x6 S_x7 S_x8 S_x9 S_r0 S_r1 S_r2 S_r3 S_r4))) (w1 := (dW uD uE t3.1 t3.2.1 t3.2.2.1 t3.2.2.2.1 t3.2.2.2.2.1 t3.2.2.2.2.2.1 t3.2.2.2.2.2.2.1 t3.2.2.2.2.2.2.2.1 ++ (eW cB uE aE E_x1 E_r0 ++ (sW cI uP aP t3.2.2.2.2.2.2.2.2.2.2.2.2.2.1 t3.2.2.2.2.2.2.2.2.2.2.2.2.2.2.1 t3.2.2.2.2.2.2.2.2.2.2.2.2.2.2.2.1 t3.2.2.2.2.2.2.2.2.2.2.2.2.2.2.2.2.1 t3.2.2.2.2.2.2.2.2.2.2.2.2.2.2.2.2.2 t3.2.2.2.2.2.2.2.2.1 t3.2.2.2.2.2.2.2.2.2.1 t3.2.2.2.2.2.2.2.2.2.2.1 t3.2.2.2.2.2.2.2.2.2.2.2.1 t3.2.2.2.2.2.2.2.2.2.2.2.2.1)))) (ws1 := (lW uL uE uD uT uV uS uP L_x6 L_x7 ++ (eW cB uE aE E_x1 E_r0 ++ (dW uD uE t3.1 t3.2.1 t3.2.2.1 t3.2.2.2.1 t3.2.2.2.2.1 t3.2.2.2.2.2.1 t3.2.2.2.2.2.2.1 t3.2.2.2.2.2.2.2.1 ++ (sW cI uS aS S_x5 S_x6 S_x7 S_x8 S_x9 S_r0 S_r1 S_r2 S_r3 S_r4 ++ (sW cI uP aP t3.2.2.2.2.2.2.2.2.2.2.2.2.2.1 t3.2.2.2.2.2.2.2.2.2.2.2.2.2.2.1 t3.2.2.2.2.2.2.2.2.2.2.2.2.2.2.2.1 t3.2.2.2.2.2.2.2.2.2.2.2.2.2.2.2.2.1 t3.2.2.2.2.2.2.2.2.2.2.2.2.2.2.2.2.2 t3.2.2.2.2.2.2.2.2.1 t3.2.2.2.2.2.2.2.2.2.1 t3.2.2.2.2.2.2.2.2.2.2.1 t3.2.2.2.2.2.2.2.2.2.2.2.1 t3.2.2.2.2.2.2.2.2.2.2.2.2.1)))))) (As := [.ref uP]) (rest := []) (st1 := []) 0 [3, 1, 2, 10, 11, 12, 13, 14, 15] [0, 4, 5, 6, 7, 8, 9] [0, 8, 9, 7, 1, 2, 3, 4, 5, 6, 10, 11, 12, 13, 14, 15] F (kX0_readInto l D cI cB cS uD D_x1 D_x2 D_x3 D_x4 D_x5 D_x6 D_x7 D_x8 uE aE E_x1 E_r0 uP aP t1.1 t1.2.1 t1.2.2.1 t1.2.2.2.1 t1.2.2.2.2 P_r0 P_r1 P_r2 P_r3 P_r4  _ hc4 ) okX0_readInto w_122 (by decide) (by decide) ⟨Nat.zero_le _, Nat.zero_le _⟩ rfl rfl rfl jP jD jS rfl jl.1 rfl rfl (Nat.le_of_ble_eq_true rfl) dX5_text_15 rfl rfl (by decide) (by decide) (by decide) rfl (by decide) (fun H locs jP jD jS => ?_)
  refine lv_aload_n hx hb dX5_text_18 rfl (lv_at jl 0 rfl) ?_
  refine va_get (D := D) (ci := 5) (v := .ref uE) (C := RX5) (T := TX5) (N := 8) hx hb hts in5 hown jK.1 jP 0 rfl rfl 0 (by decide) (hts _ w_16) (fun _ h9 => h9) rfl dX5_text_19 ?_
  refine lv_iconst (v := (0 : Int32)) hx hb dX5_text_22 (by decide) ?_
  refine va_put (D := D) (ci := 3) (v := .int (0 : Int32)) (ty := .int) (C := RX3) (T := TX3) (N := 2) hx hb hts in3 tyX3 tyX3_ok nmX3 hown jK.1 jP jD jS 1 rfl rfl 1 (by decide) (hts _ w_94) (fun _ h9 => h9) rfl (by decide +kernel) rfl rfl (Nat.le_of_ble_eq_true rfl) dX5_text_23 (fun H locs jP jD jS => ?_)
  have jP : va_P D vwCl (lW uL uE uD uT uV uS uP L_x6 L_x7 ++ (eW cB uE aE (0 : Int32) E_r0 ++ (dW uD uE t3.1 t3.2.1 t3.2.2.1 t3.2.2.2.1 t3.2.2.2.2.1 t3.2.2.2.2.2.1 t3.2.2.2.2.2.2.1 t3.2.2.2.2.2.2.2.1 ++ (sW cI uS aS S_x5 S_x6 S_x7 S_x8 S_x9 S_r0 S_r1 S_r2 S_r3 S_r4 ++ (sW cI uP aP t3.2.2.2.2.2.2.2.2.2.2.2.2.2.1 t3.2.2.2.2.2.2.2.2.2.2.2.2.2.2.1 t3.2.2.2.2.2.2.2.2.2.2.2.2.2.2.2.1 t3.2.2.2.2.2.2.2.2.2.2.2.2.2.2.2.2.1 t3.2.2.2.2.2.2.2.2.2.2.2.2.2.2.2.2.2 t3.2.2.2.2.2.2.2.2.1 t3.2.2.2.2.2.2.2.2.2.1 t3.2.2.2.2.2.2.2.2.2.2.1 t3.2.2.2.2.2.2.2.2.2.2.2.1 t3.2.2.2.2.2.2.2.2.2.2.2.2.1))))) H := jP
  have jD : va_D A (lW uL uE uD uT uV uS uP L_x6 L_x7 ++ (eW cB uE aE (0 : Int32) E_r0 ++ (dW uD uE t3.1 t3.2.1 t3.2.2.1 t3.2.2.2.1 t3.2.2.2.2.1 t3.2.2.2.2.2.1 t3.2.2.2.2.2.2.1 t3.2.2.2.2.2.2.2.1 ++ (sW cI uS aS S_x5 S_x6 S_x7 S_x8 S_x9 S_r0 S_r1 S_r2 S_r3 S_r4 ++ (sW cI uP aP t3.2.2.2.2.2.2.2.2.2.2.2.2.2.1 t3.2.2.2.2.2.2.2.2.2.2.2.2.2.2.1 t3.2.2.2.2.2.2.2.2.2.2.2.2.2.2.2.1 t3.2.2.2.2.2.2.2.2.2.2.2.2.2.2.2.2.1 t3.2.2.2.2.2.2.2.2.2.2.2.2.2.2.2.2.2 t3.2.2.2.2.2.2.2.2.1 t3.2.2.2.2.2.2.2.2.2.1 t3.2.2.2.2.2.2.2.2.2.2.1 t3.2.2.2.2.2.2.2.2.2.2.2.1 t3.2.2.2.2.2.2.2.2.2.2.2.2.1))))) := jD
  refine lv_aload_n hx hb dX5_text_26 rfl (lv_at jl 0 rfl) ?_
  refine lv_aload_n hx hb dX5_text_27 rfl (lv_at jl 0 rfl) ?_
  refine va_get (D := D) (ci := 5) (v := .ref uD) (C := RX5) (T := TX5) (N := 8) hx hb hts in5 hown jK.1 jP 0 rfl rfl 1 (by decide) (hts _ w_20) (fun _ h9 => h9) rfl dX5_text_28 ?_
  refine va_get (D := D) (ci := 0) (v := .int t3.1) (C := RX0) (T := TX0) (N := 9) hx hb hts in0 hown jK.1 jP 3 rfl rfl 1 (by decide) (hts _ w_119) (fun _ h9 => h9) rfl dX5_text_31 ?_
  refine va_put (D := D) (ci := 5) (v := .int t3.1) (ty := .int) (C := RX5) (T := TX5) (N := 8) hx hb hts in5 tyX5 tyX5_ok nmX5 hown jK.1 jP jD jS 0 rfl rfl 6 (by decide) (hts _ w_34) (fun _ h9 => h9) rfl (by decide +kernel) rfl rfl (Nat.le_of_ble_eq_true rfl) dX5_text_34 (fun H locs jP jD jS => ?_)
  have jP : va_P D vwCl (lW uL uE uD uT uV uS uP t3.1 L_x7 ++ (eW cB uE aE (0 : Int32) E_r0 ++ (dW uD uE t3.1 t3.2.1 t3.2.2.1 t3.2.2.2.1 t3.2.2.2.2.1 t3.2.2.2.2.2.1 t3.2.2.2.2.2.2.1 t3.2.2.2.2.2.2.2.1 ++ (sW cI uS aS S_x5 S_x6 S_x7 S_x8 S_x9 S_r0 S_r1 S_r2 S_r3 S_r4 ++ (sW cI uP aP t3.2.2.2.2.2.2.2.2.2.2.2.2.2.1 t3.2.2.2.2.2.2.2.2.2.2.2.2.2.2.1 t3.2.2.2.2.2.2.2.2.2.2.2.2.2.2.2.1 t3.2.2.2.2.2.2.2.2.2.2.2.2.2.2.2.2.1 t3.2.2.2.2.2.2.2.2.2.2.2.2.2.2.2.2.2 t3.2.2.2.2.2.2.2.2.1 t3.2.2.2.2.2.2.2.2.2.1 t3.2.2.2.2.2.2.2.2.2.2.1 t3.2.2.2.2.2.2.2.2.2.2.2.1 t3.2.2.2.2.2.2.2.2.2.2.2.2.1))))) H := jP
  have jD : va_D A (lW uL uE uD uT uV uS uP t3.1 L_x7 ++ (eW cB uE aE (0 : Int32) E_r0 ++ (dW uD uE t3.1 t3.2.1 t3.2.2.1 t3.2.2.2.1 t3.2.2.2.2.1 t3.2.2.2.2.2.1 t3.2.2.2.2.2.2.1 t3.2.2.2.2.2.2.2.1 ++ (sW cI uS aS S_x5 S_x6 S_x7 S_x8 S_x9 S_r0 S_r1 S_r2 S_r3 S_r4 ++ (sW cI uP aP t3.2.2.2.2.2.2.2.2.2.2.2.2.2.1 t3.2.2.2.2.2.2.2.2.2.2.2.2.2.2.1 t3.2.2.2.2.2.2.2.2.2.2.2.2.2.2.2.1 t3.2.2.2.2.2.2.2.2.2.2.2.2.2.2.2.2.1 t3.2.2.2.2.2.2.2.2.2.2.2.2.2.2.2.2.2 t3.2.2.2.2.2.2.2.2.1 t3.2.2.2.2.2.2.2.2.2.1 t3.2.2.2.2.2.2.2.2.2.2.1 t3.2.2.2.2.2.2.2.2.2.2.2.1 t3.2.2.2.2.2.2.2.2.2.2.2.2.1))))) := jD
  refine lv_aload_n hx hb dX5_text_37 rfl (lv_at jl 0 rfl) ?_
  refine va_get (D := D) (ci := 5) (v := .int t3.1) (C := RX5) (T := TX5) (N := 8) hx hb hts in5 hown jK.1 jP 0 rfl rfl 6 (by decide) (hts _ w_34) (fun _ h9 => h9) rfl dX5_text_38 ?_
  refine lv_if_eq (tgt := 55) hx hb dX5_text_41 (by decide) (fun c5 => ?_) (fun c5 => ?_)
  · have h := itp c5 h
    refine lv_aload_n hx hb dX5_text_55 rfl (lv_at jl 0 rfl) ?_
    refine va_get (D := D) (ci := 5) (v := .ref uS) (C := RX5) (T := TX5) (N := 8) hx hb hts in5 hown jK.1 jP 0 rfl rfl 4 (by decide) (hts _ w_32) (fun _ h9 => h9) rfl dX5_text_56 ?_
    refine lv_astore_n (lv' := [(1, .ref uS), (0, .ref uL)]) hx hb dX5_text_59 rfl jl (by decide) rfl (fun ls jl => ?_)
    refine lv_aload_n hx hb dX5_text_60 rfl (lv_at jl 1 rfl) ?_
    refine lv_aload_n hx hb dX5_text_61 rfl (lv_at jl 1 rfl) ?_
    refine va_get (D := D) (ci := 5) (v := .ref uP) (C := RX5) (T := TX5) (N := 8) hx hb hts in5 hown jK.1 jP 0 rfl rfl 5 (by decide) (hts _ w_33) (fun _ h9 => h9) rfl dX5_text_62 ?_
    refine va_put (D := D) (ci := 5) (v := .ref uP) (ty := .object "LemonMarket$Stock") (C := RX5) (T := TX5) (N := 8) hx hb hts in5 tyX5 tyX5_ok nmX5 hown jK.1 jP jD jS 0 rfl rfl 4 (by decide) (hts _ w_32) (fun _ h9 => h9) rfl (by decide +kernel) rfl rfl (Nat.le_of_ble_eq_true rfl) dX5_text_65 (fun H locs jP jD jS => ?_)
    have jP : va_P D vwCl (lW uL uE uD uT uV uP uP t3.1 L_x7 ++ (eW cB uE aE (0 : Int32) E_r0 ++ (dW uD uE t3.1 t3.2.1 t3.2.2.1 t3.2.2.2.1 t3.2.2.2.2.1 t3.2.2.2.2.2.1 t3.2.2.2.2.2.2.1 t3.2.2.2.2.2.2.2.1 ++ (sW cI uS aS S_x5 S_x6 S_x7 S_x8 S_x9 S_r0 S_r1 S_r2 S_r3 S_r4 ++ (sW cI uP aP t3.2.2.2.2.2.2.2.2.2.2.2.2.2.1 t3.2.2.2.2.2.2.2.2.2.2.2.2.2.2.1 t3.2.2.2.2.2.2.2.2.2.2.2.2.2.2.2.1 t3.2.2.2.2.2.2.2.2.2.2.2.2.2.2.2.2.1 t3.2.2.2.2.2.2.2.2.2.2.2.2.2.2.2.2.2 t3.2.2.2.2.2.2.2.2.1 t3.2.2.2.2.2.2.2.2.2.1 t3.2.2.2.2.2.2.2.2.2.2.1 t3.2.2.2.2.2.2.2.2.2.2.2.1 t3.2.2.2.2.2.2.2.2.2.2.2.2.1))))) H := jP
    have jD : va_D A (lW uL uE uD uT uV uP uP t3.1 L_x7 ++ (eW cB uE aE (0 : Int32) E_r0 ++ (dW uD uE t3.1 t3.2.1 t3.2.2.1 t3.2.2.2.1 t3.2.2.2.2.1 t3.2.2.2.2.2.1 t3.2.2.2.2.2.2.1 t3.2.2.2.2.2.2.2.1 ++ (sW cI uS aS S_x5 S_x6 S_x7 S_x8 S_x9 S_r0 S_r1 S_r2 S_r3 S_r4 ++ (sW cI uP aP t3.2.2.2.2.2.2.2.2.2.2.2.2.2.1 t3.2.2.2.2.2.2.2.2.2.2.2.2.2.2.1 t3.2.2.2.2.2.2.2.2.2.2.2.2.2.2.2.1 t3.2.2.2.2.2.2.2.2.2.2.2.2.2.2.2.2.1 t3.2.2.2.2.2.2.2.2.2.2.2.2.2.2.2.2.2 t3.2.2.2.2.2.2.2.2.1 t3.2.2.2.2.2.2.2.2.2.1 t3.2.2.2.2.2.2.2.2.2.2.1 t3.2.2.2.2.2.2.2.2.2.2.2.1 t3.2.2.2.2.2.2.2.2.2.2.2.2.1))))) := jD
    refine lv_aload_n hx hb dX5_text_68 rfl (lv_at jl 1 rfl) ?_
    refine lv_aload_n hx hb dX5_text_69 rfl (lv_at jl 0 rfl) ?_
    refine va_put (D := D) (ci := 5) (v := .ref uS) (ty := .object "LemonMarket$Stock") (C := RX5) (T := TX5) (N := 8) hx hb hts in5 tyX5 tyX5_ok nmX5 hown jK.1 jP jD jS 0 rfl rfl 5 (by decide) (hts _ w_33) (fun _ h9 => h9) rfl (by decide +kernel) rfl rfl (Nat.le_of_ble_eq_true rfl) dX5_text_70 (fun H locs jP jD jS => ?_)
    have jP : va_P D vwCl (lW uL uE uD uT uV uP uS t3.1 L_x7 ++ (eW cB uE aE (0 : Int32) E_r0 ++ (dW uD uE t3.1 t3.2.1 t3.2.2.1 t3.2.2.2.1 t3.2.2.2.2.1 t3.2.2.2.2.2.1 t3.2.2.2.2.2.2.1 t3.2.2.2.2.2.2.2.1 ++ (sW cI uS aS S_x5 S_x6 S_x7 S_x8 S_x9 S_r0 S_r1 S_r2 S_r3 S_r4 ++ (sW cI uP aP t3.2.2.2.2.2.2.2.2.2.2.2.2.2.1 t3.2.2.2.2.2.2.2.2.2.2.2.2.2.2.1 t3.2.2.2.2.2.2.2.2.2.2.2.2.2.2.2.1 t3.2.2.2.2.2.2.2.2.2.2.2.2.2.2.2.2.1 t3.2.2.2.2.2.2.2.2.2.2.2.2.2.2.2.2.2 t3.2.2.2.2.2.2.2.2.1 t3.2.2.2.2.2.2.2.2.2.1 t3.2.2.2.2.2.2.2.2.2.2.1 t3.2.2.2.2.2.2.2.2.2.2.2.1 t3.2.2.2.2.2.2.2.2.2.2.2.2.1))))) H := jP
    have jD : va_D A (lW uL uE uD uT uV uP uS t3.1 L_x7 ++ (eW cB uE aE (0 : Int32) E_r0 ++ (dW uD uE t3.1 t3.2.1 t3.2.2.1 t3.2.2.2.1 t3.2.2.2.2.1 t3.2.2.2.2.2.1 t3.2.2.2.2.2.2.1 t3.2.2.2.2.2.2.2.1 ++ (sW cI uS aS S_x5 S_x6 S_x7 S_x8 S_x9 S_r0 S_r1 S_r2 S_r3 S_r4 ++ (sW cI uP aP t3.2.2.2.2.2.2.2.2.2.2.2.2.2.1 t3.2.2.2.2.2.2.2.2.2.2.2.2.2.2.1 t3.2.2.2.2.2.2.2.2.2.2.2.2.2.2.2.1 t3.2.2.2.2.2.2.2.2.2.2.2.2.2.2.2.2.1 t3.2.2.2.2.2.2.2.2.2.2.2.2.2.2.2.2.2 t3.2.2.2.2.2.2.2.2.1 t3.2.2.2.2.2.2.2.2.2.1 t3.2.2.2.2.2.2.2.2.2.2.1 t3.2.2.2.2.2.2.2.2.2.2.2.1 t3.2.2.2.2.2.2.2.2.2.2.2.2.1))))) := jD
    refine lv_aload_n hx hb dX5_text_73 rfl (lv_at jl 1 rfl) ?_
    refine va_get (D := D) (ci := 5) (v := .ref uD) (C := RX5) (T := TX5) (N := 8) hx hb hts in5 hown jK.1 jP 0 rfl rfl 1 (by decide) (hts _ w_20) (fun _ h9 => h9) rfl dX5_text_74 ?_
    refine va_get (D := D) (ci := 0) (v := .int t3.2.2.1) (C := RX0) (T := TX0) (N := 9) hx hb hts in0 hown jK.1 jP 3 rfl rfl 3 (by decide) (hts _ w_121) (fun _ h9 => h9) rfl dX5_text_77 ?_
    obtain rfl := Option.some.inj h
    exact absurd c5 hf
  · have h := itn c5 h
    refine lv_bipush (v := (-10 : Int32)) hx hb dX5_text_44 (by decide) ?_
    refine lv_aload_n hx hb dX5_text_46 rfl (lv_at jl 0 rfl) ?_
    refine va_get (D := D) (ci := 5) (v := .ref uD) (C := RX5) (T := TX5) (N := 8) hx hb hts in5 hown jK.1 jP 0 rfl rfl 1 (by decide) (hts _ w_20) (fun _ h9 => h9) rfl dX5_text_47 ?_
    refine va_get (D := D) (ci := 0) (v := .int t3.2.1) (C := RX0) (T := TX0) (N := 9) hx hb hts in0 hown jK.1 jP 3 rfl rfl 2 (by decide) (hts _ w_120) (fun _ h9 => h9) rfl dX5_text_50 ?_
    refine lv_isub hx hb dX5_text_53 ?_
    obtain rfl := Option.some.inj h
    exact hRet _ _ _ _ jP jD jS dX5_text_54
theorem okX5_fault : okV yX5_fault cX5_fault 1 (some .int) 0 := ⟨w_265, w_266, w_267, w_2, by decide, by decide, by decide +kernel⟩
def fX5_fault (L_x6 : Int32) : Option Int32 :=
  some L_x6
set_option maxRecDepth 100000 in
set_option maxHeartbeats 4000000 in
theorem kX5_fault (l : Launch) (D : va_G) (cI cB cS : ClassId) (uL : Nat) (L_x6 : Int32) (L_x7 : Int32) (uE : Nat) (uD : Nat) (uT : Nat) (uV : Nat) (uS : Nat) (uP : Nat) (z : Int32) (h : fX5_fault L_x6 = some z) : Mt l yX5_fault cX5_fault 1 (some .int) 0 0 D cI cB cS (lW uL uE uD uT uV uS uP L_x6 L_x7) (lW uL uE uD uT uV uS uP L_x6 L_x7) [.ref uL] (some (.int z)) := by
  refine entryI (by decide +kernel) rfl (Nat.le_of_ble_eq_true rfl) ?_
  intro p e s m below meth c A ls QQ R ar F hRet jP jD jS jl
  obtain ⟨hx, hb, hml, hown, hts, jK, hA, hf1, hf2⟩ := id F
  have jl : lv_has ls 1 [(0, .ref uL)] := jl
  unfold fX5_fault at h
  refine lv_aload_n hx hb dX5_fault_0 rfl (lv_at jl 0 rfl) ?_
  refine va_get (D := D) (ci := 5) (v := .int L_x6) (C := RX5) (T := TX5) (N := 8) hx hb hts in5 hown jK.1 jP 0 rfl rfl 6 (by decide) (hts _ w_34) (fun _ h9 => h9) rfl dX5_fault_1 ?_
  obtain rfl := Option.some.inj h
  exact hRet _ _ _ _ jP jD jS dX5_fault_4
theorem okX5_sort : okV yX5_sort cX5_sort 4 (some .int) 3 := ⟨w_273, w_274, w_275, w_2, by decide, by decide, by decide +kernel⟩
def fX5_sort (S_r0 : (Nat → Int32)) (S_r1 : (Nat → Int32)) (S_r2 : (Nat → Int32)) (S_r3 : (Nat → Int32)) (S_r4 : (Nat → Int32)) (S_x5 : Int32) (a1 : Int32) (a2 : Int32) (a3 : Int32) : Option (Int32 × (Nat → Int32) × (Nat → Int32) × (Nat → Int32) × (Nat → Int32) × (Nat → Int32) × Int32) :=
  bd (fX5_isSortAsTold a1 a2 a3 (0 : Int32)) (fun t1 => if t1 = (0 : Int32) then (some ((-1 : Int32), S_r0, S_r1, S_r2, S_r3, S_r4, S_x5)) else (if S_x5 < (8 : Int32) then (bd (fX2_add (S_r0) (S_r1) (S_r2) (S_r3) (S_r4) (S_x5) a1 a2 a3 (0 : Int32)) (fun t5 => some ((t5.2.2.2.2.2 - (1 : Int32)), t5.1, t5.2.1, t5.2.2.1, t5.2.2.2.1, t5.2.2.2.2.1, t5.2.2.2.2.2))) else (some ((-3 : Int32), S_r0, S_r1, S_r2, S_r3, S_r4, S_x5))))
set_option maxRecDepth 100000 in
set_option maxHeartbeats 4000000 in
theorem kX5_sort (l : Launch) (D : va_G) (cI cB cS : ClassId) (uL : Nat) (L_x6 : Int32) (L_x7 : Int32) (uS : Nat) (aS : Nat → Nat) (S_x5 : Int32) (S_x6 : Int32) (S_x7 : Int32) (S_x8 : Int32) (S_x9 : Int32) (S_r0 : (Nat → Int32)) (S_r1 : (Nat → Int32)) (S_r2 : (Nat → Int32)) (S_r3 : (Nat → Int32)) (S_r4 : (Nat → Int32)) (uE : Nat) (uD : Nat) (uT : Nat) (uV : Nat) (uP : Nat) (a1 : Int32) (a2 : Int32) (a3 : Int32) (z : (Int32 × (Nat → Int32) × (Nat → Int32) × (Nat → Int32) × (Nat → Int32) × (Nat → Int32) × Int32)) (h : fX5_sort S_r0 S_r1 S_r2 S_r3 S_r4 S_x5 a1 a2 a3 = some z) : Mt l yX5_sort cX5_sort 4 (some .int) 2 45 D cI cB cS (lW uL uE uD uT uV uS uP L_x6 L_x7 ++ (sW cI uS aS S_x5 S_x6 S_x7 S_x8 S_x9 S_r0 S_r1 S_r2 S_r3 S_r4)) (lW uL uE uD uT uV uS uP L_x6 L_x7 ++ (sW cI uS aS z.2.2.2.2.2.2 S_x6 S_x7 S_x8 S_x9 z.2.1 z.2.2.1 z.2.2.2.1 z.2.2.2.2.1 z.2.2.2.2.2.1)) [.ref uL, .int a1, .int a2, .int a3] (some (.int z.1)) := by
  refine entryI (by decide +kernel) rfl (Nat.le_of_ble_eq_true rfl) ?_
  intro p e s m below meth c A ls QQ R ar F hRet jP jD jS jl
  obtain ⟨hx, hb, hml, hown, hts, jK, hA, hf1, hf2⟩ := id F
  have jl : lv_has ls 4 [(0, .ref uL), (1, .int a1), (2, .int a2), (3, .int a3)] := jl
  unfold fX5_sort at h
  refine lv_iload_n hx hb dX5_sort_0 rfl (lv_at jl 1 rfl) ?_
  refine lv_iload_n hx hb dX5_sort_1 rfl (lv_at jl 2 rfl) ?_
  refine lv_iload_n hx hb dX5_sort_2 rfl (lv_at jl 3 rfl) ?_
  refine lv_iconst (v := (0 : Int32)) hx hb dX5_sort_3 (by decide) ?_
  obtain ⟨t1, hc2, h⟩ := bd_some h
  refine call0 (As := [.int a1, .int a2, .int a3, .int (0 : Int32)]) (rest := []) (st1 := [.int t1]) F (kX5_isSortAsTold l D cI cB cS  a1 a2 a3 (0 : Int32) _ hc2 ) okX5_isSortAsTold w_277 (by decide) (by decide) ⟨Nat.zero_le _, Nat.zero_le _⟩ jP jD jS rfl jl.1 rfl rfl (Nat.le_of_ble_eq_true rfl) dX5_sort_4 (fun H locs jP jD jS => ?_)
  refine lv_if_ne (tgt := 12) hx hb dX5_sort_7 (by decide) (fun c3 => ?_) (fun c3 => ?_)
  · have h := itn c3 h
    refine lv_aload_n hx hb dX5_sort_12 rfl (lv_at jl 0 rfl) ?_
    refine va_get (D := D) (ci := 5) (v := .ref uS) (C := RX5) (T := TX5) (N := 8) hx hb hts in5 hown jK.1 jP 0 rfl rfl 4 (by decide) (hts _ w_32) (fun _ h9 => h9) rfl dX5_sort_13 ?_
    refine va_get (D := D) (ci := 2) (v := .int S_x5) (C := RX2) (T := TX2) (N := 10) hx hb hts in2 hown jK.1 jP 1 rfl rfl 5 (by decide) (hts _ w_276) (fun _ h9 => h9) rfl dX5_sort_16 ?_
    refine lv_bipush (v := (8 : Int32)) hx hb dX5_sort_19 (by decide) ?_
    refine lv_icmp_lt (tgt := 27) hx hb dX5_sort_21 (by decide) (fun c4 => ?_) (fun c4 => ?_)
    · have h := itp c4 h
      refine lv_aload_n hx hb dX5_sort_27 rfl (lv_at jl 0 rfl) ?_
      refine va_get (D := D) (ci := 5) (v := .ref uS) (C := RX5) (T := TX5) (N := 8) hx hb hts in5 hown jK.1 jP 0 rfl rfl 4 (by decide) (hts _ w_32) (fun _ h9 => h9) rfl dX5_sort_28 ?_
      refine lv_iload_n hx hb dX5_sort_31 rfl (lv_at jl 1 rfl) ?_
      refine lv_iload_n hx hb dX5_sort_32 rfl (lv_at jl 2 rfl) ?_
      refine lv_iload_n hx hb dX5_sort_33 rfl (lv_at jl 3 rfl) ?_
      refine lv_iconst (v := (0 : Int32)) hx hb dX5_sort_34 (by decide) ?_
      obtain ⟨t5, hc6, h⟩ := bd_some h
      refine callP (wc := (sW cI uS aS S_x5 S_x6 S_x7 S_x8 S_x9 S_r0 S_r1 S_r2 S_r3 S_r4)) (wr := (lW uL uE uD uT uV uS uP L_x6 L_x7)) (w1 := (sW cI uS aS t5.2.2.2.2.2 S_x6 S_x7 S_x8 S_x9 t5.1 t5.2.1 t5.2.2.1 t5.2.2.2.1 t5.2.2.2.2.1)) (ws1 := (lW uL uE uD uT uV uS uP L_x6 L_x7 ++ (sW cI uS aS t5.2.2.2.2.2 S_x6 S_x7 S_x8 S_x9 t5.1 t5.2.1 t5.2.2.1 t5.2.2.2.1 t5.2.2.2.2.1))) (As := [.int a1, .int a2, .int a3, .int (0 : Int32)]) (rest := []) (st1 := []) 0 [1, 2, 3, 4, 5, 6] [0] [0, 1, 2, 3, 4, 5, 6] F (kX2_add l D cI cB cS uS aS S_x5 S_x6 S_x7 S_x8 S_x9 S_r0 S_r1 S_r2 S_r3 S_r4 a1 a2 a3 (0 : Int32) _ hc6 ) okX2_add w_280 (by decide) (by decide) ⟨Nat.zero_le _, Nat.zero_le _⟩ rfl rfl rfl jP jD jS rfl jl.1 rfl rfl (Nat.le_of_ble_eq_true rfl) dX5_sort_35 rfl rfl (by decide) (by decide) (by decide) rfl (by decide) (fun H locs jP jD jS => ?_)
      refine lv_aload_n hx hb dX5_sort_38 rfl (lv_at jl 0 rfl) ?_
      refine va_get (D := D) (ci := 5) (v := .ref uS) (C := RX5) (T := TX5) (N := 8) hx hb hts in5 hown jK.1 jP 0 rfl rfl 4 (by decide) (hts _ w_32) (fun _ h9 => h9) rfl dX5_sort_39 ?_
      refine va_get (D := D) (ci := 2) (v := .int t5.2.2.2.2.2) (C := RX2) (T := TX2) (N := 10) hx hb hts in2 hown jK.1 jP 1 rfl rfl 5 (by decide) (hts _ w_276) (fun _ h9 => h9) rfl dX5_sort_42 ?_
      refine lv_iconst (v := (1 : Int32)) hx hb dX5_sort_45 (by decide) ?_
      refine lv_isub hx hb dX5_sort_46 ?_
      obtain rfl := Option.some.inj h
      exact hRet _ _ _ _ jP jD jS dX5_sort_47
    · have h := itn c4 h
      refine lv_bipush (v := (-3 : Int32)) hx hb dX5_sort_24 (by decide) ?_
      obtain rfl := Option.some.inj h
      exact hRet _ _ _ _ jP jD jS dX5_sort_26
  · have h := itp c3 h
    refine lv_iconst (v := (-1 : Int32)) hx hb dX5_sort_10 (by decide) ?_
    obtain rfl := Option.some.inj h
    exact hRet _ _ _ _ jP jD jS dX5_sort_11
theorem okX5_set : okV yX5_set cX5_set 6 (some .int) 3 := ⟨w_292, w_293, w_294, w_2, by decide, by decide, by decide +kernel⟩
def fX5_set (S_r0 : (Nat → Int32)) (S_r1 : (Nat → Int32)) (S_r2 : (Nat → Int32)) (S_r3 : (Nat → Int32)) (S_r4 : (Nat → Int32)) (S_x5 : Int32) (a1 : Int32) (a2 : Int32) (a3 : Int32) : Option (Int32 × (Nat → Int32) × (Nat → Int32) × (Nat → Int32) × (Nat → Int32) × (Nat → Int32)) :=
  bd (fX5_isSort (S_x5) a1) (fun t1 => if t1 = (0 : Int32) then (some ((-1 : Int32), S_r0, S_r1, S_r2, S_r3, S_r4)) else (bd (fX5_isWithin a2 (0 : Int32) (4 : Int32)) (fun t4 => if t4 = (0 : Int32) then (some ((-1 : Int32), S_r0, S_r1, S_r2, S_r3, S_r4)) else (bd (fX2_allows (S_r0) (S_r4) a1 a2 a3) (fun t7 => if t7 = (0 : Int32) then (some ((-1 : Int32), S_r0, S_r1, S_r2, S_r3, S_r4)) else (if a2 = (0 : Int32) then (bd (fX2_row0 a2) (fun t14 => ckI a1 8 (ckI a1 8 (some ((S_r0 a1.toNatClampNeg), (upd S_r0 a1.toNatClampNeg a3), S_r1, S_r2, S_r3, S_r4))))) else (if a2 = (1 : Int32) then (bd (fX2_row1 a2) (fun t16 => ckI a1 8 (ckI a1 8 (some ((S_r1 a1.toNatClampNeg), S_r0, (upd S_r1 a1.toNatClampNeg a3), S_r2, S_r3, S_r4))))) else (if a2 = (2 : Int32) then (bd (fX2_row2 a2) (fun t18 => ckI a1 8 (ckI a1 8 (some ((S_r2 a1.toNatClampNeg), S_r0, S_r1, (upd S_r2 a1.toNatClampNeg a3), S_r3, S_r4))))) else (if a2 = (3 : Int32) then (bd (fX2_row3 a2) (fun t20 => ckI a1 8 (ckI a1 8 (some ((S_r3 a1.toNatClampNeg), S_r0, S_r1, S_r2, (upd S_r3 a1.toNatClampNeg a3), S_r4))))) else (bd (fX2_row4 a2) (fun t22 => ckI a1 8 (ckI a1 8 (some ((S_r4 a1.toNatClampNeg), S_r0, S_r1, S_r2, S_r3, (upd S_r4 a1.toNatClampNeg a3)))))))))))))))
set_option maxRecDepth 100000 in
set_option maxHeartbeats 4000000 in
theorem kX5_set (l : Launch) (D : va_G) (cI cB cS : ClassId) (uL : Nat) (L_x6 : Int32) (L_x7 : Int32) (uS : Nat) (aS : Nat → Nat) (S_x5 : Int32) (S_x6 : Int32) (S_x7 : Int32) (S_x8 : Int32) (S_x9 : Int32) (S_r0 : (Nat → Int32)) (S_r1 : (Nat → Int32)) (S_r2 : (Nat → Int32)) (S_r3 : (Nat → Int32)) (S_r4 : (Nat → Int32)) (uE : Nat) (uD : Nat) (uT : Nat) (uV : Nat) (uP : Nat) (a1 : Int32) (a2 : Int32) (a3 : Int32) (z : (Int32 × (Nat → Int32) × (Nat → Int32) × (Nat → Int32) × (Nat → Int32) × (Nat → Int32))) (h : fX5_set S_r0 S_r1 S_r2 S_r3 S_r4 S_x5 a1 a2 a3 = some z) : Mt l yX5_set cX5_set 6 (some .int) 2 63 D cI cB cS (lW uL uE uD uT uV uS uP L_x6 L_x7 ++ (sW cI uS aS S_x5 S_x6 S_x7 S_x8 S_x9 S_r0 S_r1 S_r2 S_r3 S_r4)) (lW uL uE uD uT uV uS uP L_x6 L_x7 ++ (sW cI uS aS S_x5 S_x6 S_x7 S_x8 S_x9 z.2.1 z.2.2.1 z.2.2.2.1 z.2.2.2.2.1 z.2.2.2.2.2)) [.ref uL, .int a1, .int a2, .int a3] (some (.int z.1)) := by
  refine entryI (by decide +kernel) rfl (Nat.le_of_ble_eq_true rfl) ?_
  intro p e s m below meth c A ls QQ R ar F hRet jP jD jS jl
  obtain ⟨hx, hb, hml, hown, hts, jK, hA, hf1, hf2⟩ := id F
  have jl : lv_has ls 6 [(0, .ref uL), (1, .int a1), (2, .int a2), (3, .int a3)] := jl
  unfold fX5_set at h
  refine lv_aload_n hx hb dX5_set_0 rfl (lv_at jl 0 rfl) ?_
  refine lv_iload_n hx hb dX5_set_1 rfl (lv_at jl 1 rfl) ?_
  obtain ⟨t1, hc2, h⟩ := bd_some h
  refine callW (w1 := (lW uL uE uD uT uV uS uP L_x6 L_x7 ++ (sW cI uS aS S_x5 S_x6 S_x7 S_x8 S_x9 S_r0 S_r1 S_r2 S_r3 S_r4))) (As := [.int a1]) (rest := []) (st1 := [.int t1]) 0 F (kX5_isSort l D cI cB cS uL L_x6 L_x7 uS aS S_x5 S_x6 S_x7 S_x8 S_x9 S_r0 S_r1 S_r2 S_r3 S_r4 uE uD uT uV uP a1 _ hc2 ) okX5_isSort w_295 (by decide) (by decide) ⟨Nat.zero_le _, Nat.zero_le _⟩ rfl rfl rfl jP jD jS rfl jl.1 rfl rfl (Nat.le_of_ble_eq_true rfl) dX5_set_2 (fun H locs jP jD jS => ?_)
  refine lv_if_eq (tgt := 30) hx hb dX5_set_5 (by decide) (fun c3 => ?_) (fun c3 => ?_)
  · have h := itp c3 h
    refine lv_iconst (v := (-1 : Int32)) hx hb dX5_set_30 (by decide) ?_
    obtain rfl := Option.some.inj h
    exact hRet _ _ _ _ jP jD jS dX5_set_31
  · have h := itn c3 h
    refine lv_iload_n hx hb dX5_set_8 rfl (lv_at jl 2 rfl) ?_
    refine lv_iconst (v := (0 : Int32)) hx hb dX5_set_9 (by decide) ?_
    refine lv_iconst (v := (4 : Int32)) hx hb dX5_set_10 (by decide) ?_
    obtain ⟨t4, hc5, h⟩ := bd_some h
    refine call0 (As := [.int a2, .int (0 : Int32), .int (4 : Int32)]) (rest := []) (st1 := [.int t4]) F (kX5_isWithin l D cI cB cS  a2 (0 : Int32) (4 : Int32) _ hc5 ) okX5_isWithin w_105 (by decide) (by decide) ⟨Nat.zero_le _, Nat.zero_le _⟩ jP jD jS rfl jl.1 rfl rfl (Nat.le_of_ble_eq_true rfl) dX5_set_11 (fun H locs jP jD jS => ?_)
    refine lv_if_eq (tgt := 30) hx hb dX5_set_14 (by decide) (fun c6 => ?_) (fun c6 => ?_)
    · have h := itp c6 h
      refine lv_iconst (v := (-1 : Int32)) hx hb dX5_set_30 (by decide) ?_
      obtain rfl := Option.some.inj h
      exact hRet _ _ _ _ jP jD jS dX5_set_31
    · have h := itn c6 h
      refine lv_aload_n hx hb dX5_set_17 rfl (lv_at jl 0 rfl) ?_
      refine va_get (D := D) (ci := 5) (v := .ref uS) (C := RX5) (T := TX5) (N := 8) hx hb hts in5 hown jK.1 jP 0 rfl rfl 4 (by decide) (hts _ w_32) (fun _ h9 => h9) rfl dX5_set_18 ?_
      refine lv_iload_n hx hb dX5_set_21 rfl (lv_at jl 1 rfl) ?_
      refine lv_iload_n hx hb dX5_set_22 rfl (lv_at jl 2 rfl) ?_
      refine lv_iload_n hx hb dX5_set_23 rfl (lv_at jl 3 rfl) ?_
      obtain ⟨t7, hc8, h⟩ := bd_some h
      refine callP (wc := (sW cI uS aS S_x5 S_x6 S_x7 S_x8 S_x9 S_r0 S_r1 S_r2 S_r3 S_r4)) (wr := (lW uL uE uD uT uV uS uP L_x6 L_x7)) (w1 := (sW cI uS aS S_x5 S_x6 S_x7 S_x8 S_x9 S_r0 S_r1 S_r2 S_r3 S_r4)) (ws1 := (lW uL uE uD uT uV uS uP L_x6 L_x7 ++ (sW cI uS aS S_x5 S_x6 S_x7 S_x8 S_x9 S_r0 S_r1 S_r2 S_r3 S_r4))) (As := [.int a1, .int a2, .int a3]) (rest := []) (st1 := [.int t7]) 0 [1, 2, 3, 4, 5, 6] [0] [0, 1, 2, 3, 4, 5, 6] F (kX2_allows l D cI cB cS uS aS S_x5 S_x6 S_x7 S_x8 S_x9 S_r0 S_r1 S_r2 S_r3 S_r4 a1 a2 a3 _ hc8 ) okX2_allows w_299 (by decide) (by decide) ⟨Nat.zero_le _, Nat.zero_le _⟩ rfl rfl rfl jP jD jS rfl jl.1 rfl rfl (Nat.le_of_ble_eq_true rfl) dX5_set_24 rfl rfl (by decide) (by decide) (by decide) rfl (by decide) (fun H locs jP jD jS => ?_)
      refine lv_if_ne (tgt := 32) hx hb dX5_set_27 (by decide) (fun c9 => ?_) (fun c9 => ?_)
      · have h := itn c9 h
        refine lv_aload_n hx hb dX5_set_32 rfl (lv_at jl 0 rfl) ?_
        refine va_get (D := D) (ci := 5) (v := .ref uS) (C := RX5) (T := TX5) (N := 8) hx hb hts in5 hown jK.1 jP 0 rfl rfl 4 (by decide) (hts _ w_32) (fun _ h9 => h9) rfl dX5_set_33 ?_
        refine lv_iload_n hx hb dX5_set_36 rfl (lv_at jl 2 rfl) ?_
        by_cases hk10 : a2 = (0 : Int32)
        · have h := itp hk10 h
          obtain ⟨t14, hc15, h⟩ := bd_some h
          refine callP (wc := (sW cI uS aS S_x5 S_x6 S_x7 S_x8 S_x9 S_r0 S_r1 S_r2 S_r3 S_r4)) (wr := (lW uL uE uD uT uV uS uP L_x6 L_x7)) (w1 := (sW cI uS aS S_x5 S_x6 S_x7 S_x8 S_x9 S_r0 S_r1 S_r2 S_r3 S_r4)) (ws1 := (lW uL uE uD uT uV uS uP L_x6 L_x7 ++ (sW cI uS aS S_x5 S_x6 S_x7 S_x8 S_x9 S_r0 S_r1 S_r2 S_r3 S_r4))) (As := [.int a2]) (rest := []) (st1 := [.ref (aS 0)]) 0 [1, 2, 3, 4, 5, 6] [0] [0, 1, 2, 3, 4, 5, 6] F (kX2_row0 l D cI cB cS uS aS S_x5 S_x6 S_x7 S_x8 S_x9 S_r0 S_r1 S_r2 S_r3 S_r4 a2 _ hc15 hk10) okX2_row w_307 (by decide) (by decide) ⟨Nat.zero_le _, Nat.zero_le _⟩ rfl rfl rfl jP jD jS rfl jl.1 rfl rfl (Nat.le_of_ble_eq_true rfl) dX5_set_37 rfl rfl (by decide) (by decide) (by decide) rfl (by decide) (fun H locs jP jD jS => ?_)
          refine lv_astore (lv' := [(4, .ref (aS 0)), (0, .ref uL), (1, .int a1), (2, .int a2), (3, .int a3)]) hx hb dX5_set_40 jl (by decide) rfl (fun ls jl => ?_)
          refine lv_aload hx hb dX5_set_42 (lv_at jl 0 rfl) ?_
          refine lv_iload_n hx hb dX5_set_44 rfl (lv_at jl 2 rfl) ?_
          obtain ⟨hin, h⟩ := ckI_some h
          refine va_iald (f := S_r0) hx hb jK.1 jP 2 0 rfl rfl hin dX5_set_45 ?_
          refine lv_istore (lv' := [(5, .int (S_r0 a1.toNatClampNeg)), (4, .ref (aS 0)), (0, .ref uL), (1, .int a1), (2, .int a2), (3, .int a3)]) hx hb dX5_set_46 jl (by decide) rfl (fun ls jl => ?_)
          refine lv_aload hx hb dX5_set_48 (lv_at jl 1 rfl) ?_
          refine lv_iload_n hx hb dX5_set_50 rfl (lv_at jl 3 rfl) ?_
          refine lv_iload_n hx hb dX5_set_51 rfl (lv_at jl 5 rfl) ?_
          obtain ⟨hin, h⟩ := ckI_some h
          refine va_iast (f := S_r0) hx hb jK.1 jP jD jS 2 0 rfl rfl hin dX5_set_52 (fun H locs jP jD jS => ?_)
          have jP : va_P D vwCl (lW uL uE uD uT uV uS uP L_x6 L_x7 ++ (sW cI uS aS S_x5 S_x6 S_x7 S_x8 S_x9 (upd S_r0 a1.toNatClampNeg a3) S_r1 S_r2 S_r3 S_r4)) H := jP
          have jD : va_D A (lW uL uE uD uT uV uS uP L_x6 L_x7 ++ (sW cI uS aS S_x5 S_x6 S_x7 S_x8 S_x9 (upd S_r0 a1.toNatClampNeg a3) S_r1 S_r2 S_r3 S_r4)) := jD
          refine lv_iload hx hb dX5_set_53 (lv_at jl 0 rfl) ?_
          obtain rfl := Option.some.inj h
          exact hRet _ _ _ _ jP jD jS dX5_set_55
        · have h := itn hk10 h
          by_cases hk11 : a2 = (1 : Int32)
          · have h := itp hk11 h
            obtain ⟨t16, hc17, h⟩ := bd_some h
            refine callP (wc := (sW cI uS aS S_x5 S_x6 S_x7 S_x8 S_x9 S_r0 S_r1 S_r2 S_r3 S_r4)) (wr := (lW uL uE uD uT uV uS uP L_x6 L_x7)) (w1 := (sW cI uS aS S_x5 S_x6 S_x7 S_x8 S_x9 S_r0 S_r1 S_r2 S_r3 S_r4)) (ws1 := (lW uL uE uD uT uV uS uP L_x6 L_x7 ++ (sW cI uS aS S_x5 S_x6 S_x7 S_x8 S_x9 S_r0 S_r1 S_r2 S_r3 S_r4))) (As := [.int a2]) (rest := []) (st1 := [.ref (aS 1)]) 0 [1, 2, 3, 4, 5, 6] [0] [0, 1, 2, 3, 4, 5, 6] F (kX2_row1 l D cI cB cS uS aS S_x5 S_x6 S_x7 S_x8 S_x9 S_r0 S_r1 S_r2 S_r3 S_r4 a2 _ hc17 hk11) okX2_row w_307 (by decide) (by decide) ⟨Nat.zero_le _, Nat.zero_le _⟩ rfl rfl rfl jP jD jS rfl jl.1 rfl rfl (Nat.le_of_ble_eq_true rfl) dX5_set_37 rfl rfl (by decide) (by decide) (by decide) rfl (by decide) (fun H locs jP jD jS => ?_)
            refine lv_astore (lv' := [(4, .ref (aS 1)), (0, .ref uL), (1, .int a1), (2, .int a2), (3, .int a3)]) hx hb dX5_set_40 jl (by decide) rfl (fun ls jl => ?_)
            refine lv_aload hx hb dX5_set_42 (lv_at jl 0 rfl) ?_
            refine lv_iload_n hx hb dX5_set_44 rfl (lv_at jl 2 rfl) ?_
            obtain ⟨hin, h⟩ := ckI_some h
            refine va_iald (f := S_r1) hx hb jK.1 jP 3 0 rfl rfl hin dX5_set_45 ?_
            refine lv_istore (lv' := [(5, .int (S_r1 a1.toNatClampNeg)), (4, .ref (aS 1)), (0, .ref uL), (1, .int a1), (2, .int a2), (3, .int a3)]) hx hb dX5_set_46 jl (by decide) rfl (fun ls jl => ?_)
            refine lv_aload hx hb dX5_set_48 (lv_at jl 1 rfl) ?_
            refine lv_iload_n hx hb dX5_set_50 rfl (lv_at jl 3 rfl) ?_
            refine lv_iload_n hx hb dX5_set_51 rfl (lv_at jl 5 rfl) ?_
            obtain ⟨hin, h⟩ := ckI_some h
            refine va_iast (f := S_r1) hx hb jK.1 jP jD jS 3 0 rfl rfl hin dX5_set_52 (fun H locs jP jD jS => ?_)
            have jP : va_P D vwCl (lW uL uE uD uT uV uS uP L_x6 L_x7 ++ (sW cI uS aS S_x5 S_x6 S_x7 S_x8 S_x9 S_r0 (upd S_r1 a1.toNatClampNeg a3) S_r2 S_r3 S_r4)) H := jP
            have jD : va_D A (lW uL uE uD uT uV uS uP L_x6 L_x7 ++ (sW cI uS aS S_x5 S_x6 S_x7 S_x8 S_x9 S_r0 (upd S_r1 a1.toNatClampNeg a3) S_r2 S_r3 S_r4)) := jD
            refine lv_iload hx hb dX5_set_53 (lv_at jl 0 rfl) ?_
            obtain rfl := Option.some.inj h
            exact hRet _ _ _ _ jP jD jS dX5_set_55
          · have h := itn hk11 h
            by_cases hk12 : a2 = (2 : Int32)
            · have h := itp hk12 h
              obtain ⟨t18, hc19, h⟩ := bd_some h
              refine callP (wc := (sW cI uS aS S_x5 S_x6 S_x7 S_x8 S_x9 S_r0 S_r1 S_r2 S_r3 S_r4)) (wr := (lW uL uE uD uT uV uS uP L_x6 L_x7)) (w1 := (sW cI uS aS S_x5 S_x6 S_x7 S_x8 S_x9 S_r0 S_r1 S_r2 S_r3 S_r4)) (ws1 := (lW uL uE uD uT uV uS uP L_x6 L_x7 ++ (sW cI uS aS S_x5 S_x6 S_x7 S_x8 S_x9 S_r0 S_r1 S_r2 S_r3 S_r4))) (As := [.int a2]) (rest := []) (st1 := [.ref (aS 2)]) 0 [1, 2, 3, 4, 5, 6] [0] [0, 1, 2, 3, 4, 5, 6] F (kX2_row2 l D cI cB cS uS aS S_x5 S_x6 S_x7 S_x8 S_x9 S_r0 S_r1 S_r2 S_r3 S_r4 a2 _ hc19 hk12) okX2_row w_307 (by decide) (by decide) ⟨Nat.zero_le _, Nat.zero_le _⟩ rfl rfl rfl jP jD jS rfl jl.1 rfl rfl (Nat.le_of_ble_eq_true rfl) dX5_set_37 rfl rfl (by decide) (by decide) (by decide) rfl (by decide) (fun H locs jP jD jS => ?_)
              refine lv_astore (lv' := [(4, .ref (aS 2)), (0, .ref uL), (1, .int a1), (2, .int a2), (3, .int a3)]) hx hb dX5_set_40 jl (by decide) rfl (fun ls jl => ?_)
              refine lv_aload hx hb dX5_set_42 (lv_at jl 0 rfl) ?_
              refine lv_iload_n hx hb dX5_set_44 rfl (lv_at jl 2 rfl) ?_
              obtain ⟨hin, h⟩ := ckI_some h
              refine va_iald (f := S_r2) hx hb jK.1 jP 4 0 rfl rfl hin dX5_set_45 ?_
              refine lv_istore (lv' := [(5, .int (S_r2 a1.toNatClampNeg)), (4, .ref (aS 2)), (0, .ref uL), (1, .int a1), (2, .int a2), (3, .int a3)]) hx hb dX5_set_46 jl (by decide) rfl (fun ls jl => ?_)
              refine lv_aload hx hb dX5_set_48 (lv_at jl 1 rfl) ?_
              refine lv_iload_n hx hb dX5_set_50 rfl (lv_at jl 3 rfl) ?_
              refine lv_iload_n hx hb dX5_set_51 rfl (lv_at jl 5 rfl) ?_
              obtain ⟨hin, h⟩ := ckI_some h
              refine va_iast (f := S_r2) hx hb jK.1 jP jD jS 4 0 rfl rfl hin dX5_set_52 (fun H locs jP jD jS => ?_)
              have jP : va_P D vwCl (lW uL uE uD uT uV uS uP L_x6 L_x7 ++ (sW cI uS aS S_x5 S_x6 S_x7 S_x8 S_x9 S_r0 S_r1 (upd S_r2 a1.toNatClampNeg a3) S_r3 S_r4)) H := jP
              have jD : va_D A (lW uL uE uD uT uV uS uP L_x6 L_x7 ++ (sW cI uS aS S_x5 S_x6 S_x7 S_x8 S_x9 S_r0 S_r1 (upd S_r2 a1.toNatClampNeg a3) S_r3 S_r4)) := jD
              refine lv_iload hx hb dX5_set_53 (lv_at jl 0 rfl) ?_
              obtain rfl := Option.some.inj h
              exact hRet _ _ _ _ jP jD jS dX5_set_55
            · have h := itn hk12 h
              by_cases hk13 : a2 = (3 : Int32)
              · have h := itp hk13 h
                obtain ⟨t20, hc21, h⟩ := bd_some h
                refine callP (wc := (sW cI uS aS S_x5 S_x6 S_x7 S_x8 S_x9 S_r0 S_r1 S_r2 S_r3 S_r4)) (wr := (lW uL uE uD uT uV uS uP L_x6 L_x7)) (w1 := (sW cI uS aS S_x5 S_x6 S_x7 S_x8 S_x9 S_r0 S_r1 S_r2 S_r3 S_r4)) (ws1 := (lW uL uE uD uT uV uS uP L_x6 L_x7 ++ (sW cI uS aS S_x5 S_x6 S_x7 S_x8 S_x9 S_r0 S_r1 S_r2 S_r3 S_r4))) (As := [.int a2]) (rest := []) (st1 := [.ref (aS 3)]) 0 [1, 2, 3, 4, 5, 6] [0] [0, 1, 2, 3, 4, 5, 6] F (kX2_row3 l D cI cB cS uS aS S_x5 S_x6 S_x7 S_x8 S_x9 S_r0 S_r1 S_r2 S_r3 S_r4 a2 _ hc21 hk13) okX2_row w_307 (by decide) (by decide) ⟨Nat.zero_le _, Nat.zero_le _⟩ rfl rfl rfl jP jD jS rfl jl.1 rfl rfl (Nat.le_of_ble_eq_true rfl) dX5_set_37 rfl rfl (by decide) (by decide) (by decide) rfl (by decide) (fun H locs jP jD jS => ?_)
                refine lv_astore (lv' := [(4, .ref (aS 3)), (0, .ref uL), (1, .int a1), (2, .int a2), (3, .int a3)]) hx hb dX5_set_40 jl (by decide) rfl (fun ls jl => ?_)
                refine lv_aload hx hb dX5_set_42 (lv_at jl 0 rfl) ?_
                refine lv_iload_n hx hb dX5_set_44 rfl (lv_at jl 2 rfl) ?_
                obtain ⟨hin, h⟩ := ckI_some h
                refine va_iald (f := S_r3) hx hb jK.1 jP 5 0 rfl rfl hin dX5_set_45 ?_
                refine lv_istore (lv' := [(5, .int (S_r3 a1.toNatClampNeg)), (4, .ref (aS 3)), (0, .ref uL), (1, .int a1), (2, .int a2), (3, .int a3)]) hx hb dX5_set_46 jl (by decide) rfl (fun ls jl => ?_)
                refine lv_aload hx hb dX5_set_48 (lv_at jl 1 rfl) ?_
                refine lv_iload_n hx hb dX5_set_50 rfl (lv_at jl 3 rfl) ?_
                refine lv_iload_n hx hb dX5_set_51 rfl (lv_at jl 5 rfl) ?_
                obtain ⟨hin, h⟩ := ckI_some h
                refine va_iast (f := S_r3) hx hb jK.1 jP jD jS 5 0 rfl rfl hin dX5_set_52 (fun H locs jP jD jS => ?_)
                have jP : va_P D vwCl (lW uL uE uD uT uV uS uP L_x6 L_x7 ++ (sW cI uS aS S_x5 S_x6 S_x7 S_x8 S_x9 S_r0 S_r1 S_r2 (upd S_r3 a1.toNatClampNeg a3) S_r4)) H := jP
                have jD : va_D A (lW uL uE uD uT uV uS uP L_x6 L_x7 ++ (sW cI uS aS S_x5 S_x6 S_x7 S_x8 S_x9 S_r0 S_r1 S_r2 (upd S_r3 a1.toNatClampNeg a3) S_r4)) := jD
                refine lv_iload hx hb dX5_set_53 (lv_at jl 0 rfl) ?_
                obtain rfl := Option.some.inj h
                exact hRet _ _ _ _ jP jD jS dX5_set_55
              · have h := itn hk13 h
                obtain ⟨t22, hc23, h⟩ := bd_some h
                refine callP (wc := (sW cI uS aS S_x5 S_x6 S_x7 S_x8 S_x9 S_r0 S_r1 S_r2 S_r3 S_r4)) (wr := (lW uL uE uD uT uV uS uP L_x6 L_x7)) (w1 := (sW cI uS aS S_x5 S_x6 S_x7 S_x8 S_x9 S_r0 S_r1 S_r2 S_r3 S_r4)) (ws1 := (lW uL uE uD uT uV uS uP L_x6 L_x7 ++ (sW cI uS aS S_x5 S_x6 S_x7 S_x8 S_x9 S_r0 S_r1 S_r2 S_r3 S_r4))) (As := [.int a2]) (rest := []) (st1 := [.ref (aS 4)]) 0 [1, 2, 3, 4, 5, 6] [0] [0, 1, 2, 3, 4, 5, 6] F (kX2_row4 l D cI cB cS uS aS S_x5 S_x6 S_x7 S_x8 S_x9 S_r0 S_r1 S_r2 S_r3 S_r4 a2 _ hc23 hk10 hk11 hk12 hk13) okX2_row w_307 (by decide) (by decide) ⟨Nat.zero_le _, Nat.zero_le _⟩ rfl rfl rfl jP jD jS rfl jl.1 rfl rfl (Nat.le_of_ble_eq_true rfl) dX5_set_37 rfl rfl (by decide) (by decide) (by decide) rfl (by decide) (fun H locs jP jD jS => ?_)
                refine lv_astore (lv' := [(4, .ref (aS 4)), (0, .ref uL), (1, .int a1), (2, .int a2), (3, .int a3)]) hx hb dX5_set_40 jl (by decide) rfl (fun ls jl => ?_)
                refine lv_aload hx hb dX5_set_42 (lv_at jl 0 rfl) ?_
                refine lv_iload_n hx hb dX5_set_44 rfl (lv_at jl 2 rfl) ?_
                obtain ⟨hin, h⟩ := ckI_some h
                refine va_iald (f := S_r4) hx hb jK.1 jP 6 0 rfl rfl hin dX5_set_45 ?_
                refine lv_istore (lv' := [(5, .int (S_r4 a1.toNatClampNeg)), (4, .ref (aS 4)), (0, .ref uL), (1, .int a1), (2, .int a2), (3, .int a3)]) hx hb dX5_set_46 jl (by decide) rfl (fun ls jl => ?_)
                refine lv_aload hx hb dX5_set_48 (lv_at jl 1 rfl) ?_
                refine lv_iload_n hx hb dX5_set_50 rfl (lv_at jl 3 rfl) ?_
                refine lv_iload_n hx hb dX5_set_51 rfl (lv_at jl 5 rfl) ?_
                obtain ⟨hin, h⟩ := ckI_some h
                refine va_iast (f := S_r4) hx hb jK.1 jP jD jS 6 0 rfl rfl hin dX5_set_52 (fun H locs jP jD jS => ?_)
                have jP : va_P D vwCl (lW uL uE uD uT uV uS uP L_x6 L_x7 ++ (sW cI uS aS S_x5 S_x6 S_x7 S_x8 S_x9 S_r0 S_r1 S_r2 S_r3 (upd S_r4 a1.toNatClampNeg a3))) H := jP
                have jD : va_D A (lW uL uE uD uT uV uS uP L_x6 L_x7 ++ (sW cI uS aS S_x5 S_x6 S_x7 S_x8 S_x9 S_r0 S_r1 S_r2 S_r3 (upd S_r4 a1.toNatClampNeg a3))) := jD
                refine lv_iload hx hb dX5_set_53 (lv_at jl 0 rfl) ?_
                obtain rfl := Option.some.inj h
                exact hRet _ _ _ _ jP jD jS dX5_set_55
      · have h := itp c9 h
        refine lv_iconst (v := (-1 : Int32)) hx hb dX5_set_30 (by decide) ?_
        obtain rfl := Option.some.inj h
        exact hRet _ _ _ _ jP jD jS dX5_set_31
theorem okX5_of : okV yX5_of cX5_of 3 (some .int) 2 := ⟨w_325, w_326, w_327, w_2, by decide, by decide, by decide +kernel⟩
def fX5_of (S_r0 : (Nat → Int32)) (S_r1 : (Nat → Int32)) (S_r2 : (Nat → Int32)) (S_r3 : (Nat → Int32)) (S_r4 : (Nat → Int32)) (S_x5 : Int32) (S_x6 : Int32) (a1 : Int32) (a2 : Int32) : Option Int32 :=
  bd (fX5_isSort (S_x5) a1) (fun t1 => if t1 = (0 : Int32) then (some (-1 : Int32)) else (bd (fX5_isWithin a2 (0 : Int32) (5 : Int32)) (fun t4 => if t4 = (0 : Int32) then (some (-1 : Int32)) else (if a2 = (5 : Int32) then (bd (fX2_isGood (S_r2) (S_x6) a1) (fun t22 => if t22 = (0 : Int32) then (some (0 : Int32)) else (some (1 : Int32)))) else (if a2 = (0 : Int32) then (bd (fX2_row0 a2) (fun t12 => ckI a1 8 (some (S_r0 a1.toNatClampNeg)))) else (if a2 = (1 : Int32) then (bd (fX2_row1 a2) (fun t14 => ckI a1 8 (some (S_r1 a1.toNatClampNeg)))) else (if a2 = (2 : Int32) then (bd (fX2_row2 a2) (fun t16 => ckI a1 8 (some (S_r2 a1.toNatClampNeg)))) else (if a2 = (3 : Int32) then (bd (fX2_row3 a2) (fun t18 => ckI a1 8 (some (S_r3 a1.toNatClampNeg)))) else (bd (fX2_row4 a2) (fun t20 => ckI a1 8 (some (S_r4 a1.toNatClampNeg))))))))))))
set_option maxRecDepth 100000 in
set_option maxHeartbeats 4000000 in
theorem kX5_of (l : Launch) (D : va_G) (cI cB cS : ClassId) (uL : Nat) (L_x6 : Int32) (L_x7 : Int32) (uS : Nat) (aS : Nat → Nat) (S_x5 : Int32) (S_x6 : Int32) (S_x7 : Int32) (S_x8 : Int32) (S_x9 : Int32) (S_r0 : (Nat → Int32)) (S_r1 : (Nat → Int32)) (S_r2 : (Nat → Int32)) (S_r3 : (Nat → Int32)) (S_r4 : (Nat → Int32)) (uE : Nat) (uD : Nat) (uT : Nat) (uV : Nat) (uP : Nat) (a1 : Int32) (a2 : Int32) (z : Int32) (h : fX5_of S_r0 S_r1 S_r2 S_r3 S_r4 S_x5 S_x6 a1 a2 = some z) : Mt l yX5_of cX5_of 3 (some .int) 2 43 D cI cB cS (lW uL uE uD uT uV uS uP L_x6 L_x7 ++ (sW cI uS aS S_x5 S_x6 S_x7 S_x8 S_x9 S_r0 S_r1 S_r2 S_r3 S_r4)) (lW uL uE uD uT uV uS uP L_x6 L_x7 ++ (sW cI uS aS S_x5 S_x6 S_x7 S_x8 S_x9 S_r0 S_r1 S_r2 S_r3 S_r4)) [.ref uL, .int a1, .int a2] (some (.int z)) := by
  refine entryI (by decide +kernel) rfl (Nat.le_of_ble_eq_true rfl) ?_
  intro p e s m below meth c A ls QQ R ar F hRet jP jD jS jl
  obtain ⟨hx, hb, hml, hown, hts, jK, hA, hf1, hf2⟩ := id F
  have jl : lv_has ls 3 [(0, .ref uL), (1, .int a1), (2, .int a2)] := jl
  unfold fX5_of at h
  refine lv_aload_n hx hb dX5_of_0 rfl (lv_at jl 0 rfl) ?_
  refine lv_iload_n hx hb dX5_of_1 rfl (lv_at jl 1 rfl) ?_
  obtain ⟨t1, hc2, h⟩ := bd_some h
  refine callW (w1 := (lW uL uE uD uT uV uS uP L_x6 L_x7 ++ (sW cI uS aS S_x5 S_x6 S_x7 S_x8 S_x9 S_r0 S_r1 S_r2 S_r3 S_r4))) (As := [.int a1]) (rest := []) (st1 := [.int t1]) 0 F (kX5_isSort l D cI cB cS uL L_x6 L_x7 uS aS S_x5 S_x6 S_x7 S_x8 S_x9 S_r0 S_r1 S_r2 S_r3 S_r4 uE uD uT uV uP a1 _ hc2 ) okX5_isSort w_295 (by decide) (by decide) ⟨Nat.zero_le _, Nat.zero_le _⟩ rfl rfl rfl jP jD jS rfl jl.1 rfl rfl (Nat.le_of_ble_eq_true rfl) dX5_of_2 (fun H locs jP jD jS => ?_)
  refine lv_if_eq (tgt := 17) hx hb dX5_of_5 (by decide) (fun c3 => ?_) (fun c3 => ?_)
  · have h := itp c3 h
    refine lv_iconst (v := (-1 : Int32)) hx hb dX5_of_17 (by decide) ?_
    obtain rfl := Option.some.inj h
    exact hRet _ _ _ _ jP jD jS dX5_of_18
  · have h := itn c3 h
    refine lv_iload_n hx hb dX5_of_8 rfl (lv_at jl 2 rfl) ?_
    refine lv_iconst (v := (0 : Int32)) hx hb dX5_of_9 (by decide) ?_
    refine lv_iconst (v := (5 : Int32)) hx hb dX5_of_10 (by decide) ?_
    obtain ⟨t4, hc5, h⟩ := bd_some h
    refine call0 (As := [.int a2, .int (0 : Int32), .int (5 : Int32)]) (rest := []) (st1 := [.int t4]) F (kX5_isWithin l D cI cB cS  a2 (0 : Int32) (5 : Int32) _ hc5 ) okX5_isWithin w_105 (by decide) (by decide) ⟨Nat.zero_le _, Nat.zero_le _⟩ jP jD jS rfl jl.1 rfl rfl (Nat.le_of_ble_eq_true rfl) dX5_of_11 (fun H locs jP jD jS => ?_)
    refine lv_if_ne (tgt := 19) hx hb dX5_of_14 (by decide) (fun c6 => ?_) (fun c6 => ?_)
    · have h := itn c6 h
      refine lv_iload_n hx hb dX5_of_19 rfl (lv_at jl 2 rfl) ?_
      refine lv_iconst (v := (5 : Int32)) hx hb dX5_of_20 (by decide) ?_
      refine lv_icmp_ne (tgt := 41) hx hb dX5_of_21 (by decide) (fun c7 => ?_) (fun c7 => ?_)
      · have h := itn c7 h
        refine lv_aload_n hx hb dX5_of_41 rfl (lv_at jl 0 rfl) ?_
        refine va_get (D := D) (ci := 5) (v := .ref uS) (C := RX5) (T := TX5) (N := 8) hx hb hts in5 hown jK.1 jP 0 rfl rfl 4 (by decide) (hts _ w_32) (fun _ h9 => h9) rfl dX5_of_42 ?_
        refine lv_iload_n hx hb dX5_of_45 rfl (lv_at jl 2 rfl) ?_
        by_cases hk8 : a2 = (0 : Int32)
        · have h := itp hk8 h
          obtain ⟨t12, hc13, h⟩ := bd_some h
          refine callP (wc := (sW cI uS aS S_x5 S_x6 S_x7 S_x8 S_x9 S_r0 S_r1 S_r2 S_r3 S_r4)) (wr := (lW uL uE uD uT uV uS uP L_x6 L_x7)) (w1 := (sW cI uS aS S_x5 S_x6 S_x7 S_x8 S_x9 S_r0 S_r1 S_r2 S_r3 S_r4)) (ws1 := (lW uL uE uD uT uV uS uP L_x6 L_x7 ++ (sW cI uS aS S_x5 S_x6 S_x7 S_x8 S_x9 S_r0 S_r1 S_r2 S_r3 S_r4))) (As := [.int a2]) (rest := []) (st1 := [.ref (aS 0)]) 0 [1, 2, 3, 4, 5, 6] [0] [0, 1, 2, 3, 4, 5, 6] F (kX2_row0 l D cI cB cS uS aS S_x5 S_x6 S_x7 S_x8 S_x9 S_r0 S_r1 S_r2 S_r3 S_r4 a2 _ hc13 hk8) okX2_row w_307 (by decide) (by decide) ⟨Nat.zero_le _, Nat.zero_le _⟩ rfl rfl rfl jP jD jS rfl jl.1 rfl rfl (Nat.le_of_ble_eq_true rfl) dX5_of_46 rfl rfl (by decide) (by decide) (by decide) rfl (by decide) (fun H locs jP jD jS => ?_)
          refine lv_iload_n hx hb dX5_of_49 rfl (lv_at jl 1 rfl) ?_
          obtain ⟨hin, h⟩ := ckI_some h
          refine va_iald (f := S_r0) hx hb jK.1 jP 2 0 rfl rfl hin dX5_of_50 ?_
          obtain rfl := Option.some.inj h
          exact hRet _ _ _ _ jP jD jS dX5_of_51
        · have h := itn hk8 h
          by_cases hk9 : a2 = (1 : Int32)
          · have h := itp hk9 h
            obtain ⟨t14, hc15, h⟩ := bd_some h
            refine callP (wc := (sW cI uS aS S_x5 S_x6 S_x7 S_x8 S_x9 S_r0 S_r1 S_r2 S_r3 S_r4)) (wr := (lW uL uE uD uT uV uS uP L_x6 L_x7)) (w1 := (sW cI uS aS S_x5 S_x6 S_x7 S_x8 S_x9 S_r0 S_r1 S_r2 S_r3 S_r4)) (ws1 := (lW uL uE uD uT uV uS uP L_x6 L_x7 ++ (sW cI uS aS S_x5 S_x6 S_x7 S_x8 S_x9 S_r0 S_r1 S_r2 S_r3 S_r4))) (As := [.int a2]) (rest := []) (st1 := [.ref (aS 1)]) 0 [1, 2, 3, 4, 5, 6] [0] [0, 1, 2, 3, 4, 5, 6] F (kX2_row1 l D cI cB cS uS aS S_x5 S_x6 S_x7 S_x8 S_x9 S_r0 S_r1 S_r2 S_r3 S_r4 a2 _ hc15 hk9) okX2_row w_307 (by decide) (by decide) ⟨Nat.zero_le _, Nat.zero_le _⟩ rfl rfl rfl jP jD jS rfl jl.1 rfl rfl (Nat.le_of_ble_eq_true rfl) dX5_of_46 rfl rfl (by decide) (by decide) (by decide) rfl (by decide) (fun H locs jP jD jS => ?_)
            refine lv_iload_n hx hb dX5_of_49 rfl (lv_at jl 1 rfl) ?_
            obtain ⟨hin, h⟩ := ckI_some h
            refine va_iald (f := S_r1) hx hb jK.1 jP 3 0 rfl rfl hin dX5_of_50 ?_
            obtain rfl := Option.some.inj h
            exact hRet _ _ _ _ jP jD jS dX5_of_51
          · have h := itn hk9 h
            by_cases hk10 : a2 = (2 : Int32)
            · have h := itp hk10 h
              obtain ⟨t16, hc17, h⟩ := bd_some h
              refine callP (wc := (sW cI uS aS S_x5 S_x6 S_x7 S_x8 S_x9 S_r0 S_r1 S_r2 S_r3 S_r4)) (wr := (lW uL uE uD uT uV uS uP L_x6 L_x7)) (w1 := (sW cI uS aS S_x5 S_x6 S_x7 S_x8 S_x9 S_r0 S_r1 S_r2 S_r3 S_r4)) (ws1 := (lW uL uE uD uT uV uS uP L_x6 L_x7 ++ (sW cI uS aS S_x5 S_x6 S_x7 S_x8 S_x9 S_r0 S_r1 S_r2 S_r3 S_r4))) (As := [.int a2]) (rest := []) (st1 := [.ref (aS 2)]) 0 [1, 2, 3, 4, 5, 6] [0] [0, 1, 2, 3, 4, 5, 6] F (kX2_row2 l D cI cB cS uS aS S_x5 S_x6 S_x7 S_x8 S_x9 S_r0 S_r1 S_r2 S_r3 S_r4 a2 _ hc17 hk10) okX2_row w_307 (by decide) (by decide) ⟨Nat.zero_le _, Nat.zero_le _⟩ rfl rfl rfl jP jD jS rfl jl.1 rfl rfl (Nat.le_of_ble_eq_true rfl) dX5_of_46 rfl rfl (by decide) (by decide) (by decide) rfl (by decide) (fun H locs jP jD jS => ?_)
              refine lv_iload_n hx hb dX5_of_49 rfl (lv_at jl 1 rfl) ?_
              obtain ⟨hin, h⟩ := ckI_some h
              refine va_iald (f := S_r2) hx hb jK.1 jP 4 0 rfl rfl hin dX5_of_50 ?_
              obtain rfl := Option.some.inj h
              exact hRet _ _ _ _ jP jD jS dX5_of_51
            · have h := itn hk10 h
              by_cases hk11 : a2 = (3 : Int32)
              · have h := itp hk11 h
                obtain ⟨t18, hc19, h⟩ := bd_some h
                refine callP (wc := (sW cI uS aS S_x5 S_x6 S_x7 S_x8 S_x9 S_r0 S_r1 S_r2 S_r3 S_r4)) (wr := (lW uL uE uD uT uV uS uP L_x6 L_x7)) (w1 := (sW cI uS aS S_x5 S_x6 S_x7 S_x8 S_x9 S_r0 S_r1 S_r2 S_r3 S_r4)) (ws1 := (lW uL uE uD uT uV uS uP L_x6 L_x7 ++ (sW cI uS aS S_x5 S_x6 S_x7 S_x8 S_x9 S_r0 S_r1 S_r2 S_r3 S_r4))) (As := [.int a2]) (rest := []) (st1 := [.ref (aS 3)]) 0 [1, 2, 3, 4, 5, 6] [0] [0, 1, 2, 3, 4, 5, 6] F (kX2_row3 l D cI cB cS uS aS S_x5 S_x6 S_x7 S_x8 S_x9 S_r0 S_r1 S_r2 S_r3 S_r4 a2 _ hc19 hk11) okX2_row w_307 (by decide) (by decide) ⟨Nat.zero_le _, Nat.zero_le _⟩ rfl rfl rfl jP jD jS rfl jl.1 rfl rfl (Nat.le_of_ble_eq_true rfl) dX5_of_46 rfl rfl (by decide) (by decide) (by decide) rfl (by decide) (fun H locs jP jD jS => ?_)
                refine lv_iload_n hx hb dX5_of_49 rfl (lv_at jl 1 rfl) ?_
                obtain ⟨hin, h⟩ := ckI_some h
                refine va_iald (f := S_r3) hx hb jK.1 jP 5 0 rfl rfl hin dX5_of_50 ?_
                obtain rfl := Option.some.inj h
                exact hRet _ _ _ _ jP jD jS dX5_of_51
              · have h := itn hk11 h
                obtain ⟨t20, hc21, h⟩ := bd_some h
                refine callP (wc := (sW cI uS aS S_x5 S_x6 S_x7 S_x8 S_x9 S_r0 S_r1 S_r2 S_r3 S_r4)) (wr := (lW uL uE uD uT uV uS uP L_x6 L_x7)) (w1 := (sW cI uS aS S_x5 S_x6 S_x7 S_x8 S_x9 S_r0 S_r1 S_r2 S_r3 S_r4)) (ws1 := (lW uL uE uD uT uV uS uP L_x6 L_x7 ++ (sW cI uS aS S_x5 S_x6 S_x7 S_x8 S_x9 S_r0 S_r1 S_r2 S_r3 S_r4))) (As := [.int a2]) (rest := []) (st1 := [.ref (aS 4)]) 0 [1, 2, 3, 4, 5, 6] [0] [0, 1, 2, 3, 4, 5, 6] F (kX2_row4 l D cI cB cS uS aS S_x5 S_x6 S_x7 S_x8 S_x9 S_r0 S_r1 S_r2 S_r3 S_r4 a2 _ hc21 hk8 hk9 hk10 hk11) okX2_row w_307 (by decide) (by decide) ⟨Nat.zero_le _, Nat.zero_le _⟩ rfl rfl rfl jP jD jS rfl jl.1 rfl rfl (Nat.le_of_ble_eq_true rfl) dX5_of_46 rfl rfl (by decide) (by decide) (by decide) rfl (by decide) (fun H locs jP jD jS => ?_)
                refine lv_iload_n hx hb dX5_of_49 rfl (lv_at jl 1 rfl) ?_
                obtain ⟨hin, h⟩ := ckI_some h
                refine va_iald (f := S_r4) hx hb jK.1 jP 6 0 rfl rfl hin dX5_of_50 ?_
                obtain rfl := Option.some.inj h
                exact hRet _ _ _ _ jP jD jS dX5_of_51
      · have h := itp c7 h
        refine lv_aload_n hx hb dX5_of_24 rfl (lv_at jl 0 rfl) ?_
        refine va_get (D := D) (ci := 5) (v := .ref uS) (C := RX5) (T := TX5) (N := 8) hx hb hts in5 hown jK.1 jP 0 rfl rfl 4 (by decide) (hts _ w_32) (fun _ h9 => h9) rfl dX5_of_25 ?_
        refine lv_iload_n hx hb dX5_of_28 rfl (lv_at jl 1 rfl) ?_
        obtain ⟨t22, hc23, h⟩ := bd_some h
        refine callP (wc := (sW cI uS aS S_x5 S_x6 S_x7 S_x8 S_x9 S_r0 S_r1 S_r2 S_r3 S_r4)) (wr := (lW uL uE uD uT uV uS uP L_x6 L_x7)) (w1 := (sW cI uS aS S_x5 S_x6 S_x7 S_x8 S_x9 S_r0 S_r1 S_r2 S_r3 S_r4)) (ws1 := (lW uL uE uD uT uV uS uP L_x6 L_x7 ++ (sW cI uS aS S_x5 S_x6 S_x7 S_x8 S_x9 S_r0 S_r1 S_r2 S_r3 S_r4))) (As := [.int a1]) (rest := []) (st1 := [.int t22]) 0 [1, 2, 3, 4, 5, 6] [0] [0, 1, 2, 3, 4, 5, 6] F (kX2_isGood l D cI cB cS uS aS S_x5 S_x6 S_x7 S_x8 S_x9 S_r0 S_r1 S_r2 S_r3 S_r4 a1 _ hc23 ) okX2_isGood w_328 (by decide) (by decide) ⟨Nat.zero_le _, Nat.zero_le _⟩ rfl rfl rfl jP jD jS rfl jl.1 rfl rfl (Nat.le_of_ble_eq_true rfl) dX5_of_29 rfl rfl (by decide) (by decide) (by decide) rfl (by decide) (fun H locs jP jD jS => ?_)
        refine lv_if_eq (tgt := 39) hx hb dX5_of_32 (by decide) (fun c24 => ?_) (fun c24 => ?_)
        · have h := itp c24 h
          refine lv_iconst (v := (0 : Int32)) hx hb dX5_of_39 (by decide) ?_
          obtain rfl := Option.some.inj h
          exact hRet _ _ _ _ jP jD jS dX5_of_40
        · have h := itn c24 h
          refine lv_iconst (v := (1 : Int32)) hx hb dX5_of_35 (by decide) ?_
          refine lv_goto (tgt := 40) hx hb dX5_of_36 (by decide) ?_
          obtain rfl := Option.some.inj h
          exact hRet _ _ _ _ jP jD jS dX5_of_40
    · have h := itp c6 h
      refine lv_iconst (v := (-1 : Int32)) hx hb dX5_of_17 (by decide) ?_
      obtain rfl := Option.some.inj h
      exact hRet _ _ _ _ jP jD jS dX5_of_18
theorem okX5_rule : okV yX5_rule cX5_rule 2 (some .int) 1 := ⟨w_342, w_343, w_344, w_2, by decide, by decide, by decide +kernel⟩
def fX5_rule (S_x6 : Int32) (S_x7 : Int32) (S_x8 : Int32) (S_x9 : Int32) (a1 : Int32) : Option Int32 :=
  if a1 = (0 : Int32) then some S_x6 else (if a1 = (1 : Int32) then some S_x7 else (if a1 = (2 : Int32) then some S_x8 else (if a1 = (3 : Int32) then some S_x9 else (some (-1 : Int32)))))
set_option maxRecDepth 100000 in
set_option maxHeartbeats 4000000 in
theorem kX5_rule (l : Launch) (D : va_G) (cI cB cS : ClassId) (uL : Nat) (L_x6 : Int32) (L_x7 : Int32) (uS : Nat) (aS : Nat → Nat) (S_x5 : Int32) (S_x6 : Int32) (S_x7 : Int32) (S_x8 : Int32) (S_x9 : Int32) (S_r0 : (Nat → Int32)) (S_r1 : (Nat → Int32)) (S_r2 : (Nat → Int32)) (S_r3 : (Nat → Int32)) (S_r4 : (Nat → Int32)) (uE : Nat) (uD : Nat) (uT : Nat) (uV : Nat) (uP : Nat) (a1 : Int32) (z : Int32) (h : fX5_rule S_x6 S_x7 S_x8 S_x9 a1 = some z) : Mt l yX5_rule cX5_rule 2 (some .int) 0 0 D cI cB cS (lW uL uE uD uT uV uS uP L_x6 L_x7 ++ (sW cI uS aS S_x5 S_x6 S_x7 S_x8 S_x9 S_r0 S_r1 S_r2 S_r3 S_r4)) (lW uL uE uD uT uV uS uP L_x6 L_x7 ++ (sW cI uS aS S_x5 S_x6 S_x7 S_x8 S_x9 S_r0 S_r1 S_r2 S_r3 S_r4)) [.ref uL, .int a1] (some (.int z)) := by
  refine entryI (by decide +kernel) rfl (Nat.le_of_ble_eq_true rfl) ?_
  intro p e s m below meth c A ls QQ R ar F hRet jP jD jS jl
  obtain ⟨hx, hb, hml, hown, hts, jK, hA, hf1, hf2⟩ := id F
  have jl : lv_has ls 2 [(0, .ref uL), (1, .int a1)] := jl
  unfold fX5_rule at h
  refine lv_iload_n hx hb dX5_rule_0 rfl (lv_at jl 1 rfl) ?_
  by_cases hk1 : a1 = (0 : Int32)
  · have h := itp hk1 h
    refine swIn (k := 0) (tgt := 32) hx hb hk1 dX5_rule_1 (by decide) (by decide) rfl (by decide) ?_
    refine lv_aload_n hx hb dX5_rule_32 rfl (lv_at jl 0 rfl) ?_
    refine va_get (D := D) (ci := 5) (v := .ref uS) (C := RX5) (T := TX5) (N := 8) hx hb hts in5 hown jK.1 jP 0 rfl rfl 4 (by decide) (hts _ w_32) (fun _ h9 => h9) rfl dX5_rule_33 ?_
    refine va_get (D := D) (ci := 2) (v := .int S_x6) (C := RX2) (T := TX2) (N := 10) hx hb hts in2 hown jK.1 jP 1 rfl rfl 6 (by decide) (hts _ w_345) (fun _ h9 => h9) rfl dX5_rule_36 ?_
    obtain rfl := Option.some.inj h
    exact hRet _ _ _ _ jP jD jS dX5_rule_39
  · have h := itn hk1 h
    by_cases hk2 : a1 = (1 : Int32)
    · have h := itp hk2 h
      refine swIn (k := 1) (tgt := 40) hx hb hk2 dX5_rule_1 (by decide) (by decide) rfl (by decide) ?_
      refine lv_aload_n hx hb dX5_rule_40 rfl (lv_at jl 0 rfl) ?_
      refine va_get (D := D) (ci := 5) (v := .ref uS) (C := RX5) (T := TX5) (N := 8) hx hb hts in5 hown jK.1 jP 0 rfl rfl 4 (by decide) (hts _ w_32) (fun _ h9 => h9) rfl dX5_rule_41 ?_
      refine va_get (D := D) (ci := 2) (v := .int S_x7) (C := RX2) (T := TX2) (N := 10) hx hb hts in2 hown jK.1 jP 1 rfl rfl 7 (by decide) (hts _ w_346) (fun _ h9 => h9) rfl dX5_rule_44 ?_
      obtain rfl := Option.some.inj h
      exact hRet _ _ _ _ jP jD jS dX5_rule_47
    · have h := itn hk2 h
      by_cases hk3 : a1 = (2 : Int32)
      · have h := itp hk3 h
        refine swIn (k := 2) (tgt := 48) hx hb hk3 dX5_rule_1 (by decide) (by decide) rfl (by decide) ?_
        refine lv_aload_n hx hb dX5_rule_48 rfl (lv_at jl 0 rfl) ?_
        refine va_get (D := D) (ci := 5) (v := .ref uS) (C := RX5) (T := TX5) (N := 8) hx hb hts in5 hown jK.1 jP 0 rfl rfl 4 (by decide) (hts _ w_32) (fun _ h9 => h9) rfl dX5_rule_49 ?_
        refine va_get (D := D) (ci := 2) (v := .int S_x8) (C := RX2) (T := TX2) (N := 10) hx hb hts in2 hown jK.1 jP 1 rfl rfl 8 (by decide) (hts _ w_347) (fun _ h9 => h9) rfl dX5_rule_52 ?_
        obtain rfl := Option.some.inj h
        exact hRet _ _ _ _ jP jD jS dX5_rule_55
      · have h := itn hk3 h
        by_cases hk4 : a1 = (3 : Int32)
        · have h := itp hk4 h
          refine swIn (k := 3) (tgt := 56) hx hb hk4 dX5_rule_1 (by decide) (by decide) rfl (by decide) ?_
          refine lv_aload_n hx hb dX5_rule_56 rfl (lv_at jl 0 rfl) ?_
          refine va_get (D := D) (ci := 5) (v := .ref uS) (C := RX5) (T := TX5) (N := 8) hx hb hts in5 hown jK.1 jP 0 rfl rfl 4 (by decide) (hts _ w_32) (fun _ h9 => h9) rfl dX5_rule_57 ?_
          refine va_get (D := D) (ci := 2) (v := .int S_x9) (C := RX2) (T := TX2) (N := 10) hx hb hts in2 hown jK.1 jP 1 rfl rfl 9 (by decide) (hts _ w_348) (fun _ h9 => h9) rfl dX5_rule_60 ?_
          obtain rfl := Option.some.inj h
          exact hRet _ _ _ _ jP jD jS dX5_rule_63
        · have h := itn hk4 h
          refine lv_tableOut (tgt := 64) hx hb dX5_rule_1 (swNot 3 (by decide) (fun k hk => by rcases (by omega : k = 0 ∨ k = 1 ∨ k = 2 ∨ k = 3) with rfl | rfl | rfl | rfl <;> assumption)) (by decide) ?_
          refine lv_iconst (v := (-1 : Int32)) hx hb dX5_rule_64 (by decide) ?_
          obtain rfl := Option.some.inj h
          exact hRet _ _ _ _ jP jD jS dX5_rule_65
theorem okX5_torn : okV yX5_torn cX5_torn 1 (some .int) 0 := ⟨w_797, w_798, w_799, w_2, by decide, by decide, by decide +kernel⟩
def fX5_torn (L_x7 : Int32) : Option Int32 :=
  some L_x7
set_option maxRecDepth 100000 in
set_option maxHeartbeats 4000000 in
theorem kX5_torn (l : Launch) (D : va_G) (cI cB cS : ClassId) (uL : Nat) (L_x6 : Int32) (L_x7 : Int32) (uE : Nat) (uD : Nat) (uT : Nat) (uV : Nat) (uS : Nat) (uP : Nat) (z : Int32) (h : fX5_torn L_x7 = some z) : Mt l yX5_torn cX5_torn 1 (some .int) 0 0 D cI cB cS (lW uL uE uD uT uV uS uP L_x6 L_x7) (lW uL uE uD uT uV uS uP L_x6 L_x7) [.ref uL] (some (.int z)) := by
  refine entryI (by decide +kernel) rfl (Nat.le_of_ble_eq_true rfl) ?_
  intro p e s m below meth c A ls QQ R ar F hRet jP jD jS jl
  obtain ⟨hx, hb, hml, hown, hts, jK, hA, hf1, hf2⟩ := id F
  have jl : lv_has ls 1 [(0, .ref uL)] := jl
  unfold fX5_torn at h
  refine lv_aload_n hx hb dX5_torn_0 rfl (lv_at jl 0 rfl) ?_
  refine va_get (D := D) (ci := 5) (v := .int L_x7) (C := RX5) (T := TX5) (N := 8) hx hb hts in5 hown jK.1 jP 0 rfl rfl 7 (by decide) (hts _ w_35) (fun _ h9 => h9) rfl dX5_torn_1 ?_
  obtain rfl := Option.some.inj h
  exact hRet _ _ _ _ jP jD jS dX5_torn_4
theorem okX5_keep : okV yX5_keep cX5_keep 3 (some .int) 2 := ⟨w_632, w_633, w_634, w_2, by decide, by decide, by decide +kernel⟩
def fX5_keep (a1 : Int32) (a2 : Int32) : Option Int32 :=
  bd (fX5_isWithin a1 (1 : Int32) (99 : Int32)) (fun t1 => if t1 = (0 : Int32) then (some (-1 : Int32)) else (bd (fX5_isWithin a2 (0 : Int32) (999 : Int32)) (fun t4 => if t4 = (0 : Int32) then (some (-1 : Int32)) else (bd (fX5_fewestSteps a2 a1) (fun t7 => some t7)))))
set_option maxRecDepth 100000 in
set_option maxHeartbeats 4000000 in
theorem kX5_keep (l : Launch) (D : va_G) (cI cB cS : ClassId) (uL : Nat) (L_x6 : Int32) (L_x7 : Int32) (uE : Nat) (uD : Nat) (uT : Nat) (uV : Nat) (uS : Nat) (uP : Nat) (a1 : Int32) (a2 : Int32) (z : Int32) (h : fX5_keep a1 a2 = some z) : Mt l yX5_keep cX5_keep 3 (some .int) 1 22 D cI cB cS (lW uL uE uD uT uV uS uP L_x6 L_x7) (lW uL uE uD uT uV uS uP L_x6 L_x7) [.ref uL, .int a1, .int a2] (some (.int z)) := by
  refine entryI (by decide +kernel) rfl (Nat.le_of_ble_eq_true rfl) ?_
  intro p e s m below meth c A ls QQ R ar F hRet jP jD jS jl
  obtain ⟨hx, hb, hml, hown, hts, jK, hA, hf1, hf2⟩ := id F
  have jl : lv_has ls 3 [(0, .ref uL), (1, .int a1), (2, .int a2)] := jl
  unfold fX5_keep at h
  refine lv_iload_n hx hb dX5_keep_0 rfl (lv_at jl 1 rfl) ?_
  refine lv_iconst (v := (1 : Int32)) hx hb dX5_keep_1 (by decide) ?_
  refine lv_bipush (v := (99 : Int32)) hx hb dX5_keep_2 (by decide) ?_
  obtain ⟨t1, hc2, h⟩ := bd_some h
  refine call0 (As := [.int a1, .int (1 : Int32), .int (99 : Int32)]) (rest := []) (st1 := [.int t1]) F (kX5_isWithin l D cI cB cS  a1 (1 : Int32) (99 : Int32) _ hc2 ) okX5_isWithin w_105 (by decide) (by decide) ⟨Nat.zero_le _, Nat.zero_le _⟩ jP jD jS rfl jl.1 rfl rfl (Nat.le_of_ble_eq_true rfl) dX5_keep_4 (fun H locs jP jD jS => ?_)
  refine lv_if_eq (tgt := 21) hx hb dX5_keep_7 (by decide) (fun c3 => ?_) (fun c3 => ?_)
  · have h := itp c3 h
    refine lv_iconst (v := (-1 : Int32)) hx hb dX5_keep_21 (by decide) ?_
    obtain rfl := Option.some.inj h
    exact hRet _ _ _ _ jP jD jS dX5_keep_22
  · have h := itn c3 h
    refine lv_iload_n hx hb dX5_keep_10 rfl (lv_at jl 2 rfl) ?_
    refine lv_iconst (v := (0 : Int32)) hx hb dX5_keep_11 (by decide) ?_
    refine lv_sipush (v := (999 : Int32)) hx hb dX5_keep_12 (by decide) ?_
    obtain ⟨t4, hc5, h⟩ := bd_some h
    refine call0 (As := [.int a2, .int (0 : Int32), .int (999 : Int32)]) (rest := []) (st1 := [.int t4]) F (kX5_isWithin l D cI cB cS  a2 (0 : Int32) (999 : Int32) _ hc5 ) okX5_isWithin w_105 (by decide) (by decide) ⟨Nat.zero_le _, Nat.zero_le _⟩ jP jD jS rfl jl.1 rfl rfl (Nat.le_of_ble_eq_true rfl) dX5_keep_15 (fun H locs jP jD jS => ?_)
    refine lv_if_ne (tgt := 23) hx hb dX5_keep_18 (by decide) (fun c6 => ?_) (fun c6 => ?_)
    · have h := itn c6 h
      refine lv_iload_n hx hb dX5_keep_23 rfl (lv_at jl 2 rfl) ?_
      refine lv_iload_n hx hb dX5_keep_24 rfl (lv_at jl 1 rfl) ?_
      obtain ⟨t7, hc8, h⟩ := bd_some h
      refine call0 (As := [.int a2, .int a1]) (rest := []) (st1 := [.int t7]) F (kX5_fewestSteps l D cI cB cS  a2 a1 _ hc8 ) okX5_fewestSteps w_635 (by decide) (by decide) ⟨Nat.zero_le _, Nat.zero_le _⟩ jP jD jS rfl jl.1 rfl rfl (Nat.le_of_ble_eq_true rfl) dX5_keep_25 (fun H locs jP jD jS => ?_)
      obtain rfl := Option.some.inj h
      exact hRet _ _ _ _ jP jD jS dX5_keep_28
    · have h := itp c6 h
      refine lv_iconst (v := (-1 : Int32)) hx hb dX5_keep_21 (by decide) ?_
      obtain rfl := Option.some.inj h
      exact hRet _ _ _ _ jP jD jS dX5_keep_22
theorem okX5_all : okV yX5_all cX5_all 3 (some .int) 0 := ⟨w_566, w_567, w_568, w_2, by decide, by decide, by decide +kernel⟩
def fX5_all_b4 (S_x5 : Int32) (S_r0 : (Nat → Int32)) (S_r1 : (Nat → Int32)) (S_r2 : (Nat → Int32)) (v1 : (Int32 × Int32)) : Option ((Int32 × Int32) ⊕ Int32) :=
  if S_x5 ≤ v1.2 then (some (.inr v1.1)) else (ckI v1.2 8 (bd (fX2_surplus (S_r1) (S_r2) v1.2) (fun t1 => some (.inl ((v1.1 + (((800 : Int32) * (S_r0 v1.2.toNatClampNeg)) * (if (0 : Int32) < t1 then t1 else (0 : Int32)))), (v1.2 + (1 : Int32)))))))
def fX5_all (S_r0 : (Nat → Int32)) (S_r1 : (Nat → Int32)) (S_r2 : (Nat → Int32)) (S_x5 : Int32) : Option Int32 :=
  bd (loopF (fX5_all_b4 S_x5 S_r0 S_r1 S_r2) 1000 ((0 : Int32), (0 : Int32))) (fun T1 => some T1)
set_option maxRecDepth 100000 in
set_option maxHeartbeats 4000000 in
theorem kX5_all (l : Launch) (D : va_G) (cI cB cS : ClassId) (uL : Nat) (L_x6 : Int32) (L_x7 : Int32) (uS : Nat) (aS : Nat → Nat) (S_x5 : Int32) (S_x6 : Int32) (S_x7 : Int32) (S_x8 : Int32) (S_x9 : Int32) (S_r0 : (Nat → Int32)) (S_r1 : (Nat → Int32)) (S_r2 : (Nat → Int32)) (S_r3 : (Nat → Int32)) (S_r4 : (Nat → Int32)) (uE : Nat) (uD : Nat) (uT : Nat) (uV : Nat) (uP : Nat) (z : Int32) (h : fX5_all S_r0 S_r1 S_r2 S_x5 = some z) : Mt l yX5_all cX5_all 3 (some .int) 1 40 D cI cB cS (lW uL uE uD uT uV uS uP L_x6 L_x7 ++ (sW cI uS aS S_x5 S_x6 S_x7 S_x8 S_x9 S_r0 S_r1 S_r2 S_r3 S_r4)) (lW uL uE uD uT uV uS uP L_x6 L_x7 ++ (sW cI uS aS S_x5 S_x6 S_x7 S_x8 S_x9 S_r0 S_r1 S_r2 S_r3 S_r4)) [.ref uL] (some (.int z)) := by
  refine entryI (by decide +kernel) rfl (Nat.le_of_ble_eq_true rfl) ?_
  intro p e s m below meth c A ls QQ R ar F hRet jP jD jS jl
  obtain ⟨hx, hb, hml, hown, hts, jK, hA, hf1, hf2⟩ := id F
  have jl : lv_has ls 3 [(0, .ref uL)] := jl
  unfold fX5_all at h
  refine lv_iconst (v := (0 : Int32)) hx hb dX5_all_0 (by decide) ?_
  refine lv_istore_n (lv' := [(1, .int (0 : Int32)), (0, .ref uL)]) hx hb dX5_all_1 rfl jl (by decide) rfl (fun ls jl => ?_)
  refine lv_iconst (v := (0 : Int32)) hx hb dX5_all_2 (by decide) ?_
  refine lv_istore_n (lv' := [(2, .int (0 : Int32)), (1, .int (0 : Int32)), (0, .ref uL)]) hx hb dX5_all_3 rfl jl (by decide) rfl (fun ls jl => ?_)
  obtain ⟨T1, hT1, hz1⟩ := bd_some h
  clear h
  have hE1 : ∀ (H : Heap) (locs : List Loc) (ls : Array Slot), va_P D vwCl (lW uL uE uD uT uV uS uP L_x6 L_x7 ++ (sW cI uS aS S_x5 S_x6 S_x7 S_x8 S_x9 S_r0 S_r1 S_r2 S_r3 S_r4)) H → va_D A (lW uL uE uD uT uV uS uP L_x6 L_x7 ++ (sW cI uS aS S_x5 S_x6 S_x7 S_x8 S_x9 S_r0 S_r1 S_r2 S_r3 S_r4)) → va_S A s.heap H locs → lv_has ls 3 [(1, .int T1)] → W p l e R s m ar below meth c H locs 0 0 QQ (F0 m 50 ls []) := by
    clear jP jD jS jl
    intro H locs ls jP jD jS jl
    refine lv_iload_n hx hb dX5_all_50 rfl (lv_at jl 0 rfl) ?_
    obtain rfl := Option.some.inj hz1
    exact hRet _ _ _ _ jP jD jS dX5_all_51
  have hL1 : ∀ (n : Nat) (v1 : (Int32 × Int32)), loopF (fX5_all_b4 S_x5 S_r0 S_r1 S_r2) n v1 = some T1 → ∀ (H : Heap) (locs : List Loc) (ls : Array Slot), va_P D vwCl (lW uL uE uD uT uV uS uP L_x6 L_x7 ++ (sW cI uS aS S_x5 S_x6 S_x7 S_x8 S_x9 S_r0 S_r1 S_r2 S_r3 S_r4)) H → va_D A (lW uL uE uD uT uV uS uP L_x6 L_x7 ++ (sW cI uS aS S_x5 S_x6 S_x7 S_x8 S_x9 S_r0 S_r1 S_r2 S_r3 S_r4)) → va_S A s.heap H locs → lv_has ls 3 [(0, .ref uL), (1, .int v1.1), (2, .int v1.2)] → W p l e R s m ar below meth c H locs 0 0 QQ (F0 m 4 ls []) := by
    clear jP jD jS jl hT1
    intro n
    induction n with
    | zero => intro v1 hq; exact (loop_none hq).elim
    | succ n ih =>
      intro v1 hq H locs ls jP jD jS jl
      obtain ⟨o1, hv1, hq1⟩ := loop_some hq
      clear hq
      unfold fX5_all_b4 at hv1
      refine lv_iload_n hx hb dX5_all_4 rfl (lv_at jl 2 rfl) ?_
      refine lv_aload_n hx hb dX5_all_5 rfl (lv_at jl 0 rfl) ?_
      refine va_get (D := D) (ci := 5) (v := .ref uS) (C := RX5) (T := TX5) (N := 8) hx hb hts in5 hown jK.1 jP 0 rfl rfl 4 (by decide) (hts _ w_32) (fun _ h9 => h9) rfl dX5_all_6 ?_
      refine va_get (D := D) (ci := 2) (v := .int S_x5) (C := RX2) (T := TX2) (N := 10) hx hb hts in2 hown jK.1 jP 1 rfl rfl 5 (by decide) (hts _ w_276) (fun _ h9 => h9) rfl dX5_all_9 ?_
      refine lv_icmp_ge (tgt := 50) hx hb dX5_all_12 (by decide) (fun c2 => ?_) (fun c2 => ?_)
      · have hv1 := itp c2 hv1
        obtain rfl := Option.some.inj hv1
        obtain rfl := nxt_r hq1
        exact hE1 _ _ _ jP jD jS (lv_sub jl [1] rfl)
      · have hv1 := itn c2 hv1
        refine lv_iload_n hx hb dX5_all_15 rfl (lv_at jl 1 rfl) ?_
        refine lv_sipush (v := (800 : Int32)) hx hb dX5_all_16 (by decide) ?_
        refine lv_aload_n hx hb dX5_all_19 rfl (lv_at jl 0 rfl) ?_
        refine va_get (D := D) (ci := 5) (v := .ref uS) (C := RX5) (T := TX5) (N := 8) hx hb hts in5 hown jK.1 jP 0 rfl rfl 4 (by decide) (hts _ w_32) (fun _ h9 => h9) rfl dX5_all_20 ?_
        refine va_get (D := D) (ci := 2) (v := .ref (aS 0)) (C := RX2) (T := TX2) (N := 10) hx hb hts in2 hown jK.1 jP 1 rfl rfl 0 (by decide) (hts _ w_569) (fun _ h9 => h9) rfl dX5_all_23 ?_
        refine lv_iload_n hx hb dX5_all_26 rfl (lv_at jl 2 rfl) ?_
        obtain ⟨hin, hv1⟩ := ckI_some hv1
        refine va_iald (f := S_r0) hx hb jK.1 jP 2 0 rfl rfl hin dX5_all_27 ?_
        refine lv_imul hx hb dX5_all_28 ?_
        refine lv_iconst (v := (0 : Int32)) hx hb dX5_all_29 (by decide) ?_
        refine lv_aload_n hx hb dX5_all_30 rfl (lv_at jl 0 rfl) ?_
        refine va_get (D := D) (ci := 5) (v := .ref uS) (C := RX5) (T := TX5) (N := 8) hx hb hts in5 hown jK.1 jP 0 rfl rfl 4 (by decide) (hts _ w_32) (fun _ h9 => h9) rfl dX5_all_31 ?_
        refine lv_iload_n hx hb dX5_all_34 rfl (lv_at jl 2 rfl) ?_
        obtain ⟨t3, hc4, hv1⟩ := bd_some hv1
        refine callP (wc := (sW cI uS aS S_x5 S_x6 S_x7 S_x8 S_x9 S_r0 S_r1 S_r2 S_r3 S_r4)) (wr := (lW uL uE uD uT uV uS uP L_x6 L_x7)) (w1 := (sW cI uS aS S_x5 S_x6 S_x7 S_x8 S_x9 S_r0 S_r1 S_r2 S_r3 S_r4)) (ws1 := (lW uL uE uD uT uV uS uP L_x6 L_x7 ++ (sW cI uS aS S_x5 S_x6 S_x7 S_x8 S_x9 S_r0 S_r1 S_r2 S_r3 S_r4))) (As := [.int v1.2]) (rest := [.int (0 : Int32), .int ((800 : Int32) * (S_r0 v1.2.toNatClampNeg)), .int v1.1]) (st1 := [.int t3, .int (0 : Int32), .int ((800 : Int32) * (S_r0 v1.2.toNatClampNeg)), .int v1.1]) 0 [1, 2, 3, 4, 5, 6] [0] [0, 1, 2, 3, 4, 5, 6] F (kX2_surplus l D cI cB cS uS aS S_x5 S_x6 S_x7 S_x8 S_x9 S_r0 S_r1 S_r2 S_r3 S_r4 v1.2 _ hc4 ) okX2_surplus w_570 (by decide) (by decide) ⟨Nat.zero_le _, Nat.zero_le _⟩ rfl rfl rfl jP jD jS rfl jl.1 rfl rfl (Nat.le_of_ble_eq_true rfl) dX5_all_35 rfl rfl (by decide) (by decide) (by decide) rfl (by decide) (fun H locs jP jD jS => ?_)
        refine va_mmax hx hb (hml.trans jl.1.symm) hown (hts _ w_473) (hts _ w_304) (hts _ w_305) (hts _ w_306) (Nat.le_trans (by decide) hf1) (Nat.le_trans (Nat.le_of_ble_eq_true rfl) hf2) (Nat.zero_le _) (Nat.zero_le _) dX5_all_38 ?_
        refine lv_imul hx hb dX5_all_41 ?_
        refine lv_iadd hx hb dX5_all_42 ?_
        refine lv_istore_n (lv' := [(1, .int (v1.1 + (((800 : Int32) * (S_r0 v1.2.toNatClampNeg)) * (if (0 : Int32) < t3 then t3 else (0 : Int32))))), (0, .ref uL), (2, .int v1.2)]) hx hb dX5_all_43 rfl jl (by decide) rfl (fun ls jl => ?_)
        refine lv_iinc (v := (v1.2 + (1 : Int32))) (lv' := [(2, .int (v1.2 + (1 : Int32))), (1, .int (v1.1 + (((800 : Int32) * (S_r0 v1.2.toNatClampNeg)) * (if (0 : Int32) < t3 then t3 else (0 : Int32))))), (0, .ref uL)]) hx hb dX5_all_44 jl (k := 2) rfl rfl (by decide) rfl (fun ls jl => ?_)
        refine lv_goto (tgt := 4) hx hb dX5_all_47 (by decide) ?_
        obtain rfl := Option.some.inj hv1
        exact ih _ (nxt_l hq1) _ _ _ jP jD jS (lv_sub jl [2, 1, 0] rfl)
  exact hL1 1000 _ hT1 _ _ _ jP jD jS (lv_sub jl [2, 1, 0] rfl)
theorem okX5_sheet : okV yX5_sheet cX5_sheet 4 (some .int) 3 := ⟨w_747, w_748, w_749, w_2, by decide, by decide, by decide +kernel⟩
def fX5_sheet (H0_r0 : (Nat → Int32)) (H0_x1 : Int32) (H0_x2 : Int32) (H1_r0 : (Nat → Int32)) (H1_x1 : Int32) (H1_x2 : Int32) (H2_r0 : (Nat → Int32)) (H2_x1 : Int32) (H2_x2 : Int32) (H3_r0 : (Nat → Int32)) (H3_x1 : Int32) (H3_x2 : Int32) (a1 : Int32) (a2 : Int32) (a3 : Int32) : Option (Int32 × (Nat → Int32) × Int32 × Int32 × (Nat → Int32) × Int32 × Int32 × (Nat → Int32) × Int32 × Int32 × (Nat → Int32) × Int32 × Int32) :=
  bd (fX5_isWithin a1 (0 : Int32) (3 : Int32)) (fun t1 => if t1 = (0 : Int32) then (some ((-1 : Int32), H0_r0, H0_x1, H0_x2, H1_r0, H1_x1, H1_x2, H2_r0, H2_x1, H2_x2, H3_r0, H3_x1, H3_x2)) else (bd (fX5_isWithin a2 (0 : Int32) (2 : Int32)) (fun t4 => if t4 = (0 : Int32) then (some ((-1 : Int32), H0_r0, H0_x1, H0_x2, H1_r0, H1_x1, H1_x2, H2_r0, H2_x1, H2_x2, H3_r0, H3_x1, H3_x2)) else (if a3 ≤ (40 : Int32) then (if (0 : Int32) ≤ a3 then (if a1 = (0 : Int32) then (bd (fX1_renew (H0_r0) a2 a3) (fun t10 => some ((1 : Int32), t10.1, t10.2.1, t10.2.2, H1_r0, H1_x1, H1_x2, H2_r0, H2_x1, H2_x2, H3_r0, H3_x1, H3_x2))) else (if a1 = (1 : Int32) then (bd (fX1_renew (H1_r0) a2 a3) (fun t13 => some ((1 : Int32), H0_r0, H0_x1, H0_x2, t13.1, t13.2.1, t13.2.2, H2_r0, H2_x1, H2_x2, H3_r0, H3_x1, H3_x2))) else (if a1 = (2 : Int32) then (bd (fX1_renew (H2_r0) a2 a3) (fun t16 => some ((1 : Int32), H0_r0, H0_x1, H0_x2, H1_r0, H1_x1, H1_x2, t16.1, t16.2.1, t16.2.2, H3_r0, H3_x1, H3_x2))) else (if a1 = (3 : Int32) then (bd (fX1_renew (H3_r0) a2 a3) (fun t19 => some ((1 : Int32), H0_r0, H0_x1, H0_x2, H1_r0, H1_x1, H1_x2, H2_r0, H2_x1, H2_x2, t19.1, t19.2.1, t19.2.2))) else (none))))) else (some ((-14 : Int32), H0_r0, H0_x1, H0_x2, H1_r0, H1_x1, H1_x2, H2_r0, H2_x1, H2_x2, H3_r0, H3_x1, H3_x2))) else (some ((-1 : Int32), H0_r0, H0_x1, H0_x2, H1_r0, H1_x1, H1_x2, H2_r0, H2_x1, H2_x2, H3_r0, H3_x1, H3_x2))))))
set_option maxRecDepth 100000 in
set_option maxHeartbeats 4000000 in
theorem kX5_sheet (l : Launch) (D : va_G) (cI cB cS : ClassId) (uL : Nat) (L_x6 : Int32) (L_x7 : Int32) (uV : Nat) (uH0 : Nat) (aH0 : Nat → Nat) (H0_x1 : Int32) (H0_x2 : Int32) (H0_r0 : (Nat → Int32)) (uH1 : Nat) (aH1 : Nat → Nat) (H1_x1 : Int32) (H1_x2 : Int32) (H1_r0 : (Nat → Int32)) (uH2 : Nat) (aH2 : Nat → Nat) (H2_x1 : Int32) (H2_x2 : Int32) (H2_r0 : (Nat → Int32)) (uH3 : Nat) (aH3 : Nat → Nat) (H3_x1 : Int32) (H3_x2 : Int32) (H3_r0 : (Nat → Int32)) (uE : Nat) (uD : Nat) (uT : Nat) (uS : Nat) (uP : Nat) (a1 : Int32) (a2 : Int32) (a3 : Int32) (z : (Int32 × (Nat → Int32) × Int32 × Int32 × (Nat → Int32) × Int32 × Int32 × (Nat → Int32) × Int32 × Int32 × (Nat → Int32) × Int32 × Int32)) (h : fX5_sheet H0_r0 H0_x1 H0_x2 H1_r0 H1_x1 H1_x2 H2_r0 H2_x1 H2_x2 H3_r0 H3_x1 H3_x2 a1 a2 a3 = some z) : Mt l yX5_sheet cX5_sheet 4 (some .int) 1 23 D cI cB cS (lW uL uE uD uT uV uS uP L_x6 L_x7 ++ (vW cS uV (q4 uH0 uH1 uH2 uH3) ++ (hW cI uH0 aH0 H0_x1 H0_x2 H0_r0 ++ (hW cI uH1 aH1 H1_x1 H1_x2 H1_r0 ++ (hW cI uH2 aH2 H2_x1 H2_x2 H2_r0 ++ (hW cI uH3 aH3 H3_x1 H3_x2 H3_r0)))))) (lW uL uE uD uT uV uS uP L_x6 L_x7 ++ (vW cS uV (q4 uH0 uH1 uH2 uH3) ++ (hW cI uH0 aH0 z.2.2.1 z.2.2.2.1 z.2.1 ++ (hW cI uH1 aH1 z.2.2.2.2.2.1 z.2.2.2.2.2.2.1 z.2.2.2.2.1 ++ (hW cI uH2 aH2 z.2.2.2.2.2.2.2.2.1 z.2.2.2.2.2.2.2.2.2.1 z.2.2.2.2.2.2.2.1 ++ (hW cI uH3 aH3 z.2.2.2.2.2.2.2.2.2.2.2.1 z.2.2.2.2.2.2.2.2.2.2.2.2 z.2.2.2.2.2.2.2.2.2.2.1)))))) [.ref uL, .int a1, .int a2, .int a3] (some (.int z.1)) := by
  refine entryI (by decide +kernel) rfl (Nat.le_of_ble_eq_true rfl) ?_
  intro p e s m below meth c A ls QQ R ar F hRet jP jD jS jl
  obtain ⟨hx, hb, hml, hown, hts, jK, hA, hf1, hf2⟩ := id F
  have jl : lv_has ls 4 [(0, .ref uL), (1, .int a1), (2, .int a2), (3, .int a3)] := jl
  unfold fX5_sheet at h
  refine lv_iload_n hx hb dX5_sheet_0 rfl (lv_at jl 1 rfl) ?_
  refine lv_iconst (v := (0 : Int32)) hx hb dX5_sheet_1 (by decide) ?_
  refine lv_iconst (v := (3 : Int32)) hx hb dX5_sheet_2 (by decide) ?_
  obtain ⟨t1, hc2, h⟩ := bd_some h
  refine call0 (As := [.int a1, .int (0 : Int32), .int (3 : Int32)]) (rest := []) (st1 := [.int t1]) F (kX5_isWithin l D cI cB cS  a1 (0 : Int32) (3 : Int32) _ hc2 ) okX5_isWithin w_105 (by decide) (by decide) ⟨Nat.zero_le _, Nat.zero_le _⟩ jP jD jS rfl jl.1 rfl rfl (Nat.le_of_ble_eq_true rfl) dX5_sheet_3 (fun H locs jP jD jS => ?_)
  refine lv_if_eq (tgt := 24) hx hb dX5_sheet_6 (by decide) (fun c3 => ?_) (fun c3 => ?_)
  · have h := itp c3 h
    refine lv_iconst (v := (-1 : Int32)) hx hb dX5_sheet_24 (by decide) ?_
    obtain rfl := Option.some.inj h
    exact hRet _ _ _ _ jP jD jS dX5_sheet_25
  · have h := itn c3 h
    refine lv_iload_n hx hb dX5_sheet_9 rfl (lv_at jl 2 rfl) ?_
    refine lv_iconst (v := (0 : Int32)) hx hb dX5_sheet_10 (by decide) ?_
    refine lv_iconst (v := (2 : Int32)) hx hb dX5_sheet_11 (by decide) ?_
    obtain ⟨t4, hc5, h⟩ := bd_some h
    refine call0 (As := [.int a2, .int (0 : Int32), .int (2 : Int32)]) (rest := []) (st1 := [.int t4]) F (kX5_isWithin l D cI cB cS  a2 (0 : Int32) (2 : Int32) _ hc5 ) okX5_isWithin w_105 (by decide) (by decide) ⟨Nat.zero_le _, Nat.zero_le _⟩ jP jD jS rfl jl.1 rfl rfl (Nat.le_of_ble_eq_true rfl) dX5_sheet_12 (fun H locs jP jD jS => ?_)
    refine lv_if_eq (tgt := 24) hx hb dX5_sheet_15 (by decide) (fun c6 => ?_) (fun c6 => ?_)
    · have h := itp c6 h
      refine lv_iconst (v := (-1 : Int32)) hx hb dX5_sheet_24 (by decide) ?_
      obtain rfl := Option.some.inj h
      exact hRet _ _ _ _ jP jD jS dX5_sheet_25
    · have h := itn c6 h
      refine lv_iload_n hx hb dX5_sheet_18 rfl (lv_at jl 3 rfl) ?_
      refine lv_bipush (v := (40 : Int32)) hx hb dX5_sheet_19 (by decide) ?_
      refine lv_icmp_le (tgt := 26) hx hb dX5_sheet_21 (by decide) (fun c7 => ?_) (fun c7 => ?_)
      · have h := itp c7 h
        refine lv_iload_n hx hb dX5_sheet_26 rfl (lv_at jl 3 rfl) ?_
        refine lv_if_ge (tgt := 33) hx hb dX5_sheet_27 (by decide) (fun c8 => ?_) (fun c8 => ?_)
        · have h := itp c8 h
          refine lv_aload_n hx hb dX5_sheet_33 rfl (lv_at jl 0 rfl) ?_
          refine va_get (D := D) (ci := 5) (v := .ref uV) (C := RX5) (T := TX5) (N := 8) hx hb hts in5 hown jK.1 jP 0 rfl rfl 3 (by decide) (hts _ w_26) (fun _ h9 => h9) rfl dX5_sheet_34 ?_
          refine lv_iload_n hx hb dX5_sheet_37 rfl (lv_at jl 1 rfl) ?_
          by_cases hk9 : a1 = (0 : Int32)
          · have h := itp hk9 h
            refine va_aldq (C := RX1) hx hb jK.1 jP 1 2 rfl rfl (by rw [hk9]; unfold vp_in; decide) dX5_sheet_38 ?_
            refine W.eq (g2 := F0 m 39 ls (.ref uH0 :: [])) (by rw [hk9]; rfl) ?_
            refine lv_iload_n hx hb dX5_sheet_39 rfl (lv_at jl 2 rfl) ?_
            refine lv_iload_n hx hb dX5_sheet_40 rfl (lv_at jl 3 rfl) ?_
            obtain ⟨t10, hc11, h⟩ := bd_some h
            refine callP (wc := (hW cI uH0 aH0 H0_x1 H0_x2 H0_r0)) (wr := (lW uL uE uD uT uV uS uP L_x6 L_x7 ++ (vW cS uV (q4 uH0 uH1 uH2 uH3) ++ (hW cI uH1 aH1 H1_x1 H1_x2 H1_r0 ++ (hW cI uH2 aH2 H2_x1 H2_x2 H2_r0 ++ (hW cI uH3 aH3 H3_x1 H3_x2 H3_r0)))))) (w1 := (hW cI uH0 aH0 t10.2.1 t10.2.2 t10.1)) (ws1 := (lW uL uE uD uT uV uS uP L_x6 L_x7 ++ (vW cS uV (q4 uH0 uH1 uH2 uH3) ++ (hW cI uH0 aH0 t10.2.1 t10.2.2 t10.1 ++ (hW cI uH1 aH1 H1_x1 H1_x2 H1_r0 ++ (hW cI uH2 aH2 H2_x1 H2_x2 H2_r0 ++ (hW cI uH3 aH3 H3_x1 H3_x2 H3_r0))))))) (As := [.int a2, .int a3]) (rest := []) (st1 := []) 0 [2, 3] [0, 1, 4, 5, 6, 7, 8, 9] [0, 1, 8, 9, 2, 3, 4, 5, 6, 7] F (kX1_renew l D cI cB cS uH0 aH0 H0_x1 H0_x2 H0_r0 a2 a3 _ hc11 ) okX1_renew w_750 (by decide) (by decide) ⟨Nat.zero_le _, Nat.zero_le _⟩ rfl rfl rfl jP jD jS rfl jl.1 rfl rfl (Nat.le_of_ble_eq_true rfl) dX5_sheet_41 rfl rfl (by decide) (by decide) (by decide) rfl (by decide) (fun H locs jP jD jS => ?_)
            refine lv_iconst (v := (1 : Int32)) hx hb dX5_sheet_44 (by decide) ?_
            obtain rfl := Option.some.inj h
            exact hRet _ _ _ _ jP jD jS dX5_sheet_45
          · have h := itn hk9 h
            by_cases hk12 : a1 = (1 : Int32)
            · have h := itp hk12 h
              refine va_aldq (C := RX1) hx hb jK.1 jP 1 2 rfl rfl (by rw [hk12]; unfold vp_in; decide) dX5_sheet_38 ?_
              refine W.eq (g2 := F0 m 39 ls (.ref uH1 :: [])) (by rw [hk12]; rfl) ?_
              refine lv_iload_n hx hb dX5_sheet_39 rfl (lv_at jl 2 rfl) ?_
              refine lv_iload_n hx hb dX5_sheet_40 rfl (lv_at jl 3 rfl) ?_
              obtain ⟨t13, hc14, h⟩ := bd_some h
              refine callP (wc := (hW cI uH1 aH1 H1_x1 H1_x2 H1_r0)) (wr := (lW uL uE uD uT uV uS uP L_x6 L_x7 ++ (vW cS uV (q4 uH0 uH1 uH2 uH3) ++ (hW cI uH0 aH0 H0_x1 H0_x2 H0_r0 ++ (hW cI uH2 aH2 H2_x1 H2_x2 H2_r0 ++ (hW cI uH3 aH3 H3_x1 H3_x2 H3_r0)))))) (w1 := (hW cI uH1 aH1 t13.2.1 t13.2.2 t13.1)) (ws1 := (lW uL uE uD uT uV uS uP L_x6 L_x7 ++ (vW cS uV (q4 uH0 uH1 uH2 uH3) ++ (hW cI uH0 aH0 H0_x1 H0_x2 H0_r0 ++ (hW cI uH1 aH1 t13.2.1 t13.2.2 t13.1 ++ (hW cI uH2 aH2 H2_x1 H2_x2 H2_r0 ++ (hW cI uH3 aH3 H3_x1 H3_x2 H3_r0))))))) (As := [.int a2, .int a3]) (rest := []) (st1 := []) 0 [4, 5] [0, 1, 2, 3, 6, 7, 8, 9] [0, 1, 2, 3, 8, 9, 4, 5, 6, 7] F (kX1_renew l D cI cB cS uH1 aH1 H1_x1 H1_x2 H1_r0 a2 a3 _ hc14 ) okX1_renew w_750 (by decide) (by decide) ⟨Nat.zero_le _, Nat.zero_le _⟩ rfl rfl rfl jP jD jS rfl jl.1 rfl rfl (Nat.le_of_ble_eq_true rfl) dX5_sheet_41 rfl rfl (by decide) (by decide) (by decide) rfl (by decide) (fun H locs jP jD jS => ?_)
              refine lv_iconst (v := (1 : Int32)) hx hb dX5_sheet_44 (by decide) ?_
              obtain rfl := Option.some.inj h
              exact hRet _ _ _ _ jP jD jS dX5_sheet_45
            · have h := itn hk12 h
              by_cases hk15 : a1 = (2 : Int32)
              · have h := itp hk15 h
                refine va_aldq (C := RX1) hx hb jK.1 jP 1 2 rfl rfl (by rw [hk15]; unfold vp_in; decide) dX5_sheet_38 ?_
                refine W.eq (g2 := F0 m 39 ls (.ref uH2 :: [])) (by rw [hk15]; rfl) ?_
                refine lv_iload_n hx hb dX5_sheet_39 rfl (lv_at jl 2 rfl) ?_
                refine lv_iload_n hx hb dX5_sheet_40 rfl (lv_at jl 3 rfl) ?_
                obtain ⟨t16, hc17, h⟩ := bd_some h
                refine callP (wc := (hW cI uH2 aH2 H2_x1 H2_x2 H2_r0)) (wr := (lW uL uE uD uT uV uS uP L_x6 L_x7 ++ (vW cS uV (q4 uH0 uH1 uH2 uH3) ++ (hW cI uH0 aH0 H0_x1 H0_x2 H0_r0 ++ (hW cI uH1 aH1 H1_x1 H1_x2 H1_r0 ++ (hW cI uH3 aH3 H3_x1 H3_x2 H3_r0)))))) (w1 := (hW cI uH2 aH2 t16.2.1 t16.2.2 t16.1)) (ws1 := (lW uL uE uD uT uV uS uP L_x6 L_x7 ++ (vW cS uV (q4 uH0 uH1 uH2 uH3) ++ (hW cI uH0 aH0 H0_x1 H0_x2 H0_r0 ++ (hW cI uH1 aH1 H1_x1 H1_x2 H1_r0 ++ (hW cI uH2 aH2 t16.2.1 t16.2.2 t16.1 ++ (hW cI uH3 aH3 H3_x1 H3_x2 H3_r0))))))) (As := [.int a2, .int a3]) (rest := []) (st1 := []) 0 [6, 7] [0, 1, 2, 3, 4, 5, 8, 9] [0, 1, 2, 3, 4, 5, 8, 9, 6, 7] F (kX1_renew l D cI cB cS uH2 aH2 H2_x1 H2_x2 H2_r0 a2 a3 _ hc17 ) okX1_renew w_750 (by decide) (by decide) ⟨Nat.zero_le _, Nat.zero_le _⟩ rfl rfl rfl jP jD jS rfl jl.1 rfl rfl (Nat.le_of_ble_eq_true rfl) dX5_sheet_41 rfl rfl (by decide) (by decide) (by decide) rfl (by decide) (fun H locs jP jD jS => ?_)
                refine lv_iconst (v := (1 : Int32)) hx hb dX5_sheet_44 (by decide) ?_
                obtain rfl := Option.some.inj h
                exact hRet _ _ _ _ jP jD jS dX5_sheet_45
              · have h := itn hk15 h
                by_cases hk18 : a1 = (3 : Int32)
                · have h := itp hk18 h
                  refine va_aldq (C := RX1) hx hb jK.1 jP 1 2 rfl rfl (by rw [hk18]; unfold vp_in; decide) dX5_sheet_38 ?_
                  refine W.eq (g2 := F0 m 39 ls (.ref uH3 :: [])) (by rw [hk18]; rfl) ?_
                  refine lv_iload_n hx hb dX5_sheet_39 rfl (lv_at jl 2 rfl) ?_
                  refine lv_iload_n hx hb dX5_sheet_40 rfl (lv_at jl 3 rfl) ?_
                  obtain ⟨t19, hc20, h⟩ := bd_some h
                  refine callP (wc := (hW cI uH3 aH3 H3_x1 H3_x2 H3_r0)) (wr := (lW uL uE uD uT uV uS uP L_x6 L_x7 ++ (vW cS uV (q4 uH0 uH1 uH2 uH3) ++ (hW cI uH0 aH0 H0_x1 H0_x2 H0_r0 ++ (hW cI uH1 aH1 H1_x1 H1_x2 H1_r0 ++ (hW cI uH2 aH2 H2_x1 H2_x2 H2_r0)))))) (w1 := (hW cI uH3 aH3 t19.2.1 t19.2.2 t19.1)) (ws1 := (lW uL uE uD uT uV uS uP L_x6 L_x7 ++ (vW cS uV (q4 uH0 uH1 uH2 uH3) ++ (hW cI uH0 aH0 H0_x1 H0_x2 H0_r0 ++ (hW cI uH1 aH1 H1_x1 H1_x2 H1_r0 ++ (hW cI uH2 aH2 H2_x1 H2_x2 H2_r0 ++ (hW cI uH3 aH3 t19.2.1 t19.2.2 t19.1))))))) (As := [.int a2, .int a3]) (rest := []) (st1 := []) 0 [8, 9] [0, 1, 2, 3, 4, 5, 6, 7] [0, 1, 2, 3, 4, 5, 6, 7, 8, 9] F (kX1_renew l D cI cB cS uH3 aH3 H3_x1 H3_x2 H3_r0 a2 a3 _ hc20 ) okX1_renew w_750 (by decide) (by decide) ⟨Nat.zero_le _, Nat.zero_le _⟩ rfl rfl rfl jP jD jS rfl jl.1 rfl rfl (Nat.le_of_ble_eq_true rfl) dX5_sheet_41 rfl rfl (by decide) (by decide) (by decide) rfl (by decide) (fun H locs jP jD jS => ?_)
                  refine lv_iconst (v := (1 : Int32)) hx hb dX5_sheet_44 (by decide) ?_
                  obtain rfl := Option.some.inj h
                  exact hRet _ _ _ _ jP jD jS dX5_sheet_45
                · have h := itn hk18 h
                  cases h
        · have h := itn c8 h
          refine lv_bipush (v := (-14 : Int32)) hx hb dX5_sheet_30 (by decide) ?_
          obtain rfl := Option.some.inj h
          exact hRet _ _ _ _ jP jD jS dX5_sheet_32
      · have h := itn c7 h
        refine lv_iconst (v := (-1 : Int32)) hx hb dX5_sheet_24 (by decide) ?_
        obtain rfl := Option.some.inj h
        exact hRet _ _ _ _ jP jD jS dX5_sheet_25
theorem okX5_lay : okV yX5_lay cX5_lay 6 (some .int) 3 := ⟨w_760, w_761, w_762, w_2, by decide, by decide, by decide +kernel⟩
def fX5_lay (H0_r0 : (Nat → Int32)) (H0_x1 : Int32) (H0_x2 : Int32) (H1_r0 : (Nat → Int32)) (H1_x1 : Int32) (H1_x2 : Int32) (H2_r0 : (Nat → Int32)) (H2_x1 : Int32) (H2_x2 : Int32) (H3_r0 : (Nat → Int32)) (H3_x1 : Int32) (H3_x2 : Int32) (a1 : Int32) (a2 : Int32) (a3 : Int32) : Option (Int32 × (Nat → Int32) × (Nat → Int32) × (Nat → Int32) × (Nat → Int32)) :=
  bd (fX5_isWithin a1 (0 : Int32) (3 : Int32)) (fun t1 => if t1 = (0 : Int32) then (some ((-1 : Int32), H0_r0, H1_r0, H2_r0, H3_r0)) else (if a1 = (0 : Int32) then (bd (fX1_faultAt (H0_x1) (H0_x2) (H0_x2) a2 (1 : Int32)) (fun t5 => if t5 = (0 : Int32) then (bd (fX1_lowestBits (H0_x2) a3) (fun t8 => ckI a2 40 (some ((1 : Int32), (upd H0_r0 a2.toNatClampNeg t8), H1_r0, H2_r0, H3_r0)))) else (some (((-10 : Int32) - t5), H0_r0, H1_r0, H2_r0, H3_r0)))) else (if a1 = (1 : Int32) then (bd (fX1_faultAt (H1_x1) (H1_x2) (H1_x2) a2 (1 : Int32)) (fun t11 => if t11 = (0 : Int32) then (bd (fX1_lowestBits (H1_x2) a3) (fun t14 => ckI a2 40 (some ((1 : Int32), H0_r0, (upd H1_r0 a2.toNatClampNeg t14), H2_r0, H3_r0)))) else (some (((-10 : Int32) - t11), H0_r0, H1_r0, H2_r0, H3_r0)))) else (if a1 = (2 : Int32) then (bd (fX1_faultAt (H2_x1) (H2_x2) (H2_x2) a2 (1 : Int32)) (fun t17 => if t17 = (0 : Int32) then (bd (fX1_lowestBits (H2_x2) a3) (fun t20 => ckI a2 40 (some ((1 : Int32), H0_r0, H1_r0, (upd H2_r0 a2.toNatClampNeg t20), H3_r0)))) else (some (((-10 : Int32) - t17), H0_r0, H1_r0, H2_r0, H3_r0)))) else (if a1 = (3 : Int32) then (bd (fX1_faultAt (H3_x1) (H3_x2) (H3_x2) a2 (1 : Int32)) (fun t23 => if t23 = (0 : Int32) then (bd (fX1_lowestBits (H3_x2) a3) (fun t26 => ckI a2 40 (some ((1 : Int32), H0_r0, H1_r0, H2_r0, (upd H3_r0 a2.toNatClampNeg t26))))) else (some (((-10 : Int32) - t23), H0_r0, H1_r0, H2_r0, H3_r0)))) else (none))))))
set_option maxRecDepth 100000 in
set_option maxHeartbeats 4000000 in
theorem kX5_lay (l : Launch) (D : va_G) (cI cB cS : ClassId) (uL : Nat) (L_x6 : Int32) (L_x7 : Int32) (uV : Nat) (uH0 : Nat) (aH0 : Nat → Nat) (H0_x1 : Int32) (H0_x2 : Int32) (H0_r0 : (Nat → Int32)) (uH1 : Nat) (aH1 : Nat → Nat) (H1_x1 : Int32) (H1_x2 : Int32) (H1_r0 : (Nat → Int32)) (uH2 : Nat) (aH2 : Nat → Nat) (H2_x1 : Int32) (H2_x2 : Int32) (H2_r0 : (Nat → Int32)) (uH3 : Nat) (aH3 : Nat → Nat) (H3_x1 : Int32) (H3_x2 : Int32) (H3_r0 : (Nat → Int32)) (uE : Nat) (uD : Nat) (uT : Nat) (uS : Nat) (uP : Nat) (a1 : Int32) (a2 : Int32) (a3 : Int32) (z : (Int32 × (Nat → Int32) × (Nat → Int32) × (Nat → Int32) × (Nat → Int32))) (h : fX5_lay H0_r0 H0_x1 H0_x2 H1_r0 H1_x1 H1_x2 H2_r0 H2_x1 H2_x2 H3_r0 H3_x1 H3_x2 a1 a2 a3 = some z) : Mt l yX5_lay cX5_lay 6 (some .int) 2 45 D cI cB cS (lW uL uE uD uT uV uS uP L_x6 L_x7 ++ (vW cS uV (q4 uH0 uH1 uH2 uH3) ++ (hW cI uH0 aH0 H0_x1 H0_x2 H0_r0 ++ (hW cI uH1 aH1 H1_x1 H1_x2 H1_r0 ++ (hW cI uH2 aH2 H2_x1 H2_x2 H2_r0 ++ (hW cI uH3 aH3 H3_x1 H3_x2 H3_r0)))))) (lW uL uE uD uT uV uS uP L_x6 L_x7 ++ (vW cS uV (q4 uH0 uH1 uH2 uH3) ++ (hW cI uH0 aH0 H0_x1 H0_x2 z.2.1 ++ (hW cI uH1 aH1 H1_x1 H1_x2 z.2.2.1 ++ (hW cI uH2 aH2 H2_x1 H2_x2 z.2.2.2.1 ++ (hW cI uH3 aH3 H3_x1 H3_x2 z.2.2.2.2)))))) [.ref uL, .int a1, .int a2, .int a3] (some (.int z.1)) := by
  refine entryI (by decide +kernel) rfl (Nat.le_of_ble_eq_true rfl) ?_
  intro p e s m below meth c A ls QQ R ar F hRet jP jD jS jl
  obtain ⟨hx, hb, hml, hown, hts, jK, hA, hf1, hf2⟩ := id F
  have jl : lv_has ls 6 [(0, .ref uL), (1, .int a1), (2, .int a2), (3, .int a3)] := jl
  unfold fX5_lay at h
  refine lv_iload_n hx hb dX5_lay_0 rfl (lv_at jl 1 rfl) ?_
  refine lv_iconst (v := (0 : Int32)) hx hb dX5_lay_1 (by decide) ?_
  refine lv_iconst (v := (3 : Int32)) hx hb dX5_lay_2 (by decide) ?_
  obtain ⟨t1, hc2, h⟩ := bd_some h
  refine call0 (As := [.int a1, .int (0 : Int32), .int (3 : Int32)]) (rest := []) (st1 := [.int t1]) F (kX5_isWithin l D cI cB cS  a1 (0 : Int32) (3 : Int32) _ hc2 ) okX5_isWithin w_105 (by decide) (by decide) ⟨Nat.zero_le _, Nat.zero_le _⟩ jP jD jS rfl jl.1 rfl rfl (Nat.le_of_ble_eq_true rfl) dX5_lay_3 (fun H locs jP jD jS => ?_)
  refine lv_if_ne (tgt := 11) hx hb dX5_lay_6 (by decide) (fun c3 => ?_) (fun c3 => ?_)
  · have h := itn c3 h
    refine lv_aload_n hx hb dX5_lay_11 rfl (lv_at jl 0 rfl) ?_
    refine va_get (D := D) (ci := 5) (v := .ref uV) (C := RX5) (T := TX5) (N := 8) hx hb hts in5 hown jK.1 jP 0 rfl rfl 3 (by decide) (hts _ w_26) (fun _ h9 => h9) rfl dX5_lay_12 ?_
    refine lv_iload_n hx hb dX5_lay_15 rfl (lv_at jl 1 rfl) ?_
    by_cases hk4 : a1 = (0 : Int32)
    · have h := itp hk4 h
      refine va_aldq (C := RX1) hx hb jK.1 jP 1 2 rfl rfl (by rw [hk4]; unfold vp_in; decide) dX5_lay_16 ?_
      refine W.eq (g2 := F0 m 17 ls (.ref uH0 :: [])) (by rw [hk4]; rfl) ?_
      refine lv_astore (lv' := [(4, .ref uH0), (0, .ref uL), (1, .int a1), (2, .int a2), (3, .int a3)]) hx hb dX5_lay_17 jl (by decide) rfl (fun ls jl => ?_)
      refine lv_aload hx hb dX5_lay_19 (lv_at jl 0 rfl) ?_
      refine lv_aload hx hb dX5_lay_21 (lv_at jl 0 rfl) ?_
      refine va_get (D := D) (ci := 1) (v := .int H0_x2) (C := RX1) (T := TX1) (N := 3) hx hb hts in1 hown jK.1 jP 2 rfl rfl 2 (by decide) (hts _ w_763) (fun _ h9 => h9) rfl dX5_lay_23 ?_
      refine lv_iload_n hx hb dX5_lay_26 rfl (lv_at jl 3 rfl) ?_
      refine lv_iconst (v := (1 : Int32)) hx hb dX5_lay_27 (by decide) ?_
      obtain ⟨t5, hc6, h⟩ := bd_some h
      refine callP (wc := (hW cI uH0 aH0 H0_x1 H0_x2 H0_r0)) (wr := (lW uL uE uD uT uV uS uP L_x6 L_x7 ++ (vW cS uV (q4 uH0 uH1 uH2 uH3) ++ (hW cI uH1 aH1 H1_x1 H1_x2 H1_r0 ++ (hW cI uH2 aH2 H2_x1 H2_x2 H2_r0 ++ (hW cI uH3 aH3 H3_x1 H3_x2 H3_r0)))))) (w1 := (hW cI uH0 aH0 H0_x1 H0_x2 H0_r0)) (ws1 := (lW uL uE uD uT uV uS uP L_x6 L_x7 ++ (vW cS uV (q4 uH0 uH1 uH2 uH3) ++ (hW cI uH0 aH0 H0_x1 H0_x2 H0_r0 ++ (hW cI uH1 aH1 H1_x1 H1_x2 H1_r0 ++ (hW cI uH2 aH2 H2_x1 H2_x2 H2_r0 ++ (hW cI uH3 aH3 H3_x1 H3_x2 H3_r0))))))) (As := [.int H0_x2, .int a2, .int (1 : Int32)]) (rest := []) (st1 := [.int t5]) 0 [2, 3] [0, 1, 4, 5, 6, 7, 8, 9] [0, 1, 8, 9, 2, 3, 4, 5, 6, 7] F (kX1_faultAt l D cI cB cS uH0 aH0 H0_x1 H0_x2 H0_r0 H0_x2 a2 (1 : Int32) _ hc6 ) okX1_faultAt w_765 (by decide) (by decide) ⟨Nat.zero_le _, Nat.zero_le _⟩ rfl rfl rfl jP jD jS rfl jl.1 rfl rfl (Nat.le_of_ble_eq_true rfl) dX5_lay_28 rfl rfl (by decide) (by decide) (by decide) rfl (by decide) (fun H locs jP jD jS => ?_)
      refine lv_istore (lv' := [(5, .int t5), (4, .ref uH0), (0, .ref uL), (1, .int a1), (2, .int a2), (3, .int a3)]) hx hb dX5_lay_31 jl (by decide) rfl (fun ls jl => ?_)
      refine lv_iload hx hb dX5_lay_33 (lv_at jl 0 rfl) ?_
      refine lv_if_eq (tgt := 44) hx hb dX5_lay_35 (by decide) (fun c7 => ?_) (fun c7 => ?_)
      · have h := itp c7 h
        refine lv_aload hx hb dX5_lay_44 (lv_at jl 1 rfl) ?_
        refine va_get (D := D) (ci := 1) (v := .ref (aH0 0)) (C := RX1) (T := TX1) (N := 3) hx hb hts in1 hown jK.1 jP 2 rfl rfl 0 (by decide) (hts _ w_764) (fun _ h9 => h9) rfl dX5_lay_46 ?_
        refine lv_iload_n hx hb dX5_lay_49 rfl (lv_at jl 4 rfl) ?_
        refine lv_aload hx hb dX5_lay_50 (lv_at jl 1 rfl) ?_
        refine lv_iload_n hx hb dX5_lay_52 rfl (lv_at jl 5 rfl) ?_
        obtain ⟨t8, hc9, h⟩ := bd_some h
        refine callP (wc := (hW cI uH0 aH0 H0_x1 H0_x2 H0_r0)) (wr := (lW uL uE uD uT uV uS uP L_x6 L_x7 ++ (vW cS uV (q4 uH0 uH1 uH2 uH3) ++ (hW cI uH1 aH1 H1_x1 H1_x2 H1_r0 ++ (hW cI uH2 aH2 H2_x1 H2_x2 H2_r0 ++ (hW cI uH3 aH3 H3_x1 H3_x2 H3_r0)))))) (w1 := (hW cI uH0 aH0 H0_x1 H0_x2 H0_r0)) (ws1 := (lW uL uE uD uT uV uS uP L_x6 L_x7 ++ (vW cS uV (q4 uH0 uH1 uH2 uH3) ++ (hW cI uH0 aH0 H0_x1 H0_x2 H0_r0 ++ (hW cI uH1 aH1 H1_x1 H1_x2 H1_r0 ++ (hW cI uH2 aH2 H2_x1 H2_x2 H2_r0 ++ (hW cI uH3 aH3 H3_x1 H3_x2 H3_r0))))))) (As := [.int a3]) (rest := [.int a2, .ref (aH0 0)]) (st1 := [.int t8, .int a2, .ref (aH0 0)]) 0 [2, 3] [0, 1, 4, 5, 6, 7, 8, 9] [0, 1, 8, 9, 2, 3, 4, 5, 6, 7] F (kX1_lowestBits l D cI cB cS uH0 aH0 H0_x1 H0_x2 H0_r0 a3 _ hc9 ) okX1_lowestBits w_769 (by decide) (by decide) ⟨Nat.zero_le _, Nat.zero_le _⟩ rfl rfl rfl jP jD jS rfl jl.1 rfl rfl (Nat.le_of_ble_eq_true rfl) dX5_lay_53 rfl rfl (by decide) (by decide) (by decide) rfl (by decide) (fun H locs jP jD jS => ?_)
        obtain ⟨hin, h⟩ := ckI_some h
        refine va_iast (f := H0_r0) hx hb jK.1 jP jD jS 3 0 rfl rfl hin dX5_lay_56 (fun H locs jP jD jS => ?_)
        have jP : va_P D vwCl (lW uL uE uD uT uV uS uP L_x6 L_x7 ++ (vW cS uV (q4 uH0 uH1 uH2 uH3) ++ (hW cI uH0 aH0 H0_x1 H0_x2 (upd H0_r0 a2.toNatClampNeg t8) ++ (hW cI uH1 aH1 H1_x1 H1_x2 H1_r0 ++ (hW cI uH2 aH2 H2_x1 H2_x2 H2_r0 ++ (hW cI uH3 aH3 H3_x1 H3_x2 H3_r0)))))) H := jP
        have jD : va_D A (lW uL uE uD uT uV uS uP L_x6 L_x7 ++ (vW cS uV (q4 uH0 uH1 uH2 uH3) ++ (hW cI uH0 aH0 H0_x1 H0_x2 (upd H0_r0 a2.toNatClampNeg t8) ++ (hW cI uH1 aH1 H1_x1 H1_x2 H1_r0 ++ (hW cI uH2 aH2 H2_x1 H2_x2 H2_r0 ++ (hW cI uH3 aH3 H3_x1 H3_x2 H3_r0)))))) := jD
        refine lv_iconst (v := (1 : Int32)) hx hb dX5_lay_57 (by decide) ?_
        obtain rfl := Option.some.inj h
        exact hRet _ _ _ _ jP jD jS dX5_lay_58
      · have h := itn c7 h
        refine lv_bipush (v := (-10 : Int32)) hx hb dX5_lay_38 (by decide) ?_
        refine lv_iload hx hb dX5_lay_40 (lv_at jl 0 rfl) ?_
        refine lv_isub hx hb dX5_lay_42 ?_
        obtain rfl := Option.some.inj h
        exact hRet _ _ _ _ jP jD jS dX5_lay_43
    · have h := itn hk4 h
      by_cases hk10 : a1 = (1 : Int32)
      · have h := itp hk10 h
        refine va_aldq (C := RX1) hx hb jK.1 jP 1 2 rfl rfl (by rw [hk10]; unfold vp_in; decide) dX5_lay_16 ?_
        refine W.eq (g2 := F0 m 17 ls (.ref uH1 :: [])) (by rw [hk10]; rfl) ?_
        refine lv_astore (lv' := [(4, .ref uH1), (0, .ref uL), (1, .int a1), (2, .int a2), (3, .int a3)]) hx hb dX5_lay_17 jl (by decide) rfl (fun ls jl => ?_)
        refine lv_aload hx hb dX5_lay_19 (lv_at jl 0 rfl) ?_
        refine lv_aload hx hb dX5_lay_21 (lv_at jl 0 rfl) ?_
        refine va_get (D := D) (ci := 1) (v := .int H1_x2) (C := RX1) (T := TX1) (N := 3) hx hb hts in1 hown jK.1 jP 4 rfl rfl 2 (by decide) (hts _ w_763) (fun _ h9 => h9) rfl dX5_lay_23 ?_
        refine lv_iload_n hx hb dX5_lay_26 rfl (lv_at jl 3 rfl) ?_
        refine lv_iconst (v := (1 : Int32)) hx hb dX5_lay_27 (by decide) ?_
        obtain ⟨t11, hc12, h⟩ := bd_some h
        refine callP (wc := (hW cI uH1 aH1 H1_x1 H1_x2 H1_r0)) (wr := (lW uL uE uD uT uV uS uP L_x6 L_x7 ++ (vW cS uV (q4 uH0 uH1 uH2 uH3) ++ (hW cI uH0 aH0 H0_x1 H0_x2 H0_r0 ++ (hW cI uH2 aH2 H2_x1 H2_x2 H2_r0 ++ (hW cI uH3 aH3 H3_x1 H3_x2 H3_r0)))))) (w1 := (hW cI uH1 aH1 H1_x1 H1_x2 H1_r0)) (ws1 := (lW uL uE uD uT uV uS uP L_x6 L_x7 ++ (vW cS uV (q4 uH0 uH1 uH2 uH3) ++ (hW cI uH0 aH0 H0_x1 H0_x2 H0_r0 ++ (hW cI uH1 aH1 H1_x1 H1_x2 H1_r0 ++ (hW cI uH2 aH2 H2_x1 H2_x2 H2_r0 ++ (hW cI uH3 aH3 H3_x1 H3_x2 H3_r0))))))) (As := [.int H1_x2, .int a2, .int (1 : Int32)]) (rest := []) (st1 := [.int t11]) 0 [4, 5] [0, 1, 2, 3, 6, 7, 8, 9] [0, 1, 2, 3, 8, 9, 4, 5, 6, 7] F (kX1_faultAt l D cI cB cS uH1 aH1 H1_x1 H1_x2 H1_r0 H1_x2 a2 (1 : Int32) _ hc12 ) okX1_faultAt w_765 (by decide) (by decide) ⟨Nat.zero_le _, Nat.zero_le _⟩ rfl rfl rfl jP jD jS rfl jl.1 rfl rfl (Nat.le_of_ble_eq_true rfl) dX5_lay_28 rfl rfl (by decide) (by decide) (by decide) rfl (by decide) (fun H locs jP jD jS => ?_)
        refine lv_istore (lv' := [(5, .int t11), (4, .ref uH1), (0, .ref uL), (1, .int a1), (2, .int a2), (3, .int a3)]) hx hb dX5_lay_31 jl (by decide) rfl (fun ls jl => ?_)
        refine lv_iload hx hb dX5_lay_33 (lv_at jl 0 rfl) ?_
        refine lv_if_eq (tgt := 44) hx hb dX5_lay_35 (by decide) (fun c13 => ?_) (fun c13 => ?_)
        · have h := itp c13 h
          refine lv_aload hx hb dX5_lay_44 (lv_at jl 1 rfl) ?_
          refine va_get (D := D) (ci := 1) (v := .ref (aH1 0)) (C := RX1) (T := TX1) (N := 3) hx hb hts in1 hown jK.1 jP 4 rfl rfl 0 (by decide) (hts _ w_764) (fun _ h9 => h9) rfl dX5_lay_46 ?_
          refine lv_iload_n hx hb dX5_lay_49 rfl (lv_at jl 4 rfl) ?_
          refine lv_aload hx hb dX5_lay_50 (lv_at jl 1 rfl) ?_
          refine lv_iload_n hx hb dX5_lay_52 rfl (lv_at jl 5 rfl) ?_
          obtain ⟨t14, hc15, h⟩ := bd_some h
          refine callP (wc := (hW cI uH1 aH1 H1_x1 H1_x2 H1_r0)) (wr := (lW uL uE uD uT uV uS uP L_x6 L_x7 ++ (vW cS uV (q4 uH0 uH1 uH2 uH3) ++ (hW cI uH0 aH0 H0_x1 H0_x2 H0_r0 ++ (hW cI uH2 aH2 H2_x1 H2_x2 H2_r0 ++ (hW cI uH3 aH3 H3_x1 H3_x2 H3_r0)))))) (w1 := (hW cI uH1 aH1 H1_x1 H1_x2 H1_r0)) (ws1 := (lW uL uE uD uT uV uS uP L_x6 L_x7 ++ (vW cS uV (q4 uH0 uH1 uH2 uH3) ++ (hW cI uH0 aH0 H0_x1 H0_x2 H0_r0 ++ (hW cI uH1 aH1 H1_x1 H1_x2 H1_r0 ++ (hW cI uH2 aH2 H2_x1 H2_x2 H2_r0 ++ (hW cI uH3 aH3 H3_x1 H3_x2 H3_r0))))))) (As := [.int a3]) (rest := [.int a2, .ref (aH1 0)]) (st1 := [.int t14, .int a2, .ref (aH1 0)]) 0 [4, 5] [0, 1, 2, 3, 6, 7, 8, 9] [0, 1, 2, 3, 8, 9, 4, 5, 6, 7] F (kX1_lowestBits l D cI cB cS uH1 aH1 H1_x1 H1_x2 H1_r0 a3 _ hc15 ) okX1_lowestBits w_769 (by decide) (by decide) ⟨Nat.zero_le _, Nat.zero_le _⟩ rfl rfl rfl jP jD jS rfl jl.1 rfl rfl (Nat.le_of_ble_eq_true rfl) dX5_lay_53 rfl rfl (by decide) (by decide) (by decide) rfl (by decide) (fun H locs jP jD jS => ?_)
          obtain ⟨hin, h⟩ := ckI_some h
          refine va_iast (f := H1_r0) hx hb jK.1 jP jD jS 5 0 rfl rfl hin dX5_lay_56 (fun H locs jP jD jS => ?_)
          have jP : va_P D vwCl (lW uL uE uD uT uV uS uP L_x6 L_x7 ++ (vW cS uV (q4 uH0 uH1 uH2 uH3) ++ (hW cI uH0 aH0 H0_x1 H0_x2 H0_r0 ++ (hW cI uH1 aH1 H1_x1 H1_x2 (upd H1_r0 a2.toNatClampNeg t14) ++ (hW cI uH2 aH2 H2_x1 H2_x2 H2_r0 ++ (hW cI uH3 aH3 H3_x1 H3_x2 H3_r0)))))) H := jP
          have jD : va_D A (lW uL uE uD uT uV uS uP L_x6 L_x7 ++ (vW cS uV (q4 uH0 uH1 uH2 uH3) ++ (hW cI uH0 aH0 H0_x1 H0_x2 H0_r0 ++ (hW cI uH1 aH1 H1_x1 H1_x2 (upd H1_r0 a2.toNatClampNeg t14) ++ (hW cI uH2 aH2 H2_x1 H2_x2 H2_r0 ++ (hW cI uH3 aH3 H3_x1 H3_x2 H3_r0)))))) := jD
          refine lv_iconst (v := (1 : Int32)) hx hb dX5_lay_57 (by decide) ?_
          obtain rfl := Option.some.inj h
          exact hRet _ _ _ _ jP jD jS dX5_lay_58
        · have h := itn c13 h
          refine lv_bipush (v := (-10 : Int32)) hx hb dX5_lay_38 (by decide) ?_
          refine lv_iload hx hb dX5_lay_40 (lv_at jl 0 rfl) ?_
          refine lv_isub hx hb dX5_lay_42 ?_
          obtain rfl := Option.some.inj h
          exact hRet _ _ _ _ jP jD jS dX5_lay_43
      · have h := itn hk10 h
        by_cases hk16 : a1 = (2 : Int32)
        · have h := itp hk16 h
          refine va_aldq (C := RX1) hx hb jK.1 jP 1 2 rfl rfl (by rw [hk16]; unfold vp_in; decide) dX5_lay_16 ?_
          refine W.eq (g2 := F0 m 17 ls (.ref uH2 :: [])) (by rw [hk16]; rfl) ?_
          refine lv_astore (lv' := [(4, .ref uH2), (0, .ref uL), (1, .int a1), (2, .int a2), (3, .int a3)]) hx hb dX5_lay_17 jl (by decide) rfl (fun ls jl => ?_)
          refine lv_aload hx hb dX5_lay_19 (lv_at jl 0 rfl) ?_
          refine lv_aload hx hb dX5_lay_21 (lv_at jl 0 rfl) ?_
          refine va_get (D := D) (ci := 1) (v := .int H2_x2) (C := RX1) (T := TX1) (N := 3) hx hb hts in1 hown jK.1 jP 6 rfl rfl 2 (by decide) (hts _ w_763) (fun _ h9 => h9) rfl dX5_lay_23 ?_
          refine lv_iload_n hx hb dX5_lay_26 rfl (lv_at jl 3 rfl) ?_
          refine lv_iconst (v := (1 : Int32)) hx hb dX5_lay_27 (by decide) ?_
          obtain ⟨t17, hc18, h⟩ := bd_some h
          refine callP (wc := (hW cI uH2 aH2 H2_x1 H2_x2 H2_r0)) (wr := (lW uL uE uD uT uV uS uP L_x6 L_x7 ++ (vW cS uV (q4 uH0 uH1 uH2 uH3) ++ (hW cI uH0 aH0 H0_x1 H0_x2 H0_r0 ++ (hW cI uH1 aH1 H1_x1 H1_x2 H1_r0 ++ (hW cI uH3 aH3 H3_x1 H3_x2 H3_r0)))))) (w1 := (hW cI uH2 aH2 H2_x1 H2_x2 H2_r0)) (ws1 := (lW uL uE uD uT uV uS uP L_x6 L_x7 ++ (vW cS uV (q4 uH0 uH1 uH2 uH3) ++ (hW cI uH0 aH0 H0_x1 H0_x2 H0_r0 ++ (hW cI uH1 aH1 H1_x1 H1_x2 H1_r0 ++ (hW cI uH2 aH2 H2_x1 H2_x2 H2_r0 ++ (hW cI uH3 aH3 H3_x1 H3_x2 H3_r0))))))) (As := [.int H2_x2, .int a2, .int (1 : Int32)]) (rest := []) (st1 := [.int t17]) 0 [6, 7] [0, 1, 2, 3, 4, 5, 8, 9] [0, 1, 2, 3, 4, 5, 8, 9, 6, 7] F (kX1_faultAt l D cI cB cS uH2 aH2 H2_x1 H2_x2 H2_r0 H2_x2 a2 (1 : Int32) _ hc18 ) okX1_faultAt w_765 (by decide) (by decide) ⟨Nat.zero_le _, Nat.zero_le _⟩ rfl rfl rfl jP jD jS rfl jl.1 rfl rfl (Nat.le_of_ble_eq_true rfl) dX5_lay_28 rfl rfl (by decide) (by decide) (by decide) rfl (by decide) (fun H locs jP jD jS => ?_)
          refine lv_istore (lv' := [(5, .int t17), (4, .ref uH2), (0, .ref uL), (1, .int a1), (2, .int a2), (3, .int a3)]) hx hb dX5_lay_31 jl (by decide) rfl (fun ls jl => ?_)
          refine lv_iload hx hb dX5_lay_33 (lv_at jl 0 rfl) ?_
          refine lv_if_eq (tgt := 44) hx hb dX5_lay_35 (by decide) (fun c19 => ?_) (fun c19 => ?_)
          · have h := itp c19 h
            refine lv_aload hx hb dX5_lay_44 (lv_at jl 1 rfl) ?_
            refine va_get (D := D) (ci := 1) (v := .ref (aH2 0)) (C := RX1) (T := TX1) (N := 3) hx hb hts in1 hown jK.1 jP 6 rfl rfl 0 (by decide) (hts _ w_764) (fun _ h9 => h9) rfl dX5_lay_46 ?_
            refine lv_iload_n hx hb dX5_lay_49 rfl (lv_at jl 4 rfl) ?_
            refine lv_aload hx hb dX5_lay_50 (lv_at jl 1 rfl) ?_
            refine lv_iload_n hx hb dX5_lay_52 rfl (lv_at jl 5 rfl) ?_
            obtain ⟨t20, hc21, h⟩ := bd_some h
            refine callP (wc := (hW cI uH2 aH2 H2_x1 H2_x2 H2_r0)) (wr := (lW uL uE uD uT uV uS uP L_x6 L_x7 ++ (vW cS uV (q4 uH0 uH1 uH2 uH3) ++ (hW cI uH0 aH0 H0_x1 H0_x2 H0_r0 ++ (hW cI uH1 aH1 H1_x1 H1_x2 H1_r0 ++ (hW cI uH3 aH3 H3_x1 H3_x2 H3_r0)))))) (w1 := (hW cI uH2 aH2 H2_x1 H2_x2 H2_r0)) (ws1 := (lW uL uE uD uT uV uS uP L_x6 L_x7 ++ (vW cS uV (q4 uH0 uH1 uH2 uH3) ++ (hW cI uH0 aH0 H0_x1 H0_x2 H0_r0 ++ (hW cI uH1 aH1 H1_x1 H1_x2 H1_r0 ++ (hW cI uH2 aH2 H2_x1 H2_x2 H2_r0 ++ (hW cI uH3 aH3 H3_x1 H3_x2 H3_r0))))))) (As := [.int a3]) (rest := [.int a2, .ref (aH2 0)]) (st1 := [.int t20, .int a2, .ref (aH2 0)]) 0 [6, 7] [0, 1, 2, 3, 4, 5, 8, 9] [0, 1, 2, 3, 4, 5, 8, 9, 6, 7] F (kX1_lowestBits l D cI cB cS uH2 aH2 H2_x1 H2_x2 H2_r0 a3 _ hc21 ) okX1_lowestBits w_769 (by decide) (by decide) ⟨Nat.zero_le _, Nat.zero_le _⟩ rfl rfl rfl jP jD jS rfl jl.1 rfl rfl (Nat.le_of_ble_eq_true rfl) dX5_lay_53 rfl rfl (by decide) (by decide) (by decide) rfl (by decide) (fun H locs jP jD jS => ?_)
            obtain ⟨hin, h⟩ := ckI_some h
            refine va_iast (f := H2_r0) hx hb jK.1 jP jD jS 7 0 rfl rfl hin dX5_lay_56 (fun H locs jP jD jS => ?_)
            have jP : va_P D vwCl (lW uL uE uD uT uV uS uP L_x6 L_x7 ++ (vW cS uV (q4 uH0 uH1 uH2 uH3) ++ (hW cI uH0 aH0 H0_x1 H0_x2 H0_r0 ++ (hW cI uH1 aH1 H1_x1 H1_x2 H1_r0 ++ (hW cI uH2 aH2 H2_x1 H2_x2 (upd H2_r0 a2.toNatClampNeg t20) ++ (hW cI uH3 aH3 H3_x1 H3_x2 H3_r0)))))) H := jP
            have jD : va_D A (lW uL uE uD uT uV uS uP L_x6 L_x7 ++ (vW cS uV (q4 uH0 uH1 uH2 uH3) ++ (hW cI uH0 aH0 H0_x1 H0_x2 H0_r0 ++ (hW cI uH1 aH1 H1_x1 H1_x2 H1_r0 ++ (hW cI uH2 aH2 H2_x1 H2_x2 (upd H2_r0 a2.toNatClampNeg t20) ++ (hW cI uH3 aH3 H3_x1 H3_x2 H3_r0)))))) := jD
            refine lv_iconst (v := (1 : Int32)) hx hb dX5_lay_57 (by decide) ?_
            obtain rfl := Option.some.inj h
            exact hRet _ _ _ _ jP jD jS dX5_lay_58
          · have h := itn c19 h
            refine lv_bipush (v := (-10 : Int32)) hx hb dX5_lay_38 (by decide) ?_
            refine lv_iload hx hb dX5_lay_40 (lv_at jl 0 rfl) ?_
            refine lv_isub hx hb dX5_lay_42 ?_
            obtain rfl := Option.some.inj h
            exact hRet _ _ _ _ jP jD jS dX5_lay_43
        · have h := itn hk16 h
          by_cases hk22 : a1 = (3 : Int32)
          · have h := itp hk22 h
            refine va_aldq (C := RX1) hx hb jK.1 jP 1 2 rfl rfl (by rw [hk22]; unfold vp_in; decide) dX5_lay_16 ?_
            refine W.eq (g2 := F0 m 17 ls (.ref uH3 :: [])) (by rw [hk22]; rfl) ?_
            refine lv_astore (lv' := [(4, .ref uH3), (0, .ref uL), (1, .int a1), (2, .int a2), (3, .int a3)]) hx hb dX5_lay_17 jl (by decide) rfl (fun ls jl => ?_)
            refine lv_aload hx hb dX5_lay_19 (lv_at jl 0 rfl) ?_
            refine lv_aload hx hb dX5_lay_21 (lv_at jl 0 rfl) ?_
            refine va_get (D := D) (ci := 1) (v := .int H3_x2) (C := RX1) (T := TX1) (N := 3) hx hb hts in1 hown jK.1 jP 8 rfl rfl 2 (by decide) (hts _ w_763) (fun _ h9 => h9) rfl dX5_lay_23 ?_
            refine lv_iload_n hx hb dX5_lay_26 rfl (lv_at jl 3 rfl) ?_
            refine lv_iconst (v := (1 : Int32)) hx hb dX5_lay_27 (by decide) ?_
            obtain ⟨t23, hc24, h⟩ := bd_some h
            refine callP (wc := (hW cI uH3 aH3 H3_x1 H3_x2 H3_r0)) (wr := (lW uL uE uD uT uV uS uP L_x6 L_x7 ++ (vW cS uV (q4 uH0 uH1 uH2 uH3) ++ (hW cI uH0 aH0 H0_x1 H0_x2 H0_r0 ++ (hW cI uH1 aH1 H1_x1 H1_x2 H1_r0 ++ (hW cI uH2 aH2 H2_x1 H2_x2 H2_r0)))))) (w1 := (hW cI uH3 aH3 H3_x1 H3_x2 H3_r0)) (ws1 := (lW uL uE uD uT uV uS uP L_x6 L_x7 ++ (vW cS uV (q4 uH0 uH1 uH2 uH3) ++ (hW cI uH0 aH0 H0_x1 H0_x2 H0_r0 ++ (hW cI uH1 aH1 H1_x1 H1_x2 H1_r0 ++ (hW cI uH2 aH2 H2_x1 H2_x2 H2_r0 ++ (hW cI uH3 aH3 H3_x1 H3_x2 H3_r0))))))) (As := [.int H3_x2, .int a2, .int (1 : Int32)]) (rest := []) (st1 := [.int t23]) 0 [8, 9] [0, 1, 2, 3, 4, 5, 6, 7] [0, 1, 2, 3, 4, 5, 6, 7, 8, 9] F (kX1_faultAt l D cI cB cS uH3 aH3 H3_x1 H3_x2 H3_r0 H3_x2 a2 (1 : Int32) _ hc24 ) okX1_faultAt w_765 (by decide) (by decide) ⟨Nat.zero_le _, Nat.zero_le _⟩ rfl rfl rfl jP jD jS rfl jl.1 rfl rfl (Nat.le_of_ble_eq_true rfl) dX5_lay_28 rfl rfl (by decide) (by decide) (by decide) rfl (by decide) (fun H locs jP jD jS => ?_)
            refine lv_istore (lv' := [(5, .int t23), (4, .ref uH3), (0, .ref uL), (1, .int a1), (2, .int a2), (3, .int a3)]) hx hb dX5_lay_31 jl (by decide) rfl (fun ls jl => ?_)
            refine lv_iload hx hb dX5_lay_33 (lv_at jl 0 rfl) ?_
            refine lv_if_eq (tgt := 44) hx hb dX5_lay_35 (by decide) (fun c25 => ?_) (fun c25 => ?_)
            · have h := itp c25 h
              refine lv_aload hx hb dX5_lay_44 (lv_at jl 1 rfl) ?_
              refine va_get (D := D) (ci := 1) (v := .ref (aH3 0)) (C := RX1) (T := TX1) (N := 3) hx hb hts in1 hown jK.1 jP 8 rfl rfl 0 (by decide) (hts _ w_764) (fun _ h9 => h9) rfl dX5_lay_46 ?_
              refine lv_iload_n hx hb dX5_lay_49 rfl (lv_at jl 4 rfl) ?_
              refine lv_aload hx hb dX5_lay_50 (lv_at jl 1 rfl) ?_
              refine lv_iload_n hx hb dX5_lay_52 rfl (lv_at jl 5 rfl) ?_
              obtain ⟨t26, hc27, h⟩ := bd_some h
              refine callP (wc := (hW cI uH3 aH3 H3_x1 H3_x2 H3_r0)) (wr := (lW uL uE uD uT uV uS uP L_x6 L_x7 ++ (vW cS uV (q4 uH0 uH1 uH2 uH3) ++ (hW cI uH0 aH0 H0_x1 H0_x2 H0_r0 ++ (hW cI uH1 aH1 H1_x1 H1_x2 H1_r0 ++ (hW cI uH2 aH2 H2_x1 H2_x2 H2_r0)))))) (w1 := (hW cI uH3 aH3 H3_x1 H3_x2 H3_r0)) (ws1 := (lW uL uE uD uT uV uS uP L_x6 L_x7 ++ (vW cS uV (q4 uH0 uH1 uH2 uH3) ++ (hW cI uH0 aH0 H0_x1 H0_x2 H0_r0 ++ (hW cI uH1 aH1 H1_x1 H1_x2 H1_r0 ++ (hW cI uH2 aH2 H2_x1 H2_x2 H2_r0 ++ (hW cI uH3 aH3 H3_x1 H3_x2 H3_r0))))))) (As := [.int a3]) (rest := [.int a2, .ref (aH3 0)]) (st1 := [.int t26, .int a2, .ref (aH3 0)]) 0 [8, 9] [0, 1, 2, 3, 4, 5, 6, 7] [0, 1, 2, 3, 4, 5, 6, 7, 8, 9] F (kX1_lowestBits l D cI cB cS uH3 aH3 H3_x1 H3_x2 H3_r0 a3 _ hc27 ) okX1_lowestBits w_769 (by decide) (by decide) ⟨Nat.zero_le _, Nat.zero_le _⟩ rfl rfl rfl jP jD jS rfl jl.1 rfl rfl (Nat.le_of_ble_eq_true rfl) dX5_lay_53 rfl rfl (by decide) (by decide) (by decide) rfl (by decide) (fun H locs jP jD jS => ?_)
              obtain ⟨hin, h⟩ := ckI_some h
              refine va_iast (f := H3_r0) hx hb jK.1 jP jD jS 9 0 rfl rfl hin dX5_lay_56 (fun H locs jP jD jS => ?_)
              have jP : va_P D vwCl (lW uL uE uD uT uV uS uP L_x6 L_x7 ++ (vW cS uV (q4 uH0 uH1 uH2 uH3) ++ (hW cI uH0 aH0 H0_x1 H0_x2 H0_r0 ++ (hW cI uH1 aH1 H1_x1 H1_x2 H1_r0 ++ (hW cI uH2 aH2 H2_x1 H2_x2 H2_r0 ++ (hW cI uH3 aH3 H3_x1 H3_x2 (upd H3_r0 a2.toNatClampNeg t26))))))) H := jP
              have jD : va_D A (lW uL uE uD uT uV uS uP L_x6 L_x7 ++ (vW cS uV (q4 uH0 uH1 uH2 uH3) ++ (hW cI uH0 aH0 H0_x1 H0_x2 H0_r0 ++ (hW cI uH1 aH1 H1_x1 H1_x2 H1_r0 ++ (hW cI uH2 aH2 H2_x1 H2_x2 H2_r0 ++ (hW cI uH3 aH3 H3_x1 H3_x2 (upd H3_r0 a2.toNatClampNeg t26))))))) := jD
              refine lv_iconst (v := (1 : Int32)) hx hb dX5_lay_57 (by decide) ?_
              obtain rfl := Option.some.inj h
              exact hRet _ _ _ _ jP jD jS dX5_lay_58
            · have h := itn c25 h
              refine lv_bipush (v := (-10 : Int32)) hx hb dX5_lay_38 (by decide) ?_
              refine lv_iload hx hb dX5_lay_40 (lv_at jl 0 rfl) ?_
              refine lv_isub hx hb dX5_lay_42 ?_
              obtain rfl := Option.some.inj h
              exact hRet _ _ _ _ jP jD jS dX5_lay_43
          · have h := itn hk22 h
            cases h
  · have h := itp c3 h
    refine lv_iconst (v := (-1 : Int32)) hx hb dX5_lay_9 (by decide) ?_
    obtain rfl := Option.some.inj h
    exact hRet _ _ _ _ jP jD jS dX5_lay_10
theorem okX5_read : okV yX5_read cX5_read 10 (some .int) 4 := ⟨w_778, w_779, w_780, w_2, by decide, by decide, by decide +kernel⟩
def fX5_read_b48 (l2 : Int32) (l3 : Int32) (l4 : Int32) (H_x1 : Int32) (H_x2 : Int32) (H_r0 : (Nat → Int32)) (S_x5 : Int32) (L_x7 : Int32) (S_r0 : (Nat → Int32)) (S_r1 : (Nat → Int32)) (S_r2 : (Nat → Int32)) (S_r3 : (Nat → Int32)) (S_r4 : (Nat → Int32)) (v1 : (Int32 × Int32 × Int32)) : Option ((Int32 × Int32 × Int32) ⊕ ((Int32 × Int32 × (Nat → Int32) × (Nat → Int32) × (Nat → Int32) × (Nat → Int32) × (Nat → Int32) × Int32) ⊕ (Int32 × Int32))) :=
  if l4 ≤ v1.2.2 then (some (.inr (.inr (v1.1, v1.2.1)))) else (if v1.2.1 = (0 : Int32) then (bd (fX1_faultAt (H_x1) (H_x2) (l2) (l3 + ((4 : Int32) * v1.2.2)) (4 : Int32)) (fun t1 => if t1 = (0 : Int32) then (bd (fX1_tellsSortAt (H_r0) (l3 + ((4 : Int32) * v1.2.2))) (fun t2 => if t2 = (0 : Int32) then (some (.inr (.inl (((-20 : Int32) - v1.2.2), L_x7, S_r0, S_r1, S_r2, S_r3, S_r4, S_x5)))) else (if (S_x5 + v1.2.2) < (8 : Int32) then (some (.inl ((v1.1 + (1 : Int32)), t1, (v1.2.2 + (1 : Int32))))) else (some (.inr (.inl ((-3 : Int32), L_x7, S_r0, S_r1, S_r2, S_r3, S_r4, S_x5))))))) else (some (.inl (v1.1, t1, (v1.2.2 + (1 : Int32))))))) else (some (.inr (.inr (v1.1, v1.2.1)))))
def fX5_read_b130 (l3 : Int32) (l6 : Int32) (l7 : Int32) (H_r0 : (Nat → Int32)) (v1 : (Int32 × (Nat → Int32) × (Nat → Int32) × (Nat → Int32) × (Nat → Int32) × (Nat → Int32) × Int32)) : Option ((Int32 × (Nat → Int32) × (Nat → Int32) × (Nat → Int32) × (Nat → Int32) × (Nat → Int32) × Int32) ⊕ ((Nat → Int32) × (Nat → Int32) × (Nat → Int32) × (Nat → Int32) × (Nat → Int32) × Int32)) :=
  if l6 ≤ v1.1 then (some (.inr (v1.2.1, v1.2.2.1, v1.2.2.2.1, v1.2.2.2.2.1, v1.2.2.2.2.2.1, v1.2.2.2.2.2.2))) else (bd (fX1_addSortAt (H_r0) v1.2.1 v1.2.2.1 v1.2.2.2.1 v1.2.2.2.2.1 v1.2.2.2.2.2.1 v1.2.2.2.2.2.2 (l3 + ((4 : Int32) * v1.1))) (fun t1 => some (.inl ((v1.1 + (1 : Int32)), t1.1, t1.2.1, t1.2.2.1, t1.2.2.2.1, t1.2.2.2.2.1, t1.2.2.2.2.2))))
def fX5_read (H0_r0 : (Nat → Int32)) (H0_x1 : Int32) (H0_x2 : Int32) (H1_r0 : (Nat → Int32)) (H1_x1 : Int32) (H1_x2 : Int32) (H2_r0 : (Nat → Int32)) (H2_x1 : Int32) (H2_x2 : Int32) (H3_r0 : (Nat → Int32)) (H3_x1 : Int32) (H3_x2 : Int32) (L_x7 : Int32) (S_r0 : (Nat → Int32)) (S_r1 : (Nat → Int32)) (S_r2 : (Nat → Int32)) (S_r3 : (Nat → Int32)) (S_r4 : (Nat → Int32)) (S_x5 : Int32) (a1 : Int32) (a2 : Int32) (a3 : Int32) (a4 : Int32) : Option (Int32 × Int32 × (Nat → Int32) × (Nat → Int32) × (Nat → Int32) × (Nat → Int32) × (Nat → Int32) × Int32) :=
  bd (fX5_isWithin a1 (0 : Int32) (3 : Int32)) (fun t1 => if t1 = (0 : Int32) then (some ((-1 : Int32), L_x7, S_r0, S_r1, S_r2, S_r3, S_r4, S_x5)) else (bd (fX5_isWithin a2 (0 : Int32) (2 : Int32)) (fun t4 => if t4 = (0 : Int32) then (some ((-1 : Int32), L_x7, S_r0, S_r1, S_r2, S_r3, S_r4, S_x5)) else (bd (fX5_isWithin a4 (0 : Int32) (8 : Int32)) (fun t7 => if t7 = (0 : Int32) then (some ((-1 : Int32), L_x7, S_r0, S_r1, S_r2, S_r3, S_r4, S_x5)) else (if a1 = (0 : Int32) then (bd (loopF (fX5_read_b48 a2 a3 a4 H0_x1 H0_x2 H0_r0 S_x5 L_x7 S_r0 S_r1 S_r2 S_r3 S_r4) 1000 ((0 : Int32), (0 : Int32), (0 : Int32))) (fun T11 => sm T11 (fun z => some z) (fun e11 => bd (loopF (fX5_read_b130 a3 e11.1 e11.2 H0_r0) 1000 ((0 : Int32), S_r0, S_r1, S_r2, S_r3, S_r4, S_x5)) (fun T21 => some (e11.1, e11.2, T21.1, T21.2.1, T21.2.2.1, T21.2.2.2.1, T21.2.2.2.2.1, T21.2.2.2.2.2))))) else (if a1 = (1 : Int32) then (bd (loopF (fX5_read_b48 a2 a3 a4 H1_x1 H1_x2 H1_r0 S_x5 L_x7 S_r0 S_r1 S_r2 S_r3 S_r4) 1000 ((0 : Int32), (0 : Int32), (0 : Int32))) (fun T26 => sm T26 (fun z => some z) (fun e26 => bd (loopF (fX5_read_b130 a3 e26.1 e26.2 H1_r0) 1000 ((0 : Int32), S_r0, S_r1, S_r2, S_r3, S_r4, S_x5)) (fun T36 => some (e26.1, e26.2, T36.1, T36.2.1, T36.2.2.1, T36.2.2.2.1, T36.2.2.2.2.1, T36.2.2.2.2.2))))) else (if a1 = (2 : Int32) then (bd (loopF (fX5_read_b48 a2 a3 a4 H2_x1 H2_x2 H2_r0 S_x5 L_x7 S_r0 S_r1 S_r2 S_r3 S_r4) 1000 ((0 : Int32), (0 : Int32), (0 : Int32))) (fun T41 => sm T41 (fun z => some z) (fun e41 => bd (loopF (fX5_read_b130 a3 e41.1 e41.2 H2_r0) 1000 ((0 : Int32), S_r0, S_r1, S_r2, S_r3, S_r4, S_x5)) (fun T51 => some (e41.1, e41.2, T51.1, T51.2.1, T51.2.2.1, T51.2.2.2.1, T51.2.2.2.2.1, T51.2.2.2.2.2))))) else (if a1 = (3 : Int32) then (bd (loopF (fX5_read_b48 a2 a3 a4 H3_x1 H3_x2 H3_r0 S_x5 L_x7 S_r0 S_r1 S_r2 S_r3 S_r4) 1000 ((0 : Int32), (0 : Int32), (0 : Int32))) (fun T56 => sm T56 (fun z => some z) (fun e56 => bd (loopF (fX5_read_b130 a3 e56.1 e56.2 H3_r0) 1000 ((0 : Int32), S_r0, S_r1, S_r2, S_r3, S_r4, S_x5)) (fun T66 => some (e56.1, e56.2, T66.1, T66.2.1, T66.2.2.1, T66.2.2.2.1, T66.2.2.2.2.1, T66.2.2.2.2.2))))) else (none))))))))))
set_option maxRecDepth 100000 in
set_option maxHeartbeats 4000000 in
theorem kX5_read (l : Launch) (D : va_G) (cI cB cS : ClassId) (uL : Nat) (L_x6 : Int32) (L_x7 : Int32) (uV : Nat) (uH0 : Nat) (aH0 : Nat → Nat) (H0_x1 : Int32) (H0_x2 : Int32) (H0_r0 : (Nat → Int32)) (uH1 : Nat) (aH1 : Nat → Nat) (H1_x1 : Int32) (H1_x2 : Int32) (H1_r0 : (Nat → Int32)) (uH2 : Nat) (aH2 : Nat → Nat) (H2_x1 : Int32) (H2_x2 : Int32) (H2_r0 : (Nat → Int32)) (uH3 : Nat) (aH3 : Nat → Nat) (H3_x1 : Int32) (H3_x2 : Int32) (H3_r0 : (Nat → Int32)) (uS : Nat) (aS : Nat → Nat) (S_x5 : Int32) (S_x6 : Int32) (S_x7 : Int32) (S_x8 : Int32) (S_x9 : Int32) (S_r0 : (Nat → Int32)) (S_r1 : (Nat → Int32)) (S_r2 : (Nat → Int32)) (S_r3 : (Nat → Int32)) (S_r4 : (Nat → Int32)) (uE : Nat) (uD : Nat) (uT : Nat) (uP : Nat) (a1 : Int32) (a2 : Int32) (a3 : Int32) (a4 : Int32) (z : (Int32 × Int32 × (Nat → Int32) × (Nat → Int32) × (Nat → Int32) × (Nat → Int32) × (Nat → Int32) × Int32)) (h : fX5_read H0_r0 H0_x1 H0_x2 H1_r0 H1_x1 H1_x2 H2_r0 H2_x1 H2_x2 H3_r0 H3_x1 H3_x2 L_x7 S_r0 S_r1 S_r2 S_r3 S_r4 S_x5 a1 a2 a3 a4 = some z) : Mt l yX5_read cX5_read 10 (some .int) 3 66 D cI cB cS (lW uL uE uD uT uV uS uP L_x6 L_x7 ++ (vW cS uV (q4 uH0 uH1 uH2 uH3) ++ (hW cI uH0 aH0 H0_x1 H0_x2 H0_r0 ++ (hW cI uH1 aH1 H1_x1 H1_x2 H1_r0 ++ (hW cI uH2 aH2 H2_x1 H2_x2 H2_r0 ++ (hW cI uH3 aH3 H3_x1 H3_x2 H3_r0 ++ (sW cI uS aS S_x5 S_x6 S_x7 S_x8 S_x9 S_r0 S_r1 S_r2 S_r3 S_r4))))))) (lW uL uE uD uT uV uS uP L_x6 z.2.1 ++ (vW cS uV (q4 uH0 uH1 uH2 uH3) ++ (hW cI uH0 aH0 H0_x1 H0_x2 H0_r0 ++ (hW cI uH1 aH1 H1_x1 H1_x2 H1_r0 ++ (hW cI uH2 aH2 H2_x1 H2_x2 H2_r0 ++ (hW cI uH3 aH3 H3_x1 H3_x2 H3_r0 ++ (sW cI uS aS z.2.2.2.2.2.2.2 S_x6 S_x7 S_x8 S_x9 z.2.2.1 z.2.2.2.1 z.2.2.2.2.1 z.2.2.2.2.2.1 z.2.2.2.2.2.2.1))))))) [.ref uL, .int a1, .int a2, .int a3, .int a4] (some (.int z.1)) := by
  refine entryI (by decide +kernel) rfl (Nat.le_of_ble_eq_true rfl) ?_
  intro p e s m below meth c A ls QQ R ar F hRet jP jD jS jl
  obtain ⟨hx, hb, hml, hown, hts, jK, hA, hf1, hf2⟩ := id F
  have jl : lv_has ls 10 [(0, .ref uL), (1, .int a1), (2, .int a2), (3, .int a3), (4, .int a4)] := jl
  unfold fX5_read at h
  refine lv_iload_n hx hb dX5_read_0 rfl (lv_at jl 1 rfl) ?_
  refine lv_iconst (v := (0 : Int32)) hx hb dX5_read_1 (by decide) ?_
  refine lv_iconst (v := (3 : Int32)) hx hb dX5_read_2 (by decide) ?_
  obtain ⟨t1, hc2, h⟩ := bd_some h
  refine call0 (As := [.int a1, .int (0 : Int32), .int (3 : Int32)]) (rest := []) (st1 := [.int t1]) F (kX5_isWithin l D cI cB cS  a1 (0 : Int32) (3 : Int32) _ hc2 ) okX5_isWithin w_105 (by decide) (by decide) ⟨Nat.zero_le _, Nat.zero_le _⟩ jP jD jS rfl jl.1 rfl rfl (Nat.le_of_ble_eq_true rfl) dX5_read_3 (fun H locs jP jD jS => ?_)
  refine lv_if_eq (tgt := 29) hx hb dX5_read_6 (by decide) (fun c3 => ?_) (fun c3 => ?_)
  · have h := itp c3 h
    refine lv_iconst (v := (-1 : Int32)) hx hb dX5_read_29 (by decide) ?_
    obtain rfl := Option.some.inj h
    exact hRet _ _ _ _ jP jD jS dX5_read_30
  · have h := itn c3 h
    refine lv_iload_n hx hb dX5_read_9 rfl (lv_at jl 2 rfl) ?_
    refine lv_iconst (v := (0 : Int32)) hx hb dX5_read_10 (by decide) ?_
    refine lv_iconst (v := (2 : Int32)) hx hb dX5_read_11 (by decide) ?_
    obtain ⟨t4, hc5, h⟩ := bd_some h
    refine call0 (As := [.int a2, .int (0 : Int32), .int (2 : Int32)]) (rest := []) (st1 := [.int t4]) F (kX5_isWithin l D cI cB cS  a2 (0 : Int32) (2 : Int32) _ hc5 ) okX5_isWithin w_105 (by decide) (by decide) ⟨Nat.zero_le _, Nat.zero_le _⟩ jP jD jS rfl jl.1 rfl rfl (Nat.le_of_ble_eq_true rfl) dX5_read_12 (fun H locs jP jD jS => ?_)
    refine lv_if_eq (tgt := 29) hx hb dX5_read_15 (by decide) (fun c6 => ?_) (fun c6 => ?_)
    · have h := itp c6 h
      refine lv_iconst (v := (-1 : Int32)) hx hb dX5_read_29 (by decide) ?_
      obtain rfl := Option.some.inj h
      exact hRet _ _ _ _ jP jD jS dX5_read_30
    · have h := itn c6 h
      refine lv_iload hx hb dX5_read_18 (lv_at jl 4 rfl) ?_
      refine lv_iconst (v := (0 : Int32)) hx hb dX5_read_20 (by decide) ?_
      refine lv_bipush (v := (8 : Int32)) hx hb dX5_read_21 (by decide) ?_
      obtain ⟨t7, hc8, h⟩ := bd_some h
      refine call0 (As := [.int a4, .int (0 : Int32), .int (8 : Int32)]) (rest := []) (st1 := [.int t7]) F (kX5_isWithin l D cI cB cS  a4 (0 : Int32) (8 : Int32) _ hc8 ) okX5_isWithin w_105 (by decide) (by decide) ⟨Nat.zero_le _, Nat.zero_le _⟩ jP jD jS rfl jl.1 rfl rfl (Nat.le_of_ble_eq_true rfl) dX5_read_23 (fun H locs jP jD jS => ?_)
      refine lv_if_ne (tgt := 31) hx hb dX5_read_26 (by decide) (fun c9 => ?_) (fun c9 => ?_)
      · have h := itn c9 h
        refine lv_aload_n hx hb dX5_read_31 rfl (lv_at jl 0 rfl) ?_
        refine va_get (D := D) (ci := 5) (v := .ref uV) (C := RX5) (T := TX5) (N := 8) hx hb hts in5 hown jK.1 jP 0 rfl rfl 3 (by decide) (hts _ w_26) (fun _ h9 => h9) rfl dX5_read_32 ?_
        refine lv_iload_n hx hb dX5_read_35 rfl (lv_at jl 1 rfl) ?_
        by_cases hk10 : a1 = (0 : Int32)
        · have h := itp hk10 h
          refine va_aldq (C := RX1) hx hb jK.1 jP 1 2 rfl rfl (by rw [hk10]; unfold vp_in; decide) dX5_read_36 ?_
          refine W.eq (g2 := F0 m 37 ls (.ref uH0 :: [])) (by rw [hk10]; rfl) ?_
          refine lv_astore (lv' := [(5, .ref uH0), (0, .ref uL), (1, .int a1), (2, .int a2), (3, .int a3), (4, .int a4)]) hx hb dX5_read_37 jl (by decide) rfl (fun ls jl => ?_)
          refine lv_iconst (v := (0 : Int32)) hx hb dX5_read_39 (by decide) ?_
          refine lv_istore (lv' := [(6, .int (0 : Int32)), (5, .ref uH0), (0, .ref uL), (1, .int a1), (2, .int a2), (3, .int a3), (4, .int a4)]) hx hb dX5_read_40 jl (by decide) rfl (fun ls jl => ?_)
          refine lv_iconst (v := (0 : Int32)) hx hb dX5_read_42 (by decide) ?_
          refine lv_istore (lv' := [(7, .int (0 : Int32)), (6, .int (0 : Int32)), (5, .ref uH0), (0, .ref uL), (1, .int a1), (2, .int a2), (3, .int a3), (4, .int a4)]) hx hb dX5_read_43 jl (by decide) rfl (fun ls jl => ?_)
          refine lv_iconst (v := (0 : Int32)) hx hb dX5_read_45 (by decide) ?_
          refine lv_istore (lv' := [(8, .int (0 : Int32)), (7, .int (0 : Int32)), (6, .int (0 : Int32)), (5, .ref uH0), (0, .ref uL), (1, .int a1), (2, .int a2), (3, .int a3), (4, .int a4)]) hx hb dX5_read_46 jl (by decide) rfl (fun ls jl => ?_)
          obtain ⟨T11, hT11, hz11⟩ := bd_some h
          clear h
          have hE11 : ∀ (e11 : (Int32 × Int32)), T11 = .inr e11 → ∀ (H : Heap) (locs : List Loc) (ls : Array Slot), va_P D vwCl (lW uL uE uD uT uV uS uP L_x6 L_x7 ++ (vW cS uV (q4 uH0 uH1 uH2 uH3) ++ (hW cI uH0 aH0 H0_x1 H0_x2 H0_r0 ++ (hW cI uH1 aH1 H1_x1 H1_x2 H1_r0 ++ (hW cI uH2 aH2 H2_x1 H2_x2 H2_r0 ++ (hW cI uH3 aH3 H3_x1 H3_x2 H3_r0 ++ (sW cI uS aS S_x5 S_x6 S_x7 S_x8 S_x9 S_r0 S_r1 S_r2 S_r3 S_r4))))))) H → va_D A (lW uL uE uD uT uV uS uP L_x6 L_x7 ++ (vW cS uV (q4 uH0 uH1 uH2 uH3) ++ (hW cI uH0 aH0 H0_x1 H0_x2 H0_r0 ++ (hW cI uH1 aH1 H1_x1 H1_x2 H1_r0 ++ (hW cI uH2 aH2 H2_x1 H2_x2 H2_r0 ++ (hW cI uH3 aH3 H3_x1 H3_x2 H3_r0 ++ (sW cI uS aS S_x5 S_x6 S_x7 S_x8 S_x9 S_r0 S_r1 S_r2 S_r3 S_r4))))))) → va_S A s.heap H locs → lv_has ls 10 [(0, .ref uL), (3, .int a3), (5, .ref uH0), (6, .int e11.1), (7, .int e11.2)] → W p l e R s m ar below meth c H locs 0 0 QQ (F0 m 127 ls []) := by
            intro e11 ho
            subst ho
            have hz11 := sm_r hz11
            clear jP jD jS jl
            intro H locs ls jP jD jS jl
            refine lv_iconst (v := (0 : Int32)) hx hb dX5_read_127 (by decide) ?_
            refine lv_istore (lv' := [(8, .int (0 : Int32)), (0, .ref uL), (3, .int a3), (5, .ref uH0), (6, .int e11.1), (7, .int e11.2)]) hx hb dX5_read_128 jl (by decide) rfl (fun ls jl => ?_)
            obtain ⟨T21, hT21, hz21⟩ := bd_some hz11
            clear hz11
            have hE21 : ∀ (H : Heap) (locs : List Loc) (ls : Array Slot), va_P D vwCl (lW uL uE uD uT uV uS uP L_x6 L_x7 ++ (vW cS uV (q4 uH0 uH1 uH2 uH3) ++ (hW cI uH0 aH0 H0_x1 H0_x2 H0_r0 ++ (hW cI uH1 aH1 H1_x1 H1_x2 H1_r0 ++ (hW cI uH2 aH2 H2_x1 H2_x2 H2_r0 ++ (hW cI uH3 aH3 H3_x1 H3_x2 H3_r0 ++ (sW cI uS aS T21.2.2.2.2.2 S_x6 S_x7 S_x8 S_x9 T21.1 T21.2.1 T21.2.2.1 T21.2.2.2.1 T21.2.2.2.2.1))))))) H → va_D A (lW uL uE uD uT uV uS uP L_x6 L_x7 ++ (vW cS uV (q4 uH0 uH1 uH2 uH3) ++ (hW cI uH0 aH0 H0_x1 H0_x2 H0_r0 ++ (hW cI uH1 aH1 H1_x1 H1_x2 H1_r0 ++ (hW cI uH2 aH2 H2_x1 H2_x2 H2_r0 ++ (hW cI uH3 aH3 H3_x1 H3_x2 H3_r0 ++ (sW cI uS aS T21.2.2.2.2.2 S_x6 S_x7 S_x8 S_x9 T21.1 T21.2.1 T21.2.2.1 T21.2.2.2.1 T21.2.2.2.2.1))))))) → va_S A s.heap H locs → lv_has ls 10 [(0, .ref uL), (6, .int e11.1), (7, .int e11.2)] → W p l e R s m ar below meth c H locs 0 0 QQ (F0 m 158 ls []) := by
              clear jP jD jS jl
              intro H locs ls jP jD jS jl
              refine lv_aload_n hx hb dX5_read_158 rfl (lv_at jl 0 rfl) ?_
              refine lv_iload hx hb dX5_read_159 (lv_at jl 2 rfl) ?_
              refine va_put (D := D) (ci := 5) (v := .int e11.2) (ty := .int) (C := RX5) (T := TX5) (N := 8) hx hb hts in5 tyX5 tyX5_ok nmX5 hown jK.1 jP jD jS 0 rfl rfl 7 (by decide) (hts _ w_35) (fun _ h9 => h9) rfl (by decide +kernel) rfl rfl (Nat.le_of_ble_eq_true rfl) dX5_read_161 (fun H locs jP jD jS => ?_)
              have jP : va_P D vwCl (lW uL uE uD uT uV uS uP L_x6 e11.2 ++ (vW cS uV (q4 uH0 uH1 uH2 uH3) ++ (hW cI uH0 aH0 H0_x1 H0_x2 H0_r0 ++ (hW cI uH1 aH1 H1_x1 H1_x2 H1_r0 ++ (hW cI uH2 aH2 H2_x1 H2_x2 H2_r0 ++ (hW cI uH3 aH3 H3_x1 H3_x2 H3_r0 ++ (sW cI uS aS T21.2.2.2.2.2 S_x6 S_x7 S_x8 S_x9 T21.1 T21.2.1 T21.2.2.1 T21.2.2.2.1 T21.2.2.2.2.1))))))) H := jP
              have jD : va_D A (lW uL uE uD uT uV uS uP L_x6 e11.2 ++ (vW cS uV (q4 uH0 uH1 uH2 uH3) ++ (hW cI uH0 aH0 H0_x1 H0_x2 H0_r0 ++ (hW cI uH1 aH1 H1_x1 H1_x2 H1_r0 ++ (hW cI uH2 aH2 H2_x1 H2_x2 H2_r0 ++ (hW cI uH3 aH3 H3_x1 H3_x2 H3_r0 ++ (sW cI uS aS T21.2.2.2.2.2 S_x6 S_x7 S_x8 S_x9 T21.1 T21.2.1 T21.2.2.1 T21.2.2.2.1 T21.2.2.2.2.1))))))) := jD
              refine lv_iload hx hb dX5_read_164 (lv_at jl 1 rfl) ?_
              obtain rfl := Option.some.inj hz21
              exact hRet _ _ _ _ jP jD jS dX5_read_166
            have hL21 : ∀ (n : Nat) (v21 : (Int32 × (Nat → Int32) × (Nat → Int32) × (Nat → Int32) × (Nat → Int32) × (Nat → Int32) × Int32)), loopF (fX5_read_b130 a3 e11.1 e11.2 H0_r0) n v21 = some T21 → ∀ (H : Heap) (locs : List Loc) (ls : Array Slot), va_P D vwCl (lW uL uE uD uT uV uS uP L_x6 L_x7 ++ (vW cS uV (q4 uH0 uH1 uH2 uH3) ++ (hW cI uH0 aH0 H0_x1 H0_x2 H0_r0 ++ (hW cI uH1 aH1 H1_x1 H1_x2 H1_r0 ++ (hW cI uH2 aH2 H2_x1 H2_x2 H2_r0 ++ (hW cI uH3 aH3 H3_x1 H3_x2 H3_r0 ++ (sW cI uS aS v21.2.2.2.2.2.2 S_x6 S_x7 S_x8 S_x9 v21.2.1 v21.2.2.1 v21.2.2.2.1 v21.2.2.2.2.1 v21.2.2.2.2.2.1))))))) H → va_D A (lW uL uE uD uT uV uS uP L_x6 L_x7 ++ (vW cS uV (q4 uH0 uH1 uH2 uH3) ++ (hW cI uH0 aH0 H0_x1 H0_x2 H0_r0 ++ (hW cI uH1 aH1 H1_x1 H1_x2 H1_r0 ++ (hW cI uH2 aH2 H2_x1 H2_x2 H2_r0 ++ (hW cI uH3 aH3 H3_x1 H3_x2 H3_r0 ++ (sW cI uS aS v21.2.2.2.2.2.2 S_x6 S_x7 S_x8 S_x9 v21.2.1 v21.2.2.1 v21.2.2.2.1 v21.2.2.2.2.1 v21.2.2.2.2.2.1))))))) → va_S A s.heap H locs → lv_has ls 10 [(0, .ref uL), (3, .int a3), (5, .ref uH0), (6, .int e11.1), (7, .int e11.2), (8, .int v21.1)] → W p l e R s m ar below meth c H locs 0 0 QQ (F0 m 130 ls []) := by
              clear jP jD jS jl hT21
              intro n
              induction n with
              | zero => intro v21 hq; exact (loop_none hq).elim
              | succ n ih =>
                intro v21 hq H locs ls jP jD jS jl
                obtain ⟨o21, hv21, hq21⟩ := loop_some hq
                clear hq
                unfold fX5_read_b130 at hv21
                refine lv_iload hx hb dX5_read_130 (lv_at jl 5 rfl) ?_
                refine lv_iload hx hb dX5_read_132 (lv_at jl 3 rfl) ?_
                refine lv_icmp_ge (tgt := 158) hx hb dX5_read_134 (by decide) (fun c22 => ?_) (fun c22 => ?_)
                · have hv21 := itp c22 hv21
                  obtain rfl := Option.some.inj hv21
                  obtain rfl := nxt_r hq21
                  exact hE21 _ _ _ jP jD jS (lv_sub jl [0, 3, 4] rfl)
                · have hv21 := itn c22 hv21
                  refine lv_aload hx hb dX5_read_137 (lv_at jl 2 rfl) ?_
                  refine lv_iload_n hx hb dX5_read_139 rfl (lv_at jl 1 rfl) ?_
                  refine lv_iconst (v := (4 : Int32)) hx hb dX5_read_140 (by decide) ?_
                  refine lv_iload hx hb dX5_read_141 (lv_at jl 5 rfl) ?_
                  refine lv_imul hx hb dX5_read_143 ?_
                  refine lv_iadd hx hb dX5_read_144 ?_
                  refine lv_aload_n hx hb dX5_read_145 rfl (lv_at jl 0 rfl) ?_
                  refine va_get (D := D) (ci := 5) (v := .ref uS) (C := RX5) (T := TX5) (N := 8) hx hb hts in5 hown jK.1 jP 0 rfl rfl 4 (by decide) (hts _ w_32) (fun _ h9 => h9) rfl dX5_read_146 ?_
                  obtain ⟨t23, hc24, hv21⟩ := bd_some hv21
                  refine callP (wc := (hW cI uH0 aH0 H0_x1 H0_x2 H0_r0 ++ (sW cI uS aS v21.2.2.2.2.2.2 S_x6 S_x7 S_x8 S_x9 v21.2.1 v21.2.2.1 v21.2.2.2.1 v21.2.2.2.2.1 v21.2.2.2.2.2.1))) (wr := (lW uL uE uD uT uV uS uP L_x6 L_x7 ++ (vW cS uV (q4 uH0 uH1 uH2 uH3) ++ (hW cI uH1 aH1 H1_x1 H1_x2 H1_r0 ++ (hW cI uH2 aH2 H2_x1 H2_x2 H2_r0 ++ (hW cI uH3 aH3 H3_x1 H3_x2 H3_r0)))))) (w1 := (hW cI uH0 aH0 H0_x1 H0_x2 H0_r0 ++ (sW cI uS aS t23.2.2.2.2.2 S_x6 S_x7 S_x8 S_x9 t23.1 t23.2.1 t23.2.2.1 t23.2.2.2.1 t23.2.2.2.2.1))) (ws1 := (lW uL uE uD uT uV uS uP L_x6 L_x7 ++ (vW cS uV (q4 uH0 uH1 uH2 uH3) ++ (hW cI uH0 aH0 H0_x1 H0_x2 H0_r0 ++ (hW cI uH1 aH1 H1_x1 H1_x2 H1_r0 ++ (hW cI uH2 aH2 H2_x1 H2_x2 H2_r0 ++ (hW cI uH3 aH3 H3_x1 H3_x2 H3_r0 ++ (sW cI uS aS t23.2.2.2.2.2 S_x6 S_x7 S_x8 S_x9 t23.1 t23.2.1 t23.2.2.1 t23.2.2.2.1 t23.2.2.2.2.1)))))))) (As := [.int (a3 + ((4 : Int32) * v21.1)), .ref uS]) (rest := []) (st1 := []) 0 [2, 3, 10, 11, 12, 13, 14, 15] [0, 1, 4, 5, 6, 7, 8, 9] [0, 1, 8, 9, 2, 3, 4, 5, 6, 7, 10, 11, 12, 13, 14, 15] F (kX1_addSortAt l D cI cB cS uH0 aH0 H0_x1 H0_x2 H0_r0 uS aS v21.2.2.2.2.2.2 S_x6 S_x7 S_x8 S_x9 v21.2.1 v21.2.2.1 v21.2.2.2.1 v21.2.2.2.2.1 v21.2.2.2.2.2.1 (a3 + ((4 : Int32) * v21.1)) _ hc24 ) okX1_addSortAt w_785 (by decide) (by decide) ⟨Nat.zero_le _, Nat.zero_le _⟩ rfl rfl rfl jP jD jS rfl jl.1 rfl rfl (Nat.le_of_ble_eq_true rfl) dX5_read_149 rfl rfl (by decide) (by decide) (by decide) rfl (by decide) (fun H locs jP jD jS => ?_)
                  refine lv_iinc (v := (v21.1 + (1 : Int32))) (lv' := [(8, .int (v21.1 + (1 : Int32))), (0, .ref uL), (3, .int a3), (5, .ref uH0), (6, .int e11.1), (7, .int e11.2)]) hx hb dX5_read_152 jl (k := 5) rfl rfl (by decide) rfl (fun ls jl => ?_)
                  refine lv_goto (tgt := 130) hx hb dX5_read_155 (by decide) ?_
                  obtain rfl := Option.some.inj hv21
                  exact ih _ (nxt_l hq21) _ _ _ jP jD jS (lv_sub jl [1, 2, 3, 4, 5, 0] rfl)
            exact hL21 1000 _ hT21 _ _ _ jP jD jS (lv_sub jl [1, 2, 3, 4, 5, 0] rfl)
          have hL11 : ∀ (n : Nat) (v11 : (Int32 × Int32 × Int32)), loopF (fX5_read_b48 a2 a3 a4 H0_x1 H0_x2 H0_r0 S_x5 L_x7 S_r0 S_r1 S_r2 S_r3 S_r4) n v11 = some T11 → ∀ (H : Heap) (locs : List Loc) (ls : Array Slot), va_P D vwCl (lW uL uE uD uT uV uS uP L_x6 L_x7 ++ (vW cS uV (q4 uH0 uH1 uH2 uH3) ++ (hW cI uH0 aH0 H0_x1 H0_x2 H0_r0 ++ (hW cI uH1 aH1 H1_x1 H1_x2 H1_r0 ++ (hW cI uH2 aH2 H2_x1 H2_x2 H2_r0 ++ (hW cI uH3 aH3 H3_x1 H3_x2 H3_r0 ++ (sW cI uS aS S_x5 S_x6 S_x7 S_x8 S_x9 S_r0 S_r1 S_r2 S_r3 S_r4))))))) H → va_D A (lW uL uE uD uT uV uS uP L_x6 L_x7 ++ (vW cS uV (q4 uH0 uH1 uH2 uH3) ++ (hW cI uH0 aH0 H0_x1 H0_x2 H0_r0 ++ (hW cI uH1 aH1 H1_x1 H1_x2 H1_r0 ++ (hW cI uH2 aH2 H2_x1 H2_x2 H2_r0 ++ (hW cI uH3 aH3 H3_x1 H3_x2 H3_r0 ++ (sW cI uS aS S_x5 S_x6 S_x7 S_x8 S_x9 S_r0 S_r1 S_r2 S_r3 S_r4))))))) → va_S A s.heap H locs → lv_has ls 10 [(0, .ref uL), (2, .int a2), (3, .int a3), (4, .int a4), (5, .ref uH0), (6, .int v11.1), (7, .int v11.2.1), (8, .int v11.2.2)] → W p l e R s m ar below meth c H locs 0 0 QQ (F0 m 48 ls []) := by
            clear jP jD jS jl hT11
            intro n
            induction n with
            | zero => intro v11 hq; exact (loop_none hq).elim
            | succ n ih =>
              intro v11 hq H locs ls jP jD jS jl
              obtain ⟨o11, hv11, hq11⟩ := loop_some hq
              clear hq
              unfold fX5_read_b48 at hv11
              refine lv_iload hx hb dX5_read_48 (lv_at jl 7 rfl) ?_
              refine lv_iload hx hb dX5_read_50 (lv_at jl 3 rfl) ?_
              refine lv_icmp_ge (tgt := 127) hx hb dX5_read_52 (by decide) (fun c12 => ?_) (fun c12 => ?_)
              · have hv11 := itp c12 hv11
                obtain rfl := Option.some.inj hv11
                obtain rfl := nxt_r hq11
                exact hE11 _ rfl _ _ _ jP jD jS (lv_sub jl [0, 2, 4, 5, 6] rfl)
              · have hv11 := itn c12 hv11
                refine lv_iload hx hb dX5_read_55 (lv_at jl 6 rfl) ?_
                refine lv_if_ne (tgt := 127) hx hb dX5_read_57 (by decide) (fun c13 => ?_) (fun c13 => ?_)
                · have hv11 := itn c13 hv11
                  obtain rfl := Option.some.inj hv11
                  obtain rfl := nxt_r hq11
                  exact hE11 _ rfl _ _ _ jP jD jS (lv_sub jl [0, 2, 4, 5, 6] rfl)
                · have hv11 := itp c13 hv11
                  refine lv_iload_n hx hb dX5_read_60 rfl (lv_at jl 2 rfl) ?_
                  refine lv_iconst (v := (4 : Int32)) hx hb dX5_read_61 (by decide) ?_
                  refine lv_iload hx hb dX5_read_62 (lv_at jl 7 rfl) ?_
                  refine lv_imul hx hb dX5_read_64 ?_
                  refine lv_iadd hx hb dX5_read_65 ?_
                  refine lv_istore (lv' := [(9, .int (a3 + ((4 : Int32) * v11.2.2))), (0, .ref uL), (2, .int a2), (3, .int a3), (4, .int a4), (5, .ref uH0), (6, .int v11.1), (7, .int v11.2.1), (8, .int v11.2.2)]) hx hb dX5_read_66 jl (by decide) rfl (fun ls jl => ?_)
                  refine lv_aload hx hb dX5_read_68 (lv_at jl 5 rfl) ?_
                  refine lv_iload_n hx hb dX5_read_70 rfl (lv_at jl 2 rfl) ?_
                  refine lv_iload hx hb dX5_read_71 (lv_at jl 0 rfl) ?_
                  refine lv_iconst (v := (4 : Int32)) hx hb dX5_read_73 (by decide) ?_
                  obtain ⟨t14, hc15, hv11⟩ := bd_some hv11
                  refine callP (wc := (hW cI uH0 aH0 H0_x1 H0_x2 H0_r0)) (wr := (lW uL uE uD uT uV uS uP L_x6 L_x7 ++ (vW cS uV (q4 uH0 uH1 uH2 uH3) ++ (hW cI uH1 aH1 H1_x1 H1_x2 H1_r0 ++ (hW cI uH2 aH2 H2_x1 H2_x2 H2_r0 ++ (hW cI uH3 aH3 H3_x1 H3_x2 H3_r0 ++ (sW cI uS aS S_x5 S_x6 S_x7 S_x8 S_x9 S_r0 S_r1 S_r2 S_r3 S_r4))))))) (w1 := (hW cI uH0 aH0 H0_x1 H0_x2 H0_r0)) (ws1 := (lW uL uE uD uT uV uS uP L_x6 L_x7 ++ (vW cS uV (q4 uH0 uH1 uH2 uH3) ++ (hW cI uH0 aH0 H0_x1 H0_x2 H0_r0 ++ (hW cI uH1 aH1 H1_x1 H1_x2 H1_r0 ++ (hW cI uH2 aH2 H2_x1 H2_x2 H2_r0 ++ (hW cI uH3 aH3 H3_x1 H3_x2 H3_r0 ++ (sW cI uS aS S_x5 S_x6 S_x7 S_x8 S_x9 S_r0 S_r1 S_r2 S_r3 S_r4)))))))) (As := [.int a2, .int (a3 + ((4 : Int32) * v11.2.2)), .int (4 : Int32)]) (rest := []) (st1 := [.int t14]) 0 [2, 3] [0, 1, 4, 5, 6, 7, 8, 9, 10, 11, 12, 13, 14, 15] [0, 1, 14, 15, 2, 3, 4, 5, 6, 7, 8, 9, 10, 11, 12, 13] F (kX1_faultAt l D cI cB cS uH0 aH0 H0_x1 H0_x2 H0_r0 a2 (a3 + ((4 : Int32) * v11.2.2)) (4 : Int32) _ hc15 ) okX1_faultAt w_765 (by decide) (by decide) ⟨Nat.zero_le _, Nat.zero_le _⟩ rfl rfl rfl jP jD jS rfl jl.1 rfl rfl (Nat.le_of_ble_eq_true rfl) dX5_read_74 rfl rfl (by decide) (by decide) (by decide) rfl (by decide) (fun H locs jP jD jS => ?_)
                  refine lv_istore (lv' := [(7, .int t14), (9, .int (a3 + ((4 : Int32) * v11.2.2))), (0, .ref uL), (2, .int a2), (3, .int a3), (4, .int a4), (5, .ref uH0), (6, .int v11.1), (8, .int v11.2.2)]) hx hb dX5_read_77 jl (by decide) rfl (fun ls jl => ?_)
                  refine lv_iload hx hb dX5_read_79 (lv_at jl 0 rfl) ?_
                  refine lv_if_ne (tgt := 121) hx hb dX5_read_81 (by decide) (fun c16 => ?_) (fun c16 => ?_)
                  · have hv11 := itn c16 hv11
                    refine lv_iinc (v := (v11.2.2 + (1 : Int32))) (lv' := [(8, .int (v11.2.2 + (1 : Int32))), (7, .int t14), (9, .int (a3 + ((4 : Int32) * v11.2.2))), (0, .ref uL), (2, .int a2), (3, .int a3), (4, .int a4), (5, .ref uH0), (6, .int v11.1)]) hx hb dX5_read_121 jl (k := 8) rfl rfl (by decide) rfl (fun ls jl => ?_)
                    refine lv_goto (tgt := 48) hx hb dX5_read_124 (by decide) ?_
                    obtain rfl := Option.some.inj hv11
                    exact ih _ (nxt_l hq11) _ _ _ jP jD jS (lv_sub jl [3, 4, 5, 6, 7, 8, 1, 0] rfl)
                  · have hv11 := itp c16 hv11
                    refine lv_aload hx hb dX5_read_84 (lv_at jl 6 rfl) ?_
                    refine lv_iload hx hb dX5_read_86 (lv_at jl 1 rfl) ?_
                    obtain ⟨t17, hc18, hv11⟩ := bd_some hv11
                    refine callP (wc := (hW cI uH0 aH0 H0_x1 H0_x2 H0_r0)) (wr := (lW uL uE uD uT uV uS uP L_x6 L_x7 ++ (vW cS uV (q4 uH0 uH1 uH2 uH3) ++ (hW cI uH1 aH1 H1_x1 H1_x2 H1_r0 ++ (hW cI uH2 aH2 H2_x1 H2_x2 H2_r0 ++ (hW cI uH3 aH3 H3_x1 H3_x2 H3_r0 ++ (sW cI uS aS S_x5 S_x6 S_x7 S_x8 S_x9 S_r0 S_r1 S_r2 S_r3 S_r4))))))) (w1 := (hW cI uH0 aH0 H0_x1 H0_x2 H0_r0)) (ws1 := (lW uL uE uD uT uV uS uP L_x6 L_x7 ++ (vW cS uV (q4 uH0 uH1 uH2 uH3) ++ (hW cI uH0 aH0 H0_x1 H0_x2 H0_r0 ++ (hW cI uH1 aH1 H1_x1 H1_x2 H1_r0 ++ (hW cI uH2 aH2 H2_x1 H2_x2 H2_r0 ++ (hW cI uH3 aH3 H3_x1 H3_x2 H3_r0 ++ (sW cI uS aS S_x5 S_x6 S_x7 S_x8 S_x9 S_r0 S_r1 S_r2 S_r3 S_r4)))))))) (As := [.int (a3 + ((4 : Int32) * v11.2.2))]) (rest := []) (st1 := [.int t17]) 0 [2, 3] [0, 1, 4, 5, 6, 7, 8, 9, 10, 11, 12, 13, 14, 15] [0, 1, 14, 15, 2, 3, 4, 5, 6, 7, 8, 9, 10, 11, 12, 13] F (kX1_tellsSortAt l D cI cB cS uH0 aH0 H0_x1 H0_x2 H0_r0 (a3 + ((4 : Int32) * v11.2.2)) _ hc18 ) okX1_tellsSortAt w_781 (by decide) (by decide) ⟨Nat.zero_le _, Nat.zero_le _⟩ rfl rfl rfl jP jD jS rfl jl.1 rfl rfl (Nat.le_of_ble_eq_true rfl) dX5_read_88 rfl rfl (by decide) (by decide) (by decide) rfl (by decide) (fun H locs jP jD jS => ?_)
                    refine lv_if_ne (tgt := 100) hx hb dX5_read_91 (by decide) (fun c19 => ?_) (fun c19 => ?_)
                    · have hv11 := itn c19 hv11
                      refine lv_aload_n hx hb dX5_read_100 rfl (lv_at jl 2 rfl) ?_
                      refine va_get (D := D) (ci := 5) (v := .ref uS) (C := RX5) (T := TX5) (N := 8) hx hb hts in5 hown jK.1 jP 0 rfl rfl 4 (by decide) (hts _ w_32) (fun _ h9 => h9) rfl dX5_read_101 ?_
                      refine va_get (D := D) (ci := 2) (v := .int S_x5) (C := RX2) (T := TX2) (N := 10) hx hb hts in2 hown jK.1 jP 10 rfl rfl 5 (by decide) (hts _ w_276) (fun _ h9 => h9) rfl dX5_read_104 ?_
                      refine lv_iload hx hb dX5_read_107 (lv_at jl 8 rfl) ?_
                      refine lv_iadd hx hb dX5_read_109 ?_
                      refine lv_bipush (v := (8 : Int32)) hx hb dX5_read_110 (by decide) ?_
                      refine lv_icmp_lt (tgt := 118) hx hb dX5_read_112 (by decide) (fun c20 => ?_) (fun c20 => ?_)
                      · have hv11 := itp c20 hv11
                        refine lv_iinc (v := (v11.1 + (1 : Int32))) (lv' := [(6, .int (v11.1 + (1 : Int32))), (7, .int t14), (9, .int (a3 + ((4 : Int32) * v11.2.2))), (0, .ref uL), (2, .int a2), (3, .int a3), (4, .int a4), (5, .ref uH0), (8, .int v11.2.2)]) hx hb dX5_read_118 jl (k := 7) rfl rfl (by decide) rfl (fun ls jl => ?_)
                        refine lv_iinc (v := (v11.2.2 + (1 : Int32))) (lv' := [(8, .int (v11.2.2 + (1 : Int32))), (6, .int (v11.1 + (1 : Int32))), (7, .int t14), (9, .int (a3 + ((4 : Int32) * v11.2.2))), (0, .ref uL), (2, .int a2), (3, .int a3), (4, .int a4), (5, .ref uH0)]) hx hb dX5_read_121 jl (k := 8) rfl rfl (by decide) rfl (fun ls jl => ?_)
                        refine lv_goto (tgt := 48) hx hb dX5_read_124 (by decide) ?_
                        obtain rfl := Option.some.inj hv11
                        exact ih _ (nxt_l hq11) _ _ _ jP jD jS (lv_sub jl [4, 5, 6, 7, 8, 1, 2, 0] rfl)
                      · have hv11 := itn c20 hv11
                        refine lv_bipush (v := (-3 : Int32)) hx hb dX5_read_115 (by decide) ?_
                        obtain rfl := Option.some.inj hv11
                        obtain rfl := nxt_r hq11
                        have hz11 := sm_l hz11
                        obtain rfl := Option.some.inj hz11
                        exact hRet _ _ _ _ jP jD jS dX5_read_117
                    · have hv11 := itp c19 hv11
                      refine lv_bipush (v := (-20 : Int32)) hx hb dX5_read_94 (by decide) ?_
                      refine lv_iload hx hb dX5_read_96 (lv_at jl 8 rfl) ?_
                      refine lv_isub hx hb dX5_read_98 ?_
                      obtain rfl := Option.some.inj hv11
                      obtain rfl := nxt_r hq11
                      have hz11 := sm_l hz11
                      obtain rfl := Option.some.inj hz11
                      exact hRet _ _ _ _ jP jD jS dX5_read_99
          exact hL11 1000 _ hT11 _ _ _ jP jD jS (lv_sub jl [4, 6, 7, 8, 3, 2, 1, 0] rfl)
        · have h := itn hk10 h
          by_cases hk25 : a1 = (1 : Int32)
          · have h := itp hk25 h
            refine va_aldq (C := RX1) hx hb jK.1 jP 1 2 rfl rfl (by rw [hk25]; unfold vp_in; decide) dX5_read_36 ?_
            refine W.eq (g2 := F0 m 37 ls (.ref uH1 :: [])) (by rw [hk25]; rfl) ?_
            refine lv_astore (lv' := [(5, .ref uH1), (0, .ref uL), (1, .int a1), (2, .int a2), (3, .int a3), (4, .int a4)]) hx hb dX5_read_37 jl (by decide) rfl (fun ls jl => ?_)
            refine lv_iconst (v := (0 : Int32)) hx hb dX5_read_39 (by decide) ?_
            refine lv_istore (lv' := [(6, .int (0 : Int32)), (5, .ref uH1), (0, .ref uL), (1, .int a1), (2, .int a2), (3, .int a3), (4, .int a4)]) hx hb dX5_read_40 jl (by decide) rfl (fun ls jl => ?_)
            refine lv_iconst (v := (0 : Int32)) hx hb dX5_read_42 (by decide) ?_
            refine lv_istore (lv' := [(7, .int (0 : Int32)), (6, .int (0 : Int32)), (5, .ref uH1), (0, .ref uL), (1, .int a1), (2, .int a2), (3, .int a3), (4, .int a4)]) hx hb dX5_read_43 jl (by decide) rfl (fun ls jl => ?_)
            refine lv_iconst (v := (0 : Int32)) hx hb dX5_read_45 (by decide) ?_
            refine lv_istore (lv' := [(8, .int (0 : Int32)), (7, .int (0 : Int32)), (6, .int (0 : Int32)), (5, .ref uH1), (0, .ref uL), (1, .int a1), (2, .int a2), (3, .int a3), (4, .int a4)]) hx hb dX5_read_46 jl (by decide) rfl (fun ls jl => ?_)
            obtain ⟨T26, hT26, hz26⟩ := bd_some h
            clear h
            have hE26 : ∀ (e26 : (Int32 × Int32)), T26 = .inr e26 → ∀ (H : Heap) (locs : List Loc) (ls : Array Slot), va_P D vwCl (lW uL uE uD uT uV uS uP L_x6 L_x7 ++ (vW cS uV (q4 uH0 uH1 uH2 uH3) ++ (hW cI uH0 aH0 H0_x1 H0_x2 H0_r0 ++ (hW cI uH1 aH1 H1_x1 H1_x2 H1_r0 ++ (hW cI uH2 aH2 H2_x1 H2_x2 H2_r0 ++ (hW cI uH3 aH3 H3_x1 H3_x2 H3_r0 ++ (sW cI uS aS S_x5 S_x6 S_x7 S_x8 S_x9 S_r0 S_r1 S_r2 S_r3 S_r4))))))) H → va_D A (lW uL uE uD uT uV uS uP L_x6 L_x7 ++ (vW cS uV (q4 uH0 uH1 uH2 uH3) ++ (hW cI uH0 aH0 H0_x1 H0_x2 H0_r0 ++ (hW cI uH1 aH1 H1_x1 H1_x2 H1_r0 ++ (hW cI uH2 aH2 H2_x1 H2_x2 H2_r0 ++ (hW cI uH3 aH3 H3_x1 H3_x2 H3_r0 ++ (sW cI uS aS S_x5 S_x6 S_x7 S_x8 S_x9 S_r0 S_r1 S_r2 S_r3 S_r4))))))) → va_S A s.heap H locs → lv_has ls 10 [(0, .ref uL), (3, .int a3), (5, .ref uH1), (6, .int e26.1), (7, .int e26.2)] → W p l e R s m ar below meth c H locs 0 0 QQ (F0 m 127 ls []) := by
              intro e26 ho
              subst ho
              have hz26 := sm_r hz26
              clear jP jD jS jl
              intro H locs ls jP jD jS jl
              refine lv_iconst (v := (0 : Int32)) hx hb dX5_read_127 (by decide) ?_
              refine lv_istore (lv' := [(8, .int (0 : Int32)), (0, .ref uL), (3, .int a3), (5, .ref uH1), (6, .int e26.1), (7, .int e26.2)]) hx hb dX5_read_128 jl (by decide) rfl (fun ls jl => ?_)
              obtain ⟨T36, hT36, hz36⟩ := bd_some hz26
              clear hz26
              have hE36 : ∀ (H : Heap) (locs : List Loc) (ls : Array Slot), va_P D vwCl (lW uL uE uD uT uV uS uP L_x6 L_x7 ++ (vW cS uV (q4 uH0 uH1 uH2 uH3) ++ (hW cI uH0 aH0 H0_x1 H0_x2 H0_r0 ++ (hW cI uH1 aH1 H1_x1 H1_x2 H1_r0 ++ (hW cI uH2 aH2 H2_x1 H2_x2 H2_r0 ++ (hW cI uH3 aH3 H3_x1 H3_x2 H3_r0 ++ (sW cI uS aS T36.2.2.2.2.2 S_x6 S_x7 S_x8 S_x9 T36.1 T36.2.1 T36.2.2.1 T36.2.2.2.1 T36.2.2.2.2.1))))))) H → va_D A (lW uL uE uD uT uV uS uP L_x6 L_x7 ++ (vW cS uV (q4 uH0 uH1 uH2 uH3) ++ (hW cI uH0 aH0 H0_x1 H0_x2 H0_r0 ++ (hW cI uH1 aH1 H1_x1 H1_x2 H1_r0 ++ (hW cI uH2 aH2 H2_x1 H2_x2 H2_r0 ++ (hW cI uH3 aH3 H3_x1 H3_x2 H3_r0 ++ (sW cI uS aS T36.2.2.2.2.2 S_x6 S_x7 S_x8 S_x9 T36.1 T36.2.1 T36.2.2.1 T36.2.2.2.1 T36.2.2.2.2.1))))))) → va_S A s.heap H locs → lv_has ls 10 [(0, .ref uL), (6, .int e26.1), (7, .int e26.2)] → W p l e R s m ar below meth c H locs 0 0 QQ (F0 m 158 ls []) := by
                clear jP jD jS jl
                intro H locs ls jP jD jS jl
                refine lv_aload_n hx hb dX5_read_158 rfl (lv_at jl 0 rfl) ?_
                refine lv_iload hx hb dX5_read_159 (lv_at jl 2 rfl) ?_
                refine va_put (D := D) (ci := 5) (v := .int e26.2) (ty := .int) (C := RX5) (T := TX5) (N := 8) hx hb hts in5 tyX5 tyX5_ok nmX5 hown jK.1 jP jD jS 0 rfl rfl 7 (by decide) (hts _ w_35) (fun _ h9 => h9) rfl (by decide +kernel) rfl rfl (Nat.le_of_ble_eq_true rfl) dX5_read_161 (fun H locs jP jD jS => ?_)
                have jP : va_P D vwCl (lW uL uE uD uT uV uS uP L_x6 e26.2 ++ (vW cS uV (q4 uH0 uH1 uH2 uH3) ++ (hW cI uH0 aH0 H0_x1 H0_x2 H0_r0 ++ (hW cI uH1 aH1 H1_x1 H1_x2 H1_r0 ++ (hW cI uH2 aH2 H2_x1 H2_x2 H2_r0 ++ (hW cI uH3 aH3 H3_x1 H3_x2 H3_r0 ++ (sW cI uS aS T36.2.2.2.2.2 S_x6 S_x7 S_x8 S_x9 T36.1 T36.2.1 T36.2.2.1 T36.2.2.2.1 T36.2.2.2.2.1))))))) H := jP
                have jD : va_D A (lW uL uE uD uT uV uS uP L_x6 e26.2 ++ (vW cS uV (q4 uH0 uH1 uH2 uH3) ++ (hW cI uH0 aH0 H0_x1 H0_x2 H0_r0 ++ (hW cI uH1 aH1 H1_x1 H1_x2 H1_r0 ++ (hW cI uH2 aH2 H2_x1 H2_x2 H2_r0 ++ (hW cI uH3 aH3 H3_x1 H3_x2 H3_r0 ++ (sW cI uS aS T36.2.2.2.2.2 S_x6 S_x7 S_x8 S_x9 T36.1 T36.2.1 T36.2.2.1 T36.2.2.2.1 T36.2.2.2.2.1))))))) := jD
                refine lv_iload hx hb dX5_read_164 (lv_at jl 1 rfl) ?_
                obtain rfl := Option.some.inj hz36
                exact hRet _ _ _ _ jP jD jS dX5_read_166
              have hL36 : ∀ (n : Nat) (v36 : (Int32 × (Nat → Int32) × (Nat → Int32) × (Nat → Int32) × (Nat → Int32) × (Nat → Int32) × Int32)), loopF (fX5_read_b130 a3 e26.1 e26.2 H1_r0) n v36 = some T36 → ∀ (H : Heap) (locs : List Loc) (ls : Array Slot), va_P D vwCl (lW uL uE uD uT uV uS uP L_x6 L_x7 ++ (vW cS uV (q4 uH0 uH1 uH2 uH3) ++ (hW cI uH0 aH0 H0_x1 H0_x2 H0_r0 ++ (hW cI uH1 aH1 H1_x1 H1_x2 H1_r0 ++ (hW cI uH2 aH2 H2_x1 H2_x2 H2_r0 ++ (hW cI uH3 aH3 H3_x1 H3_x2 H3_r0 ++ (sW cI uS aS v36.2.2.2.2.2.2 S_x6 S_x7 S_x8 S_x9 v36.2.1 v36.2.2.1 v36.2.2.2.1 v36.2.2.2.2.1 v36.2.2.2.2.2.1))))))) H → va_D A (lW uL uE uD uT uV uS uP L_x6 L_x7 ++ (vW cS uV (q4 uH0 uH1 uH2 uH3) ++ (hW cI uH0 aH0 H0_x1 H0_x2 H0_r0 ++ (hW cI uH1 aH1 H1_x1 H1_x2 H1_r0 ++ (hW cI uH2 aH2 H2_x1 H2_x2 H2_r0 ++ (hW cI uH3 aH3 H3_x1 H3_x2 H3_r0 ++ (sW cI uS aS v36.2.2.2.2.2.2 S_x6 S_x7 S_x8 S_x9 v36.2.1 v36.2.2.1 v36.2.2.2.1 v36.2.2.2.2.1 v36.2.2.2.2.2.1))))))) → va_S A s.heap H locs → lv_has ls 10 [(0, .ref uL), (3, .int a3), (5, .ref uH1), (6, .int e26.1), (7, .int e26.2), (8, .int v36.1)] → W p l e R s m ar below meth c H locs 0 0 QQ (F0 m 130 ls []) := by
                clear jP jD jS jl hT36
                intro n
                induction n with
                | zero => intro v36 hq; exact (loop_none hq).elim
                | succ n ih =>
                  intro v36 hq H locs ls jP jD jS jl
                  obtain ⟨o36, hv36, hq36⟩ := loop_some hq
                  clear hq
                  unfold fX5_read_b130 at hv36
                  refine lv_iload hx hb dX5_read_130 (lv_at jl 5 rfl) ?_
                  refine lv_iload hx hb dX5_read_132 (lv_at jl 3 rfl) ?_
                  refine lv_icmp_ge (tgt := 158) hx hb dX5_read_134 (by decide) (fun c37 => ?_) (fun c37 => ?_)
                  · have hv36 := itp c37 hv36
                    obtain rfl := Option.some.inj hv36
                    obtain rfl := nxt_r hq36
                    exact hE36 _ _ _ jP jD jS (lv_sub jl [0, 3, 4] rfl)
                  · have hv36 := itn c37 hv36
                    refine lv_aload hx hb dX5_read_137 (lv_at jl 2 rfl) ?_
                    refine lv_iload_n hx hb dX5_read_139 rfl (lv_at jl 1 rfl) ?_
                    refine lv_iconst (v := (4 : Int32)) hx hb dX5_read_140 (by decide) ?_
                    refine lv_iload hx hb dX5_read_141 (lv_at jl 5 rfl) ?_
                    refine lv_imul hx hb dX5_read_143 ?_
                    refine lv_iadd hx hb dX5_read_144 ?_
                    refine lv_aload_n hx hb dX5_read_145 rfl (lv_at jl 0 rfl) ?_
                    refine va_get (D := D) (ci := 5) (v := .ref uS) (C := RX5) (T := TX5) (N := 8) hx hb hts in5 hown jK.1 jP 0 rfl rfl 4 (by decide) (hts _ w_32) (fun _ h9 => h9) rfl dX5_read_146 ?_
                    obtain ⟨t38, hc39, hv36⟩ := bd_some hv36
                    refine callP (wc := (hW cI uH1 aH1 H1_x1 H1_x2 H1_r0 ++ (sW cI uS aS v36.2.2.2.2.2.2 S_x6 S_x7 S_x8 S_x9 v36.2.1 v36.2.2.1 v36.2.2.2.1 v36.2.2.2.2.1 v36.2.2.2.2.2.1))) (wr := (lW uL uE uD uT uV uS uP L_x6 L_x7 ++ (vW cS uV (q4 uH0 uH1 uH2 uH3) ++ (hW cI uH0 aH0 H0_x1 H0_x2 H0_r0 ++ (hW cI uH2 aH2 H2_x1 H2_x2 H2_r0 ++ (hW cI uH3 aH3 H3_x1 H3_x2 H3_r0)))))) (w1 := (hW cI uH1 aH1 H1_x1 H1_x2 H1_r0 ++ (sW cI uS aS t38.2.2.2.2.2 S_x6 S_x7 S_x8 S_x9 t38.1 t38.2.1 t38.2.2.1 t38.2.2.2.1 t38.2.2.2.2.1))) (ws1 := (lW uL uE uD uT uV uS uP L_x6 L_x7 ++ (vW cS uV (q4 uH0 uH1 uH2 uH3) ++ (hW cI uH0 aH0 H0_x1 H0_x2 H0_r0 ++ (hW cI uH1 aH1 H1_x1 H1_x2 H1_r0 ++ (hW cI uH2 aH2 H2_x1 H2_x2 H2_r0 ++ (hW cI uH3 aH3 H3_x1 H3_x2 H3_r0 ++ (sW cI uS aS t38.2.2.2.2.2 S_x6 S_x7 S_x8 S_x9 t38.1 t38.2.1 t38.2.2.1 t38.2.2.2.1 t38.2.2.2.2.1)))))))) (As := [.int (a3 + ((4 : Int32) * v36.1)), .ref uS]) (rest := []) (st1 := []) 0 [4, 5, 10, 11, 12, 13, 14, 15] [0, 1, 2, 3, 6, 7, 8, 9] [0, 1, 2, 3, 8, 9, 4, 5, 6, 7, 10, 11, 12, 13, 14, 15] F (kX1_addSortAt l D cI cB cS uH1 aH1 H1_x1 H1_x2 H1_r0 uS aS v36.2.2.2.2.2.2 S_x6 S_x7 S_x8 S_x9 v36.2.1 v36.2.2.1 v36.2.2.2.1 v36.2.2.2.2.1 v36.2.2.2.2.2.1 (a3 + ((4 : Int32) * v36.1)) _ hc39 ) okX1_addSortAt w_785 (by decide) (by decide) ⟨Nat.zero_le _, Nat.zero_le _⟩ rfl rfl rfl jP jD jS rfl jl.1 rfl rfl (Nat.le_of_ble_eq_true rfl) dX5_read_149 rfl rfl (by decide) (by decide) (by decide) rfl (by decide) (fun H locs jP jD jS => ?_)
                    refine lv_iinc (v := (v36.1 + (1 : Int32))) (lv' := [(8, .int (v36.1 + (1 : Int32))), (0, .ref uL), (3, .int a3), (5, .ref uH1), (6, .int e26.1), (7, .int e26.2)]) hx hb dX5_read_152 jl (k := 5) rfl rfl (by decide) rfl (fun ls jl => ?_)
                    refine lv_goto (tgt := 130) hx hb dX5_read_155 (by decide) ?_
                    obtain rfl := Option.some.inj hv36
                    exact ih _ (nxt_l hq36) _ _ _ jP jD jS (lv_sub jl [1, 2, 3, 4, 5, 0] rfl)
              exact hL36 1000 _ hT36 _ _ _ jP jD jS (lv_sub jl [1, 2, 3, 4, 5, 0] rfl)
            have hL26 : ∀ (n : Nat) (v26 : (Int32 × Int32 × Int32)), loopF (fX5_read_b48 a2 a3 a4 H1_x1 H1_x2 H1_r0 S_x5 L_x7 S_r0 S_r1 S_r2 S_r3 S_r4) n v26 = some T26 → ∀ (H : Heap) (locs : List Loc) (ls : Array Slot), va_P D vwCl (lW uL uE uD uT uV uS uP L_x6 L_x7 ++ (vW cS uV (q4 uH0 uH1 uH2 uH3) ++ (hW cI uH0 aH0 H0_x1 H0_x2 H0_r0 ++ (hW cI uH1 aH1 H1_x1 H1_x2 H1_r0 ++ (hW cI uH2 aH2 H2_x1 H2_x2 H2_r0 ++ (hW cI uH3 aH3 H3_x1 H3_x2 H3_r0 ++ (sW cI uS aS S_x5 S_x6 S_x7 S_x8 S_x9 S_r0 S_r1 S_r2 S_r3 S_r4))))))) H → va_D A (lW uL uE uD uT uV uS uP L_x6 L_x7 ++ (vW cS uV (q4 uH0 uH1 uH2 uH3) ++ (hW cI uH0 aH0 H0_x1 H0_x2 H0_r0 ++ (hW cI uH1 aH1 H1_x1 H1_x2 H1_r0 ++ (hW cI uH2 aH2 H2_x1 H2_x2 H2_r0 ++ (hW cI uH3 aH3 H3_x1 H3_x2 H3_r0 ++ (sW cI uS aS S_x5 S_x6 S_x7 S_x8 S_x9 S_r0 S_r1 S_r2 S_r3 S_r4))))))) → va_S A s.heap H locs → lv_has ls 10 [(0, .ref uL), (2, .int a2), (3, .int a3), (4, .int a4), (5, .ref uH1), (6, .int v26.1), (7, .int v26.2.1), (8, .int v26.2.2)] → W p l e R s m ar below meth c H locs 0 0 QQ (F0 m 48 ls []) := by
              clear jP jD jS jl hT26
              intro n
              induction n with
              | zero => intro v26 hq; exact (loop_none hq).elim
              | succ n ih =>
                intro v26 hq H locs ls jP jD jS jl
                obtain ⟨o26, hv26, hq26⟩ := loop_some hq
                clear hq
                unfold fX5_read_b48 at hv26
                refine lv_iload hx hb dX5_read_48 (lv_at jl 7 rfl) ?_
                refine lv_iload hx hb dX5_read_50 (lv_at jl 3 rfl) ?_
                refine lv_icmp_ge (tgt := 127) hx hb dX5_read_52 (by decide) (fun c27 => ?_) (fun c27 => ?_)
                · have hv26 := itp c27 hv26
                  obtain rfl := Option.some.inj hv26
                  obtain rfl := nxt_r hq26
                  exact hE26 _ rfl _ _ _ jP jD jS (lv_sub jl [0, 2, 4, 5, 6] rfl)
                · have hv26 := itn c27 hv26
                  refine lv_iload hx hb dX5_read_55 (lv_at jl 6 rfl) ?_
                  refine lv_if_ne (tgt := 127) hx hb dX5_read_57 (by decide) (fun c28 => ?_) (fun c28 => ?_)
                  · have hv26 := itn c28 hv26
                    obtain rfl := Option.some.inj hv26
                    obtain rfl := nxt_r hq26
                    exact hE26 _ rfl _ _ _ jP jD jS (lv_sub jl [0, 2, 4, 5, 6] rfl)
                  · have hv26 := itp c28 hv26
                    refine lv_iload_n hx hb dX5_read_60 rfl (lv_at jl 2 rfl) ?_
                    refine lv_iconst (v := (4 : Int32)) hx hb dX5_read_61 (by decide) ?_
                    refine lv_iload hx hb dX5_read_62 (lv_at jl 7 rfl) ?_
                    refine lv_imul hx hb dX5_read_64 ?_
                    refine lv_iadd hx hb dX5_read_65 ?_
                    refine lv_istore (lv' := [(9, .int (a3 + ((4 : Int32) * v26.2.2))), (0, .ref uL), (2, .int a2), (3, .int a3), (4, .int a4), (5, .ref uH1), (6, .int v26.1), (7, .int v26.2.1), (8, .int v26.2.2)]) hx hb dX5_read_66 jl (by decide) rfl (fun ls jl => ?_)
                    refine lv_aload hx hb dX5_read_68 (lv_at jl 5 rfl) ?_
                    refine lv_iload_n hx hb dX5_read_70 rfl (lv_at jl 2 rfl) ?_
                    refine lv_iload hx hb dX5_read_71 (lv_at jl 0 rfl) ?_
                    refine lv_iconst (v := (4 : Int32)) hx hb dX5_read_73 (by decide) ?_
                    obtain ⟨t29, hc30, hv26⟩ := bd_some hv26
                    refine callP (wc := (hW cI uH1 aH1 H1_x1 H1_x2 H1_r0)) (wr := (lW uL uE uD uT uV uS uP L_x6 L_x7 ++ (vW cS uV (q4 uH0 uH1 uH2 uH3) ++ (hW cI uH0 aH0 H0_x1 H0_x2 H0_r0 ++ (hW cI uH2 aH2 H2_x1 H2_x2 H2_r0 ++ (hW cI uH3 aH3 H3_x1 H3_x2 H3_r0 ++ (sW cI uS aS S_x5 S_x6 S_x7 S_x8 S_x9 S_r0 S_r1 S_r2 S_r3 S_r4))))))) (w1 := (hW cI uH1 aH1 H1_x1 H1_x2 H1_r0)) (ws1 := (lW uL uE uD uT uV uS uP L_x6 L_x7 ++ (vW cS uV (q4 uH0 uH1 uH2 uH3) ++ (hW cI uH0 aH0 H0_x1 H0_x2 H0_r0 ++ (hW cI uH1 aH1 H1_x1 H1_x2 H1_r0 ++ (hW cI uH2 aH2 H2_x1 H2_x2 H2_r0 ++ (hW cI uH3 aH3 H3_x1 H3_x2 H3_r0 ++ (sW cI uS aS S_x5 S_x6 S_x7 S_x8 S_x9 S_r0 S_r1 S_r2 S_r3 S_r4)))))))) (As := [.int a2, .int (a3 + ((4 : Int32) * v26.2.2)), .int (4 : Int32)]) (rest := []) (st1 := [.int t29]) 0 [4, 5] [0, 1, 2, 3, 6, 7, 8, 9, 10, 11, 12, 13, 14, 15] [0, 1, 2, 3, 14, 15, 4, 5, 6, 7, 8, 9, 10, 11, 12, 13] F (kX1_faultAt l D cI cB cS uH1 aH1 H1_x1 H1_x2 H1_r0 a2 (a3 + ((4 : Int32) * v26.2.2)) (4 : Int32) _ hc30 ) okX1_faultAt w_765 (by decide) (by decide) ⟨Nat.zero_le _, Nat.zero_le _⟩ rfl rfl rfl jP jD jS rfl jl.1 rfl rfl (Nat.le_of_ble_eq_true rfl) dX5_read_74 rfl rfl (by decide) (by decide) (by decide) rfl (by decide) (fun H locs jP jD jS => ?_)
                    refine lv_istore (lv' := [(7, .int t29), (9, .int (a3 + ((4 : Int32) * v26.2.2))), (0, .ref uL), (2, .int a2), (3, .int a3), (4, .int a4), (5, .ref uH1), (6, .int v26.1), (8, .int v26.2.2)]) hx hb dX5_read_77 jl (by decide) rfl (fun ls jl => ?_)
                    refine lv_iload hx hb dX5_read_79 (lv_at jl 0 rfl) ?_
                    refine lv_if_ne (tgt := 121) hx hb dX5_read_81 (by decide) (fun c31 => ?_) (fun c31 => ?_)
                    · have hv26 := itn c31 hv26
                      refine lv_iinc (v := (v26.2.2 + (1 : Int32))) (lv' := [(8, .int (v26.2.2 + (1 : Int32))), (7, .int t29), (9, .int (a3 + ((4 : Int32) * v26.2.2))), (0, .ref uL), (2, .int a2), (3, .int a3), (4, .int a4), (5, .ref uH1), (6, .int v26.1)]) hx hb dX5_read_121 jl (k := 8) rfl rfl (by decide) rfl (fun ls jl => ?_)
                      refine lv_goto (tgt := 48) hx hb dX5_read_124 (by decide) ?_
                      obtain rfl := Option.some.inj hv26
                      exact ih _ (nxt_l hq26) _ _ _ jP jD jS (lv_sub jl [3, 4, 5, 6, 7, 8, 1, 0] rfl)
                    · have hv26 := itp c31 hv26
                      refine lv_aload hx hb dX5_read_84 (lv_at jl 6 rfl) ?_
                      refine lv_iload hx hb dX5_read_86 (lv_at jl 1 rfl) ?_
                      obtain ⟨t32, hc33, hv26⟩ := bd_some hv26
                      refine callP (wc := (hW cI uH1 aH1 H1_x1 H1_x2 H1_r0)) (wr := (lW uL uE uD uT uV uS uP L_x6 L_x7 ++ (vW cS uV (q4 uH0 uH1 uH2 uH3) ++ (hW cI uH0 aH0 H0_x1 H0_x2 H0_r0 ++ (hW cI uH2 aH2 H2_x1 H2_x2 H2_r0 ++ (hW cI uH3 aH3 H3_x1 H3_x2 H3_r0 ++ (sW cI uS aS S_x5 S_x6 S_x7 S_x8 S_x9 S_r0 S_r1 S_r2 S_r3 S_r4))))))) (w1 := (hW cI uH1 aH1 H1_x1 H1_x2 H1_r0)) (ws1 := (lW uL uE uD uT uV uS uP L_x6 L_x7 ++ (vW cS uV (q4 uH0 uH1 uH2 uH3) ++ (hW cI uH0 aH0 H0_x1 H0_x2 H0_r0 ++ (hW cI uH1 aH1 H1_x1 H1_x2 H1_r0 ++ (hW cI uH2 aH2 H2_x1 H2_x2 H2_r0 ++ (hW cI uH3 aH3 H3_x1 H3_x2 H3_r0 ++ (sW cI uS aS S_x5 S_x6 S_x7 S_x8 S_x9 S_r0 S_r1 S_r2 S_r3 S_r4)))))))) (As := [.int (a3 + ((4 : Int32) * v26.2.2))]) (rest := []) (st1 := [.int t32]) 0 [4, 5] [0, 1, 2, 3, 6, 7, 8, 9, 10, 11, 12, 13, 14, 15] [0, 1, 2, 3, 14, 15, 4, 5, 6, 7, 8, 9, 10, 11, 12, 13] F (kX1_tellsSortAt l D cI cB cS uH1 aH1 H1_x1 H1_x2 H1_r0 (a3 + ((4 : Int32) * v26.2.2)) _ hc33 ) okX1_tellsSortAt w_781 (by decide) (by decide) ⟨Nat.zero_le _, Nat.zero_le _⟩ rfl rfl rfl jP jD jS rfl jl.1 rfl rfl (Nat.le_of_ble_eq_true rfl) dX5_read_88 rfl rfl (by decide) (by decide) (by decide) rfl (by decide) (fun H locs jP jD jS => ?_)
                      refine lv_if_ne (tgt := 100) hx hb dX5_read_91 (by decide) (fun c34 => ?_) (fun c34 => ?_)
                      · have hv26 := itn c34 hv26
                        refine lv_aload_n hx hb dX5_read_100 rfl (lv_at jl 2 rfl) ?_
                        refine va_get (D := D) (ci := 5) (v := .ref uS) (C := RX5) (T := TX5) (N := 8) hx hb hts in5 hown jK.1 jP 0 rfl rfl 4 (by decide) (hts _ w_32) (fun _ h9 => h9) rfl dX5_read_101 ?_
                        refine va_get (D := D) (ci := 2) (v := .int S_x5) (C := RX2) (T := TX2) (N := 10) hx hb hts in2 hown jK.1 jP 10 rfl rfl 5 (by decide) (hts _ w_276) (fun _ h9 => h9) rfl dX5_read_104 ?_
                        refine lv_iload hx hb dX5_read_107 (lv_at jl 8 rfl) ?_
                        refine lv_iadd hx hb dX5_read_109 ?_
                        refine lv_bipush (v := (8 : Int32)) hx hb dX5_read_110 (by decide) ?_
                        refine lv_icmp_lt (tgt := 118) hx hb dX5_read_112 (by decide) (fun c35 => ?_) (fun c35 => ?_)
                        · have hv26 := itp c35 hv26
                          refine lv_iinc (v := (v26.1 + (1 : Int32))) (lv' := [(6, .int (v26.1 + (1 : Int32))), (7, .int t29), (9, .int (a3 + ((4 : Int32) * v26.2.2))), (0, .ref uL), (2, .int a2), (3, .int a3), (4, .int a4), (5, .ref uH1), (8, .int v26.2.2)]) hx hb dX5_read_118 jl (k := 7) rfl rfl (by decide) rfl (fun ls jl => ?_)
                          refine lv_iinc (v := (v26.2.2 + (1 : Int32))) (lv' := [(8, .int (v26.2.2 + (1 : Int32))), (6, .int (v26.1 + (1 : Int32))), (7, .int t29), (9, .int (a3 + ((4 : Int32) * v26.2.2))), (0, .ref uL), (2, .int a2), (3, .int a3), (4, .int a4), (5, .ref uH1)]) hx hb dX5_read_121 jl (k := 8) rfl rfl (by decide) rfl (fun ls jl => ?_)
                          refine lv_goto (tgt := 48) hx hb dX5_read_124 (by decide) ?_
                          obtain rfl := Option.some.inj hv26
                          exact ih _ (nxt_l hq26) _ _ _ jP jD jS (lv_sub jl [4, 5, 6, 7, 8, 1, 2, 0] rfl)
                        · have hv26 := itn c35 hv26
                          refine lv_bipush (v := (-3 : Int32)) hx hb dX5_read_115 (by decide) ?_
                          obtain rfl := Option.some.inj hv26
                          obtain rfl := nxt_r hq26
                          have hz26 := sm_l hz26
                          obtain rfl := Option.some.inj hz26
                          exact hRet _ _ _ _ jP jD jS dX5_read_117
                      · have hv26 := itp c34 hv26
                        refine lv_bipush (v := (-20 : Int32)) hx hb dX5_read_94 (by decide) ?_
                        refine lv_iload hx hb dX5_read_96 (lv_at jl 8 rfl) ?_
                        refine lv_isub hx hb dX5_read_98 ?_
                        obtain rfl := Option.some.inj hv26
                        obtain rfl := nxt_r hq26
                        have hz26 := sm_l hz26
                        obtain rfl := Option.some.inj hz26
                        exact hRet _ _ _ _ jP jD jS dX5_read_99
            exact hL26 1000 _ hT26 _ _ _ jP jD jS (lv_sub jl [4, 6, 7, 8, 3, 2, 1, 0] rfl)
          · have h := itn hk25 h
            by_cases hk40 : a1 = (2 : Int32)
            · have h := itp hk40 h
              refine va_aldq (C := RX1) hx hb jK.1 jP 1 2 rfl rfl (by rw [hk40]; unfold vp_in; decide) dX5_read_36 ?_
              refine W.eq (g2 := F0 m 37 ls (.ref uH2 :: [])) (by rw [hk40]; rfl) ?_
              refine lv_astore (lv' := [(5, .ref uH2), (0, .ref uL), (1, .int a1), (2, .int a2), (3, .int a3), (4, .int a4)]) hx hb dX5_read_37 jl (by decide) rfl (fun ls jl => ?_)
              refine lv_iconst (v := (0 : Int32)) hx hb dX5_read_39 (by decide) ?_
              refine lv_istore (lv' := [(6, .int (0 : Int32)), (5, .ref uH2), (0, .ref uL), (1, .int a1), (2, .int a2), (3, .int a3), (4, .int a4)]) hx hb dX5_read_40 jl (by decide) rfl (fun ls jl => ?_)
              refine lv_iconst (v := (0 : Int32)) hx hb dX5_read_42 (by decide) ?_
              refine lv_istore (lv' := [(7, .int (0 : Int32)), (6, .int (0 : Int32)), (5, .ref uH2), (0, .ref uL), (1, .int a1), (2, .int a2), (3, .int a3), (4, .int a4)]) hx hb dX5_read_43 jl (by decide) rfl (fun ls jl => ?_)
              refine lv_iconst (v := (0 : Int32)) hx hb dX5_read_45 (by decide) ?_
              refine lv_istore (lv' := [(8, .int (0 : Int32)), (7, .int (0 : Int32)), (6, .int (0 : Int32)), (5, .ref uH2), (0, .ref uL), (1, .int a1), (2, .int a2), (3, .int a3), (4, .int a4)]) hx hb dX5_read_46 jl (by decide) rfl (fun ls jl => ?_)
              obtain ⟨T41, hT41, hz41⟩ := bd_some h
              clear h
              have hE41 : ∀ (e41 : (Int32 × Int32)), T41 = .inr e41 → ∀ (H : Heap) (locs : List Loc) (ls : Array Slot), va_P D vwCl (lW uL uE uD uT uV uS uP L_x6 L_x7 ++ (vW cS uV (q4 uH0 uH1 uH2 uH3) ++ (hW cI uH0 aH0 H0_x1 H0_x2 H0_r0 ++ (hW cI uH1 aH1 H1_x1 H1_x2 H1_r0 ++ (hW cI uH2 aH2 H2_x1 H2_x2 H2_r0 ++ (hW cI uH3 aH3 H3_x1 H3_x2 H3_r0 ++ (sW cI uS aS S_x5 S_x6 S_x7 S_x8 S_x9 S_r0 S_r1 S_r2 S_r3 S_r4))))))) H → va_D A (lW uL uE uD uT uV uS uP L_x6 L_x7 ++ (vW cS uV (q4 uH0 uH1 uH2 uH3) ++ (hW cI uH0 aH0 H0_x1 H0_x2 H0_r0 ++ (hW cI uH1 aH1 H1_x1 H1_x2 H1_r0 ++ (hW cI uH2 aH2 H2_x1 H2_x2 H2_r0 ++ (hW cI uH3 aH3 H3_x1 H3_x2 H3_r0 ++ (sW cI uS aS S_x5 S_x6 S_x7 S_x8 S_x9 S_r0 S_r1 S_r2 S_r3 S_r4))))))) → va_S A s.heap H locs → lv_has ls 10 [(0, .ref uL), (3, .int a3), (5, .ref uH2), (6, .int e41.1), (7, .int e41.2)] → W p l e R s m ar below meth c H locs 0 0 QQ (F0 m 127 ls []) := by
                intro e41 ho
                subst ho
                have hz41 := sm_r hz41
                clear jP jD jS jl
                intro H locs ls jP jD jS jl
                refine lv_iconst (v := (0 : Int32)) hx hb dX5_read_127 (by decide) ?_
                refine lv_istore (lv' := [(8, .int (0 : Int32)), (0, .ref uL), (3, .int a3), (5, .ref uH2), (6, .int e41.1), (7, .int e41.2)]) hx hb dX5_read_128 jl (by decide) rfl (fun ls jl => ?_)
                obtain ⟨T51, hT51, hz51⟩ := bd_some hz41
                clear hz41
                have hE51 : ∀ (H : Heap) (locs : List Loc) (ls : Array Slot), va_P D vwCl (lW uL uE uD uT uV uS uP L_x6 L_x7 ++ (vW cS uV (q4 uH0 uH1 uH2 uH3) ++ (hW cI uH0 aH0 H0_x1 H0_x2 H0_r0 ++ (hW cI uH1 aH1 H1_x1 H1_x2 H1_r0 ++ (hW cI uH2 aH2 H2_x1 H2_x2 H2_r0 ++ (hW cI uH3 aH3 H3_x1 H3_x2 H3_r0 ++ (sW cI uS aS T51.2.2.2.2.2 S_x6 S_x7 S_x8 S_x9 T51.1 T51.2.1 T51.2.2.1 T51.2.2.2.1 T51.2.2.2.2.1))))))) H → va_D A (lW uL uE uD uT uV uS uP L_x6 L_x7 ++ (vW cS uV (q4 uH0 uH1 uH2 uH3) ++ (hW cI uH0 aH0 H0_x1 H0_x2 H0_r0 ++ (hW cI uH1 aH1 H1_x1 H1_x2 H1_r0 ++ (hW cI uH2 aH2 H2_x1 H2_x2 H2_r0 ++ (hW cI uH3 aH3 H3_x1 H3_x2 H3_r0 ++ (sW cI uS aS T51.2.2.2.2.2 S_x6 S_x7 S_x8 S_x9 T51.1 T51.2.1 T51.2.2.1 T51.2.2.2.1 T51.2.2.2.2.1))))))) → va_S A s.heap H locs → lv_has ls 10 [(0, .ref uL), (6, .int e41.1), (7, .int e41.2)] → W p l e R s m ar below meth c H locs 0 0 QQ (F0 m 158 ls []) := by
                  clear jP jD jS jl
                  intro H locs ls jP jD jS jl
                  refine lv_aload_n hx hb dX5_read_158 rfl (lv_at jl 0 rfl) ?_
                  refine lv_iload hx hb dX5_read_159 (lv_at jl 2 rfl) ?_
                  refine va_put (D := D) (ci := 5) (v := .int e41.2) (ty := .int) (C := RX5) (T := TX5) (N := 8) hx hb hts in5 tyX5 tyX5_ok nmX5 hown jK.1 jP jD jS 0 rfl rfl 7 (by decide) (hts _ w_35) (fun _ h9 => h9) rfl (by decide +kernel) rfl rfl (Nat.le_of_ble_eq_true rfl) dX5_read_161 (fun H locs jP jD jS => ?_)
                  have jP : va_P D vwCl (lW uL uE uD uT uV uS uP L_x6 e41.2 ++ (vW cS uV (q4 uH0 uH1 uH2 uH3) ++ (hW cI uH0 aH0 H0_x1 H0_x2 H0_r0 ++ (hW cI uH1 aH1 H1_x1 H1_x2 H1_r0 ++ (hW cI uH2 aH2 H2_x1 H2_x2 H2_r0 ++ (hW cI uH3 aH3 H3_x1 H3_x2 H3_r0 ++ (sW cI uS aS T51.2.2.2.2.2 S_x6 S_x7 S_x8 S_x9 T51.1 T51.2.1 T51.2.2.1 T51.2.2.2.1 T51.2.2.2.2.1))))))) H := jP
                  have jD : va_D A (lW uL uE uD uT uV uS uP L_x6 e41.2 ++ (vW cS uV (q4 uH0 uH1 uH2 uH3) ++ (hW cI uH0 aH0 H0_x1 H0_x2 H0_r0 ++ (hW cI uH1 aH1 H1_x1 H1_x2 H1_r0 ++ (hW cI uH2 aH2 H2_x1 H2_x2 H2_r0 ++ (hW cI uH3 aH3 H3_x1 H3_x2 H3_r0 ++ (sW cI uS aS T51.2.2.2.2.2 S_x6 S_x7 S_x8 S_x9 T51.1 T51.2.1 T51.2.2.1 T51.2.2.2.1 T51.2.2.2.2.1))))))) := jD
                  refine lv_iload hx hb dX5_read_164 (lv_at jl 1 rfl) ?_
                  obtain rfl := Option.some.inj hz51
                  exact hRet _ _ _ _ jP jD jS dX5_read_166
                have hL51 : ∀ (n : Nat) (v51 : (Int32 × (Nat → Int32) × (Nat → Int32) × (Nat → Int32) × (Nat → Int32) × (Nat → Int32) × Int32)), loopF (fX5_read_b130 a3 e41.1 e41.2 H2_r0) n v51 = some T51 → ∀ (H : Heap) (locs : List Loc) (ls : Array Slot), va_P D vwCl (lW uL uE uD uT uV uS uP L_x6 L_x7 ++ (vW cS uV (q4 uH0 uH1 uH2 uH3) ++ (hW cI uH0 aH0 H0_x1 H0_x2 H0_r0 ++ (hW cI uH1 aH1 H1_x1 H1_x2 H1_r0 ++ (hW cI uH2 aH2 H2_x1 H2_x2 H2_r0 ++ (hW cI uH3 aH3 H3_x1 H3_x2 H3_r0 ++ (sW cI uS aS v51.2.2.2.2.2.2 S_x6 S_x7 S_x8 S_x9 v51.2.1 v51.2.2.1 v51.2.2.2.1 v51.2.2.2.2.1 v51.2.2.2.2.2.1))))))) H → va_D A (lW uL uE uD uT uV uS uP L_x6 L_x7 ++ (vW cS uV (q4 uH0 uH1 uH2 uH3) ++ (hW cI uH0 aH0 H0_x1 H0_x2 H0_r0 ++ (hW cI uH1 aH1 H1_x1 H1_x2 H1_r0 ++ (hW cI uH2 aH2 H2_x1 H2_x2 H2_r0 ++ (hW cI uH3 aH3 H3_x1 H3_x2 H3_r0 ++ (sW cI uS aS v51.2.2.2.2.2.2 S_x6 S_x7 S_x8 S_x9 v51.2.1 v51.2.2.1 v51.2.2.2.1 v51.2.2.2.2.1 v51.2.2.2.2.2.1))))))) → va_S A s.heap H locs → lv_has ls 10 [(0, .ref uL), (3, .int a3), (5, .ref uH2), (6, .int e41.1), (7, .int e41.2), (8, .int v51.1)] → W p l e R s m ar below meth c H locs 0 0 QQ (F0 m 130 ls []) := by
                  clear jP jD jS jl hT51
                  intro n
                  induction n with
                  | zero => intro v51 hq; exact (loop_none hq).elim
                  | succ n ih =>
                    intro v51 hq H locs ls jP jD jS jl
                    obtain ⟨o51, hv51, hq51⟩ := loop_some hq
                    clear hq
                    unfold fX5_read_b130 at hv51
                    refine lv_iload hx hb dX5_read_130 (lv_at jl 5 rfl) ?_
                    refine lv_iload hx hb dX5_read_132 (lv_at jl 3 rfl) ?_
                    refine lv_icmp_ge (tgt := 158) hx hb dX5_read_134 (by decide) (fun c52 => ?_) (fun c52 => ?_)
                    · have hv51 := itp c52 hv51
                      obtain rfl := Option.some.inj hv51
                      obtain rfl := nxt_r hq51
                      exact hE51 _ _ _ jP jD jS (lv_sub jl [0, 3, 4] rfl)
                    · have hv51 := itn c52 hv51
                      refine lv_aload hx hb dX5_read_137 (lv_at jl 2 rfl) ?_
                      refine lv_iload_n hx hb dX5_read_139 rfl (lv_at jl 1 rfl) ?_
                      refine lv_iconst (v := (4 : Int32)) hx hb dX5_read_140 (by decide) ?_
                      refine lv_iload hx hb dX5_read_141 (lv_at jl 5 rfl) ?_
                      refine lv_imul hx hb dX5_read_143 ?_
                      refine lv_iadd hx hb dX5_read_144 ?_
                      refine lv_aload_n hx hb dX5_read_145 rfl (lv_at jl 0 rfl) ?_
                      refine va_get (D := D) (ci := 5) (v := .ref uS) (C := RX5) (T := TX5) (N := 8) hx hb hts in5 hown jK.1 jP 0 rfl rfl 4 (by decide) (hts _ w_32) (fun _ h9 => h9) rfl dX5_read_146 ?_
                      obtain ⟨t53, hc54, hv51⟩ := bd_some hv51
                      refine callP (wc := (hW cI uH2 aH2 H2_x1 H2_x2 H2_r0 ++ (sW cI uS aS v51.2.2.2.2.2.2 S_x6 S_x7 S_x8 S_x9 v51.2.1 v51.2.2.1 v51.2.2.2.1 v51.2.2.2.2.1 v51.2.2.2.2.2.1))) (wr := (lW uL uE uD uT uV uS uP L_x6 L_x7 ++ (vW cS uV (q4 uH0 uH1 uH2 uH3) ++ (hW cI uH0 aH0 H0_x1 H0_x2 H0_r0 ++ (hW cI uH1 aH1 H1_x1 H1_x2 H1_r0 ++ (hW cI uH3 aH3 H3_x1 H3_x2 H3_r0)))))) (w1 := (hW cI uH2 aH2 H2_x1 H2_x2 H2_r0 ++ (sW cI uS aS t53.2.2.2.2.2 S_x6 S_x7 S_x8 S_x9 t53.1 t53.2.1 t53.2.2.1 t53.2.2.2.1 t53.2.2.2.2.1))) (ws1 := (lW uL uE uD uT uV uS uP L_x6 L_x7 ++ (vW cS uV (q4 uH0 uH1 uH2 uH3) ++ (hW cI uH0 aH0 H0_x1 H0_x2 H0_r0 ++ (hW cI uH1 aH1 H1_x1 H1_x2 H1_r0 ++ (hW cI uH2 aH2 H2_x1 H2_x2 H2_r0 ++ (hW cI uH3 aH3 H3_x1 H3_x2 H3_r0 ++ (sW cI uS aS t53.2.2.2.2.2 S_x6 S_x7 S_x8 S_x9 t53.1 t53.2.1 t53.2.2.1 t53.2.2.2.1 t53.2.2.2.2.1)))))))) (As := [.int (a3 + ((4 : Int32) * v51.1)), .ref uS]) (rest := []) (st1 := []) 0 [6, 7, 10, 11, 12, 13, 14, 15] [0, 1, 2, 3, 4, 5, 8, 9] [0, 1, 2, 3, 4, 5, 8, 9, 6, 7, 10, 11, 12, 13, 14, 15] F (kX1_addSortAt l D cI cB cS uH2 aH2 H2_x1 H2_x2 H2_r0 uS aS v51.2.2.2.2.2.2 S_x6 S_x7 S_x8 S_x9 v51.2.1 v51.2.2.1 v51.2.2.2.1 v51.2.2.2.2.1 v51.2.2.2.2.2.1 (a3 + ((4 : Int32) * v51.1)) _ hc54 ) okX1_addSortAt w_785 (by decide) (by decide) ⟨Nat.zero_le _, Nat.zero_le _⟩ rfl rfl rfl jP jD jS rfl jl.1 rfl rfl (Nat.le_of_ble_eq_true rfl) dX5_read_149 rfl rfl (by decide) (by decide) (by decide) rfl (by decide) (fun H locs jP jD jS => ?_)
                      refine lv_iinc (v := (v51.1 + (1 : Int32))) (lv' := [(8, .int (v51.1 + (1 : Int32))), (0, .ref uL), (3, .int a3), (5, .ref uH2), (6, .int e41.1), (7, .int e41.2)]) hx hb dX5_read_152 jl (k := 5) rfl rfl (by decide) rfl (fun ls jl => ?_)
                      refine lv_goto (tgt := 130) hx hb dX5_read_155 (by decide) ?_
                      obtain rfl := Option.some.inj hv51
                      exact ih _ (nxt_l hq51) _ _ _ jP jD jS (lv_sub jl [1, 2, 3, 4, 5, 0] rfl)
                exact hL51 1000 _ hT51 _ _ _ jP jD jS (lv_sub jl [1, 2, 3, 4, 5, 0] rfl)
              have hL41 : ∀ (n : Nat) (v41 : (Int32 × Int32 × Int32)), loopF (fX5_read_b48 a2 a3 a4 H2_x1 H2_x2 H2_r0 S_x5 L_x7 S_r0 S_r1 S_r2 S_r3 S_r4) n v41 = some T41 → ∀ (H : Heap) (locs : List Loc) (ls : Array Slot), va_P D vwCl (lW uL uE uD uT uV uS uP L_x6 L_x7 ++ (vW cS uV (q4 uH0 uH1 uH2 uH3) ++ (hW cI uH0 aH0 H0_x1 H0_x2 H0_r0 ++ (hW cI uH1 aH1 H1_x1 H1_x2 H1_r0 ++ (hW cI uH2 aH2 H2_x1 H2_x2 H2_r0 ++ (hW cI uH3 aH3 H3_x1 H3_x2 H3_r0 ++ (sW cI uS aS S_x5 S_x6 S_x7 S_x8 S_x9 S_r0 S_r1 S_r2 S_r3 S_r4))))))) H → va_D A (lW uL uE uD uT uV uS uP L_x6 L_x7 ++ (vW cS uV (q4 uH0 uH1 uH2 uH3) ++ (hW cI uH0 aH0 H0_x1 H0_x2 H0_r0 ++ (hW cI uH1 aH1 H1_x1 H1_x2 H1_r0 ++ (hW cI uH2 aH2 H2_x1 H2_x2 H2_r0 ++ (hW cI uH3 aH3 H3_x1 H3_x2 H3_r0 ++ (sW cI uS aS S_x5 S_x6 S_x7 S_x8 S_x9 S_r0 S_r1 S_r2 S_r3 S_r4))))))) → va_S A s.heap H locs → lv_has ls 10 [(0, .ref uL), (2, .int a2), (3, .int a3), (4, .int a4), (5, .ref uH2), (6, .int v41.1), (7, .int v41.2.1), (8, .int v41.2.2)] → W p l e R s m ar below meth c H locs 0 0 QQ (F0 m 48 ls []) := by
                clear jP jD jS jl hT41
                intro n
                induction n with
                | zero => intro v41 hq; exact (loop_none hq).elim
                | succ n ih =>
                  intro v41 hq H locs ls jP jD jS jl
                  obtain ⟨o41, hv41, hq41⟩ := loop_some hq
                  clear hq
                  unfold fX5_read_b48 at hv41
                  refine lv_iload hx hb dX5_read_48 (lv_at jl 7 rfl) ?_
                  refine lv_iload hx hb dX5_read_50 (lv_at jl 3 rfl) ?_
                  refine lv_icmp_ge (tgt := 127) hx hb dX5_read_52 (by decide) (fun c42 => ?_) (fun c42 => ?_)
                  · have hv41 := itp c42 hv41
                    obtain rfl := Option.some.inj hv41
                    obtain rfl := nxt_r hq41
                    exact hE41 _ rfl _ _ _ jP jD jS (lv_sub jl [0, 2, 4, 5, 6] rfl)
                  · have hv41 := itn c42 hv41
                    refine lv_iload hx hb dX5_read_55 (lv_at jl 6 rfl) ?_
                    refine lv_if_ne (tgt := 127) hx hb dX5_read_57 (by decide) (fun c43 => ?_) (fun c43 => ?_)
                    · have hv41 := itn c43 hv41
                      obtain rfl := Option.some.inj hv41
                      obtain rfl := nxt_r hq41
                      exact hE41 _ rfl _ _ _ jP jD jS (lv_sub jl [0, 2, 4, 5, 6] rfl)
                    · have hv41 := itp c43 hv41
                      refine lv_iload_n hx hb dX5_read_60 rfl (lv_at jl 2 rfl) ?_
                      refine lv_iconst (v := (4 : Int32)) hx hb dX5_read_61 (by decide) ?_
                      refine lv_iload hx hb dX5_read_62 (lv_at jl 7 rfl) ?_
                      refine lv_imul hx hb dX5_read_64 ?_
                      refine lv_iadd hx hb dX5_read_65 ?_
                      refine lv_istore (lv' := [(9, .int (a3 + ((4 : Int32) * v41.2.2))), (0, .ref uL), (2, .int a2), (3, .int a3), (4, .int a4), (5, .ref uH2), (6, .int v41.1), (7, .int v41.2.1), (8, .int v41.2.2)]) hx hb dX5_read_66 jl (by decide) rfl (fun ls jl => ?_)
                      refine lv_aload hx hb dX5_read_68 (lv_at jl 5 rfl) ?_
                      refine lv_iload_n hx hb dX5_read_70 rfl (lv_at jl 2 rfl) ?_
                      refine lv_iload hx hb dX5_read_71 (lv_at jl 0 rfl) ?_
                      refine lv_iconst (v := (4 : Int32)) hx hb dX5_read_73 (by decide) ?_
                      obtain ⟨t44, hc45, hv41⟩ := bd_some hv41
                      refine callP (wc := (hW cI uH2 aH2 H2_x1 H2_x2 H2_r0)) (wr := (lW uL uE uD uT uV uS uP L_x6 L_x7 ++ (vW cS uV (q4 uH0 uH1 uH2 uH3) ++ (hW cI uH0 aH0 H0_x1 H0_x2 H0_r0 ++ (hW cI uH1 aH1 H1_x1 H1_x2 H1_r0 ++ (hW cI uH3 aH3 H3_x1 H3_x2 H3_r0 ++ (sW cI uS aS S_x5 S_x6 S_x7 S_x8 S_x9 S_r0 S_r1 S_r2 S_r3 S_r4))))))) (w1 := (hW cI uH2 aH2 H2_x1 H2_x2 H2_r0)) (ws1 := (lW uL uE uD uT uV uS uP L_x6 L_x7 ++ (vW cS uV (q4 uH0 uH1 uH2 uH3) ++ (hW cI uH0 aH0 H0_x1 H0_x2 H0_r0 ++ (hW cI uH1 aH1 H1_x1 H1_x2 H1_r0 ++ (hW cI uH2 aH2 H2_x1 H2_x2 H2_r0 ++ (hW cI uH3 aH3 H3_x1 H3_x2 H3_r0 ++ (sW cI uS aS S_x5 S_x6 S_x7 S_x8 S_x9 S_r0 S_r1 S_r2 S_r3 S_r4)))))))) (As := [.int a2, .int (a3 + ((4 : Int32) * v41.2.2)), .int (4 : Int32)]) (rest := []) (st1 := [.int t44]) 0 [6, 7] [0, 1, 2, 3, 4, 5, 8, 9, 10, 11, 12, 13, 14, 15] [0, 1, 2, 3, 4, 5, 14, 15, 6, 7, 8, 9, 10, 11, 12, 13] F (kX1_faultAt l D cI cB cS uH2 aH2 H2_x1 H2_x2 H2_r0 a2 (a3 + ((4 : Int32) * v41.2.2)) (4 : Int32) _ hc45 ) okX1_faultAt w_765 (by decide) (by decide) ⟨Nat.zero_le _, Nat.zero_le _⟩ rfl rfl rfl jP jD jS rfl jl.1 rfl rfl (Nat.le_of_ble_eq_true rfl) dX5_read_74 rfl rfl (by decide) (by decide) (by decide) rfl (by decide) (fun H locs jP jD jS => ?_)
                      refine lv_istore (lv' := [(7, .int t44), (9, .int (a3 + ((4 : Int32) * v41.2.2))), (0, .ref uL), (2, .int a2), (3, .int a3), (4, .int a4), (5, .ref uH2), (6, .int v41.1), (8, .int v41.2.2)]) hx hb dX5_read_77 jl (by decide) rfl (fun ls jl => ?_)
                      refine lv_iload hx hb dX5_read_79 (lv_at jl 0 rfl) ?_
                      refine lv_if_ne (tgt := 121) hx hb dX5_read_81 (by decide) (fun c46 => ?_) (fun c46 => ?_)
                      · have hv41 := itn c46 hv41
                        refine lv_iinc (v := (v41.2.2 + (1 : Int32))) (lv' := [(8, .int (v41.2.2 + (1 : Int32))), (7, .int t44), (9, .int (a3 + ((4 : Int32) * v41.2.2))), (0, .ref uL), (2, .int a2), (3, .int a3), (4, .int a4), (5, .ref uH2), (6, .int v41.1)]) hx hb dX5_read_121 jl (k := 8) rfl rfl (by decide) rfl (fun ls jl => ?_)
                        refine lv_goto (tgt := 48) hx hb dX5_read_124 (by decide) ?_
                        obtain rfl := Option.some.inj hv41
                        exact ih _ (nxt_l hq41) _ _ _ jP jD jS (lv_sub jl [3, 4, 5, 6, 7, 8, 1, 0] rfl)
                      · have hv41 := itp c46 hv41
                        refine lv_aload hx hb dX5_read_84 (lv_at jl 6 rfl) ?_
                        refine lv_iload hx hb dX5_read_86 (lv_at jl 1 rfl) ?_
                        obtain ⟨t47, hc48, hv41⟩ := bd_some hv41
                        refine callP (wc := (hW cI uH2 aH2 H2_x1 H2_x2 H2_r0)) (wr := (lW uL uE uD uT uV uS uP L_x6 L_x7 ++ (vW cS uV (q4 uH0 uH1 uH2 uH3) ++ (hW cI uH0 aH0 H0_x1 H0_x2 H0_r0 ++ (hW cI uH1 aH1 H1_x1 H1_x2 H1_r0 ++ (hW cI uH3 aH3 H3_x1 H3_x2 H3_r0 ++ (sW cI uS aS S_x5 S_x6 S_x7 S_x8 S_x9 S_r0 S_r1 S_r2 S_r3 S_r4))))))) (w1 := (hW cI uH2 aH2 H2_x1 H2_x2 H2_r0)) (ws1 := (lW uL uE uD uT uV uS uP L_x6 L_x7 ++ (vW cS uV (q4 uH0 uH1 uH2 uH3) ++ (hW cI uH0 aH0 H0_x1 H0_x2 H0_r0 ++ (hW cI uH1 aH1 H1_x1 H1_x2 H1_r0 ++ (hW cI uH2 aH2 H2_x1 H2_x2 H2_r0 ++ (hW cI uH3 aH3 H3_x1 H3_x2 H3_r0 ++ (sW cI uS aS S_x5 S_x6 S_x7 S_x8 S_x9 S_r0 S_r1 S_r2 S_r3 S_r4)))))))) (As := [.int (a3 + ((4 : Int32) * v41.2.2))]) (rest := []) (st1 := [.int t47]) 0 [6, 7] [0, 1, 2, 3, 4, 5, 8, 9, 10, 11, 12, 13, 14, 15] [0, 1, 2, 3, 4, 5, 14, 15, 6, 7, 8, 9, 10, 11, 12, 13] F (kX1_tellsSortAt l D cI cB cS uH2 aH2 H2_x1 H2_x2 H2_r0 (a3 + ((4 : Int32) * v41.2.2)) _ hc48 ) okX1_tellsSortAt w_781 (by decide) (by decide) ⟨Nat.zero_le _, Nat.zero_le _⟩ rfl rfl rfl jP jD jS rfl jl.1 rfl rfl (Nat.le_of_ble_eq_true rfl) dX5_read_88 rfl rfl (by decide) (by decide) (by decide) rfl (by decide) (fun H locs jP jD jS => ?_)
                        refine lv_if_ne (tgt := 100) hx hb dX5_read_91 (by decide) (fun c49 => ?_) (fun c49 => ?_)
                        · have hv41 := itn c49 hv41
                          refine lv_aload_n hx hb dX5_read_100 rfl (lv_at jl 2 rfl) ?_
                          refine va_get (D := D) (ci := 5) (v := .ref uS) (C := RX5) (T := TX5) (N := 8) hx hb hts in5 hown jK.1 jP 0 rfl rfl 4 (by decide) (hts _ w_32) (fun _ h9 => h9) rfl dX5_read_101 ?_
                          refine va_get (D := D) (ci := 2) (v := .int S_x5) (C := RX2) (T := TX2) (N := 10) hx hb hts in2 hown jK.1 jP 10 rfl rfl 5 (by decide) (hts _ w_276) (fun _ h9 => h9) rfl dX5_read_104 ?_
                          refine lv_iload hx hb dX5_read_107 (lv_at jl 8 rfl) ?_
                          refine lv_iadd hx hb dX5_read_109 ?_
                          refine lv_bipush (v := (8 : Int32)) hx hb dX5_read_110 (by decide) ?_
                          refine lv_icmp_lt (tgt := 118) hx hb dX5_read_112 (by decide) (fun c50 => ?_) (fun c50 => ?_)
                          · have hv41 := itp c50 hv41
                            refine lv_iinc (v := (v41.1 + (1 : Int32))) (lv' := [(6, .int (v41.1 + (1 : Int32))), (7, .int t44), (9, .int (a3 + ((4 : Int32) * v41.2.2))), (0, .ref uL), (2, .int a2), (3, .int a3), (4, .int a4), (5, .ref uH2), (8, .int v41.2.2)]) hx hb dX5_read_118 jl (k := 7) rfl rfl (by decide) rfl (fun ls jl => ?_)
                            refine lv_iinc (v := (v41.2.2 + (1 : Int32))) (lv' := [(8, .int (v41.2.2 + (1 : Int32))), (6, .int (v41.1 + (1 : Int32))), (7, .int t44), (9, .int (a3 + ((4 : Int32) * v41.2.2))), (0, .ref uL), (2, .int a2), (3, .int a3), (4, .int a4), (5, .ref uH2)]) hx hb dX5_read_121 jl (k := 8) rfl rfl (by decide) rfl (fun ls jl => ?_)
                            refine lv_goto (tgt := 48) hx hb dX5_read_124 (by decide) ?_
                            obtain rfl := Option.some.inj hv41
                            exact ih _ (nxt_l hq41) _ _ _ jP jD jS (lv_sub jl [4, 5, 6, 7, 8, 1, 2, 0] rfl)
                          · have hv41 := itn c50 hv41
                            refine lv_bipush (v := (-3 : Int32)) hx hb dX5_read_115 (by decide) ?_
                            obtain rfl := Option.some.inj hv41
                            obtain rfl := nxt_r hq41
                            have hz41 := sm_l hz41
                            obtain rfl := Option.some.inj hz41
                            exact hRet _ _ _ _ jP jD jS dX5_read_117
                        · have hv41 := itp c49 hv41
                          refine lv_bipush (v := (-20 : Int32)) hx hb dX5_read_94 (by decide) ?_
                          refine lv_iload hx hb dX5_read_96 (lv_at jl 8 rfl) ?_
                          refine lv_isub hx hb dX5_read_98 ?_
                          obtain rfl := Option.some.inj hv41
                          obtain rfl := nxt_r hq41
                          have hz41 := sm_l hz41
                          obtain rfl := Option.some.inj hz41
                          exact hRet _ _ _ _ jP jD jS dX5_read_99
              exact hL41 1000 _ hT41 _ _ _ jP jD jS (lv_sub jl [4, 6, 7, 8, 3, 2, 1, 0] rfl)
            · have h := itn hk40 h
              by_cases hk55 : a1 = (3 : Int32)
              · have h := itp hk55 h
                refine va_aldq (C := RX1) hx hb jK.1 jP 1 2 rfl rfl (by rw [hk55]; unfold vp_in; decide) dX5_read_36 ?_
                refine W.eq (g2 := F0 m 37 ls (.ref uH3 :: [])) (by rw [hk55]; rfl) ?_
                refine lv_astore (lv' := [(5, .ref uH3), (0, .ref uL), (1, .int a1), (2, .int a2), (3, .int a3), (4, .int a4)]) hx hb dX5_read_37 jl (by decide) rfl (fun ls jl => ?_)
                refine lv_iconst (v := (0 : Int32)) hx hb dX5_read_39 (by decide) ?_
                refine lv_istore (lv' := [(6, .int (0 : Int32)), (5, .ref uH3), (0, .ref uL), (1, .int a1), (2, .int a2), (3, .int a3), (4, .int a4)]) hx hb dX5_read_40 jl (by decide) rfl (fun ls jl => ?_)
                refine lv_iconst (v := (0 : Int32)) hx hb dX5_read_42 (by decide) ?_
                refine lv_istore (lv' := [(7, .int (0 : Int32)), (6, .int (0 : Int32)), (5, .ref uH3), (0, .ref uL), (1, .int a1), (2, .int a2), (3, .int a3), (4, .int a4)]) hx hb dX5_read_43 jl (by decide) rfl (fun ls jl => ?_)
                refine lv_iconst (v := (0 : Int32)) hx hb dX5_read_45 (by decide) ?_
                refine lv_istore (lv' := [(8, .int (0 : Int32)), (7, .int (0 : Int32)), (6, .int (0 : Int32)), (5, .ref uH3), (0, .ref uL), (1, .int a1), (2, .int a2), (3, .int a3), (4, .int a4)]) hx hb dX5_read_46 jl (by decide) rfl (fun ls jl => ?_)
                obtain ⟨T56, hT56, hz56⟩ := bd_some h
                clear h
                have hE56 : ∀ (e56 : (Int32 × Int32)), T56 = .inr e56 → ∀ (H : Heap) (locs : List Loc) (ls : Array Slot), va_P D vwCl (lW uL uE uD uT uV uS uP L_x6 L_x7 ++ (vW cS uV (q4 uH0 uH1 uH2 uH3) ++ (hW cI uH0 aH0 H0_x1 H0_x2 H0_r0 ++ (hW cI uH1 aH1 H1_x1 H1_x2 H1_r0 ++ (hW cI uH2 aH2 H2_x1 H2_x2 H2_r0 ++ (hW cI uH3 aH3 H3_x1 H3_x2 H3_r0 ++ (sW cI uS aS S_x5 S_x6 S_x7 S_x8 S_x9 S_r0 S_r1 S_r2 S_r3 S_r4))))))) H → va_D A (lW uL uE uD uT uV uS uP L_x6 L_x7 ++ (vW cS uV (q4 uH0 uH1 uH2 uH3) ++ (hW cI uH0 aH0 H0_x1 H0_x2 H0_r0 ++ (hW cI uH1 aH1 H1_x1 H1_x2 H1_r0 ++ (hW cI uH2 aH2 H2_x1 H2_x2 H2_r0 ++ (hW cI uH3 aH3 H3_x1 H3_x2 H3_r0 ++ (sW cI uS aS S_x5 S_x6 S_x7 S_x8 S_x9 S_r0 S_r1 S_r2 S_r3 S_r4))))))) → va_S A s.heap H locs → lv_has ls 10 [(0, .ref uL), (3, .int a3), (5, .ref uH3), (6, .int e56.1), (7, .int e56.2)] → W p l e R s m ar below meth c H locs 0 0 QQ (F0 m 127 ls []) := by
                  intro e56 ho
                  subst ho
                  have hz56 := sm_r hz56
                  clear jP jD jS jl
                  intro H locs ls jP jD jS jl
                  refine lv_iconst (v := (0 : Int32)) hx hb dX5_read_127 (by decide) ?_
                  refine lv_istore (lv' := [(8, .int (0 : Int32)), (0, .ref uL), (3, .int a3), (5, .ref uH3), (6, .int e56.1), (7, .int e56.2)]) hx hb dX5_read_128 jl (by decide) rfl (fun ls jl => ?_)
                  obtain ⟨T66, hT66, hz66⟩ := bd_some hz56
                  clear hz56
                  have hE66 : ∀ (H : Heap) (locs : List Loc) (ls : Array Slot), va_P D vwCl (lW uL uE uD uT uV uS uP L_x6 L_x7 ++ (vW cS uV (q4 uH0 uH1 uH2 uH3) ++ (hW cI uH0 aH0 H0_x1 H0_x2 H0_r0 ++ (hW cI uH1 aH1 H1_x1 H1_x2 H1_r0 ++ (hW cI uH2 aH2 H2_x1 H2_x2 H2_r0 ++ (hW cI uH3 aH3 H3_x1 H3_x2 H3_r0 ++ (sW cI uS aS T66.2.2.2.2.2 S_x6 S_x7 S_x8 S_x9 T66.1 T66.2.1 T66.2.2.1 T66.2.2.2.1 T66.2.2.2.2.1))))))) H → va_D A (lW uL uE uD uT uV uS uP L_x6 L_x7 ++ (vW cS uV (q4 uH0 uH1 uH2 uH3) ++ (hW cI uH0 aH0 H0_x1 H0_x2 H0_r0 ++ (hW cI uH1 aH1 H1_x1 H1_x2 H1_r0 ++ (hW cI uH2 aH2 H2_x1 H2_x2 H2_r0 ++ (hW cI uH3 aH3 H3_x1 H3_x2 H3_r0 ++ (sW cI uS aS T66.2.2.2.2.2 S_x6 S_x7 S_x8 S_x9 T66.1 T66.2.1 T66.2.2.1 T66.2.2.2.1 T66.2.2.2.2.1))))))) → va_S A s.heap H locs → lv_has ls 10 [(0, .ref uL), (6, .int e56.1), (7, .int e56.2)] → W p l e R s m ar below meth c H locs 0 0 QQ (F0 m 158 ls []) := by
                    clear jP jD jS jl
                    intro H locs ls jP jD jS jl
                    refine lv_aload_n hx hb dX5_read_158 rfl (lv_at jl 0 rfl) ?_
                    refine lv_iload hx hb dX5_read_159 (lv_at jl 2 rfl) ?_
                    refine va_put (D := D) (ci := 5) (v := .int e56.2) (ty := .int) (C := RX5) (T := TX5) (N := 8) hx hb hts in5 tyX5 tyX5_ok nmX5 hown jK.1 jP jD jS 0 rfl rfl 7 (by decide) (hts _ w_35) (fun _ h9 => h9) rfl (by decide +kernel) rfl rfl (Nat.le_of_ble_eq_true rfl) dX5_read_161 (fun H locs jP jD jS => ?_)
                    have jP : va_P D vwCl (lW uL uE uD uT uV uS uP L_x6 e56.2 ++ (vW cS uV (q4 uH0 uH1 uH2 uH3) ++ (hW cI uH0 aH0 H0_x1 H0_x2 H0_r0 ++ (hW cI uH1 aH1 H1_x1 H1_x2 H1_r0 ++ (hW cI uH2 aH2 H2_x1 H2_x2 H2_r0 ++ (hW cI uH3 aH3 H3_x1 H3_x2 H3_r0 ++ (sW cI uS aS T66.2.2.2.2.2 S_x6 S_x7 S_x8 S_x9 T66.1 T66.2.1 T66.2.2.1 T66.2.2.2.1 T66.2.2.2.2.1))))))) H := jP
                    have jD : va_D A (lW uL uE uD uT uV uS uP L_x6 e56.2 ++ (vW cS uV (q4 uH0 uH1 uH2 uH3) ++ (hW cI uH0 aH0 H0_x1 H0_x2 H0_r0 ++ (hW cI uH1 aH1 H1_x1 H1_x2 H1_r0 ++ (hW cI uH2 aH2 H2_x1 H2_x2 H2_r0 ++ (hW cI uH3 aH3 H3_x1 H3_x2 H3_r0 ++ (sW cI uS aS T66.2.2.2.2.2 S_x6 S_x7 S_x8 S_x9 T66.1 T66.2.1 T66.2.2.1 T66.2.2.2.1 T66.2.2.2.2.1))))))) := jD
                    refine lv_iload hx hb dX5_read_164 (lv_at jl 1 rfl) ?_
                    obtain rfl := Option.some.inj hz66
                    exact hRet _ _ _ _ jP jD jS dX5_read_166
                  have hL66 : ∀ (n : Nat) (v66 : (Int32 × (Nat → Int32) × (Nat → Int32) × (Nat → Int32) × (Nat → Int32) × (Nat → Int32) × Int32)), loopF (fX5_read_b130 a3 e56.1 e56.2 H3_r0) n v66 = some T66 → ∀ (H : Heap) (locs : List Loc) (ls : Array Slot), va_P D vwCl (lW uL uE uD uT uV uS uP L_x6 L_x7 ++ (vW cS uV (q4 uH0 uH1 uH2 uH3) ++ (hW cI uH0 aH0 H0_x1 H0_x2 H0_r0 ++ (hW cI uH1 aH1 H1_x1 H1_x2 H1_r0 ++ (hW cI uH2 aH2 H2_x1 H2_x2 H2_r0 ++ (hW cI uH3 aH3 H3_x1 H3_x2 H3_r0 ++ (sW cI uS aS v66.2.2.2.2.2.2 S_x6 S_x7 S_x8 S_x9 v66.2.1 v66.2.2.1 v66.2.2.2.1 v66.2.2.2.2.1 v66.2.2.2.2.2.1))))))) H → va_D A (lW uL uE uD uT uV uS uP L_x6 L_x7 ++ (vW cS uV (q4 uH0 uH1 uH2 uH3) ++ (hW cI uH0 aH0 H0_x1 H0_x2 H0_r0 ++ (hW cI uH1 aH1 H1_x1 H1_x2 H1_r0 ++ (hW cI uH2 aH2 H2_x1 H2_x2 H2_r0 ++ (hW cI uH3 aH3 H3_x1 H3_x2 H3_r0 ++ (sW cI uS aS v66.2.2.2.2.2.2 S_x6 S_x7 S_x8 S_x9 v66.2.1 v66.2.2.1 v66.2.2.2.1 v66.2.2.2.2.1 v66.2.2.2.2.2.1))))))) → va_S A s.heap H locs → lv_has ls 10 [(0, .ref uL), (3, .int a3), (5, .ref uH3), (6, .int e56.1), (7, .int e56.2), (8, .int v66.1)] → W p l e R s m ar below meth c H locs 0 0 QQ (F0 m 130 ls []) := by
                    clear jP jD jS jl hT66
                    intro n
                    induction n with
                    | zero => intro v66 hq; exact (loop_none hq).elim
                    | succ n ih =>
                      intro v66 hq H locs ls jP jD jS jl
                      obtain ⟨o66, hv66, hq66⟩ := loop_some hq
                      clear hq
                      unfold fX5_read_b130 at hv66
                      refine lv_iload hx hb dX5_read_130 (lv_at jl 5 rfl) ?_
                      refine lv_iload hx hb dX5_read_132 (lv_at jl 3 rfl) ?_
                      refine lv_icmp_ge (tgt := 158) hx hb dX5_read_134 (by decide) (fun c67 => ?_) (fun c67 => ?_)
                      · have hv66 := itp c67 hv66
                        obtain rfl := Option.some.inj hv66
                        obtain rfl := nxt_r hq66
                        exact hE66 _ _ _ jP jD jS (lv_sub jl [0, 3, 4] rfl)
                      · have hv66 := itn c67 hv66
                        refine lv_aload hx hb dX5_read_137 (lv_at jl 2 rfl) ?_
                        refine lv_iload_n hx hb dX5_read_139 rfl (lv_at jl 1 rfl) ?_
                        refine lv_iconst (v := (4 : Int32)) hx hb dX5_read_140 (by decide) ?_
                        refine lv_iload hx hb dX5_read_141 (lv_at jl 5 rfl) ?_
                        refine lv_imul hx hb dX5_read_143 ?_
                        refine lv_iadd hx hb dX5_read_144 ?_
                        refine lv_aload_n hx hb dX5_read_145 rfl (lv_at jl 0 rfl) ?_
                        refine va_get (D := D) (ci := 5) (v := .ref uS) (C := RX5) (T := TX5) (N := 8) hx hb hts in5 hown jK.1 jP 0 rfl rfl 4 (by decide) (hts _ w_32) (fun _ h9 => h9) rfl dX5_read_146 ?_
                        obtain ⟨t68, hc69, hv66⟩ := bd_some hv66
                        refine callP (wc := (hW cI uH3 aH3 H3_x1 H3_x2 H3_r0 ++ (sW cI uS aS v66.2.2.2.2.2.2 S_x6 S_x7 S_x8 S_x9 v66.2.1 v66.2.2.1 v66.2.2.2.1 v66.2.2.2.2.1 v66.2.2.2.2.2.1))) (wr := (lW uL uE uD uT uV uS uP L_x6 L_x7 ++ (vW cS uV (q4 uH0 uH1 uH2 uH3) ++ (hW cI uH0 aH0 H0_x1 H0_x2 H0_r0 ++ (hW cI uH1 aH1 H1_x1 H1_x2 H1_r0 ++ (hW cI uH2 aH2 H2_x1 H2_x2 H2_r0)))))) (w1 := (hW cI uH3 aH3 H3_x1 H3_x2 H3_r0 ++ (sW cI uS aS t68.2.2.2.2.2 S_x6 S_x7 S_x8 S_x9 t68.1 t68.2.1 t68.2.2.1 t68.2.2.2.1 t68.2.2.2.2.1))) (ws1 := (lW uL uE uD uT uV uS uP L_x6 L_x7 ++ (vW cS uV (q4 uH0 uH1 uH2 uH3) ++ (hW cI uH0 aH0 H0_x1 H0_x2 H0_r0 ++ (hW cI uH1 aH1 H1_x1 H1_x2 H1_r0 ++ (hW cI uH2 aH2 H2_x1 H2_x2 H2_r0 ++ (hW cI uH3 aH3 H3_x1 H3_x2 H3_r0 ++ (sW cI uS aS t68.2.2.2.2.2 S_x6 S_x7 S_x8 S_x9 t68.1 t68.2.1 t68.2.2.1 t68.2.2.2.1 t68.2.2.2.2.1)))))))) (As := [.int (a3 + ((4 : Int32) * v66.1)), .ref uS]) (rest := []) (st1 := []) 0 [8, 9, 10, 11, 12, 13, 14, 15] [0, 1, 2, 3, 4, 5, 6, 7] [0, 1, 2, 3, 4, 5, 6, 7, 8, 9, 10, 11, 12, 13, 14, 15] F (kX1_addSortAt l D cI cB cS uH3 aH3 H3_x1 H3_x2 H3_r0 uS aS v66.2.2.2.2.2.2 S_x6 S_x7 S_x8 S_x9 v66.2.1 v66.2.2.1 v66.2.2.2.1 v66.2.2.2.2.1 v66.2.2.2.2.2.1 (a3 + ((4 : Int32) * v66.1)) _ hc69 ) okX1_addSortAt w_785 (by decide) (by decide) ⟨Nat.zero_le _, Nat.zero_le _⟩ rfl rfl rfl jP jD jS rfl jl.1 rfl rfl (Nat.le_of_ble_eq_true rfl) dX5_read_149 rfl rfl (by decide) (by decide) (by decide) rfl (by decide) (fun H locs jP jD jS => ?_)
                        refine lv_iinc (v := (v66.1 + (1 : Int32))) (lv' := [(8, .int (v66.1 + (1 : Int32))), (0, .ref uL), (3, .int a3), (5, .ref uH3), (6, .int e56.1), (7, .int e56.2)]) hx hb dX5_read_152 jl (k := 5) rfl rfl (by decide) rfl (fun ls jl => ?_)
                        refine lv_goto (tgt := 130) hx hb dX5_read_155 (by decide) ?_
                        obtain rfl := Option.some.inj hv66
                        exact ih _ (nxt_l hq66) _ _ _ jP jD jS (lv_sub jl [1, 2, 3, 4, 5, 0] rfl)
                  exact hL66 1000 _ hT66 _ _ _ jP jD jS (lv_sub jl [1, 2, 3, 4, 5, 0] rfl)
                have hL56 : ∀ (n : Nat) (v56 : (Int32 × Int32 × Int32)), loopF (fX5_read_b48 a2 a3 a4 H3_x1 H3_x2 H3_r0 S_x5 L_x7 S_r0 S_r1 S_r2 S_r3 S_r4) n v56 = some T56 → ∀ (H : Heap) (locs : List Loc) (ls : Array Slot), va_P D vwCl (lW uL uE uD uT uV uS uP L_x6 L_x7 ++ (vW cS uV (q4 uH0 uH1 uH2 uH3) ++ (hW cI uH0 aH0 H0_x1 H0_x2 H0_r0 ++ (hW cI uH1 aH1 H1_x1 H1_x2 H1_r0 ++ (hW cI uH2 aH2 H2_x1 H2_x2 H2_r0 ++ (hW cI uH3 aH3 H3_x1 H3_x2 H3_r0 ++ (sW cI uS aS S_x5 S_x6 S_x7 S_x8 S_x9 S_r0 S_r1 S_r2 S_r3 S_r4))))))) H → va_D A (lW uL uE uD uT uV uS uP L_x6 L_x7 ++ (vW cS uV (q4 uH0 uH1 uH2 uH3) ++ (hW cI uH0 aH0 H0_x1 H0_x2 H0_r0 ++ (hW cI uH1 aH1 H1_x1 H1_x2 H1_r0 ++ (hW cI uH2 aH2 H2_x1 H2_x2 H2_r0 ++ (hW cI uH3 aH3 H3_x1 H3_x2 H3_r0 ++ (sW cI uS aS S_x5 S_x6 S_x7 S_x8 S_x9 S_r0 S_r1 S_r2 S_r3 S_r4))))))) → va_S A s.heap H locs → lv_has ls 10 [(0, .ref uL), (2, .int a2), (3, .int a3), (4, .int a4), (5, .ref uH3), (6, .int v56.1), (7, .int v56.2.1), (8, .int v56.2.2)] → W p l e R s m ar below meth c H locs 0 0 QQ (F0 m 48 ls []) := by
                  clear jP jD jS jl hT56
                  intro n
                  induction n with
                  | zero => intro v56 hq; exact (loop_none hq).elim
                  | succ n ih =>
                    intro v56 hq H locs ls jP jD jS jl
                    obtain ⟨o56, hv56, hq56⟩ := loop_some hq
                    clear hq
                    unfold fX5_read_b48 at hv56
                    refine lv_iload hx hb dX5_read_48 (lv_at jl 7 rfl) ?_
                    refine lv_iload hx hb dX5_read_50 (lv_at jl 3 rfl) ?_
                    refine lv_icmp_ge (tgt := 127) hx hb dX5_read_52 (by decide) (fun c57 => ?_) (fun c57 => ?_)
                    · have hv56 := itp c57 hv56
                      obtain rfl := Option.some.inj hv56
                      obtain rfl := nxt_r hq56
                      exact hE56 _ rfl _ _ _ jP jD jS (lv_sub jl [0, 2, 4, 5, 6] rfl)
                    · have hv56 := itn c57 hv56
                      refine lv_iload hx hb dX5_read_55 (lv_at jl 6 rfl) ?_
                      refine lv_if_ne (tgt := 127) hx hb dX5_read_57 (by decide) (fun c58 => ?_) (fun c58 => ?_)
                      · have hv56 := itn c58 hv56
                        obtain rfl := Option.some.inj hv56
                        obtain rfl := nxt_r hq56
                        exact hE56 _ rfl _ _ _ jP jD jS (lv_sub jl [0, 2, 4, 5, 6] rfl)
                      · have hv56 := itp c58 hv56
                        refine lv_iload_n hx hb dX5_read_60 rfl (lv_at jl 2 rfl) ?_
                        refine lv_iconst (v := (4 : Int32)) hx hb dX5_read_61 (by decide) ?_
                        refine lv_iload hx hb dX5_read_62 (lv_at jl 7 rfl) ?_
                        refine lv_imul hx hb dX5_read_64 ?_
                        refine lv_iadd hx hb dX5_read_65 ?_
                        refine lv_istore (lv' := [(9, .int (a3 + ((4 : Int32) * v56.2.2))), (0, .ref uL), (2, .int a2), (3, .int a3), (4, .int a4), (5, .ref uH3), (6, .int v56.1), (7, .int v56.2.1), (8, .int v56.2.2)]) hx hb dX5_read_66 jl (by decide) rfl (fun ls jl => ?_)
                        refine lv_aload hx hb dX5_read_68 (lv_at jl 5 rfl) ?_
                        refine lv_iload_n hx hb dX5_read_70 rfl (lv_at jl 2 rfl) ?_
                        refine lv_iload hx hb dX5_read_71 (lv_at jl 0 rfl) ?_
                        refine lv_iconst (v := (4 : Int32)) hx hb dX5_read_73 (by decide) ?_
                        obtain ⟨t59, hc60, hv56⟩ := bd_some hv56
                        refine callP (wc := (hW cI uH3 aH3 H3_x1 H3_x2 H3_r0)) (wr := (lW uL uE uD uT uV uS uP L_x6 L_x7 ++ (vW cS uV (q4 uH0 uH1 uH2 uH3) ++ (hW cI uH0 aH0 H0_x1 H0_x2 H0_r0 ++ (hW cI uH1 aH1 H1_x1 H1_x2 H1_r0 ++ (hW cI uH2 aH2 H2_x1 H2_x2 H2_r0 ++ (sW cI uS aS S_x5 S_x6 S_x7 S_x8 S_x9 S_r0 S_r1 S_r2 S_r3 S_r4))))))) (w1 := (hW cI uH3 aH3 H3_x1 H3_x2 H3_r0)) (ws1 := (lW uL uE uD uT uV uS uP L_x6 L_x7 ++ (vW cS uV (q4 uH0 uH1 uH2 uH3) ++ (hW cI uH0 aH0 H0_x1 H0_x2 H0_r0 ++ (hW cI uH1 aH1 H1_x1 H1_x2 H1_r0 ++ (hW cI uH2 aH2 H2_x1 H2_x2 H2_r0 ++ (hW cI uH3 aH3 H3_x1 H3_x2 H3_r0 ++ (sW cI uS aS S_x5 S_x6 S_x7 S_x8 S_x9 S_r0 S_r1 S_r2 S_r3 S_r4)))))))) (As := [.int a2, .int (a3 + ((4 : Int32) * v56.2.2)), .int (4 : Int32)]) (rest := []) (st1 := [.int t59]) 0 [8, 9] [0, 1, 2, 3, 4, 5, 6, 7, 10, 11, 12, 13, 14, 15] [0, 1, 2, 3, 4, 5, 6, 7, 14, 15, 8, 9, 10, 11, 12, 13] F (kX1_faultAt l D cI cB cS uH3 aH3 H3_x1 H3_x2 H3_r0 a2 (a3 + ((4 : Int32) * v56.2.2)) (4 : Int32) _ hc60 ) okX1_faultAt w_765 (by decide) (by decide) ⟨Nat.zero_le _, Nat.zero_le _⟩ rfl rfl rfl jP jD jS rfl jl.1 rfl rfl (Nat.le_of_ble_eq_true rfl) dX5_read_74 rfl rfl (by decide) (by decide) (by decide) rfl (by decide) (fun H locs jP jD jS => ?_)
                        refine lv_istore (lv' := [(7, .int t59), (9, .int (a3 + ((4 : Int32) * v56.2.2))), (0, .ref uL), (2, .int a2), (3, .int a3), (4, .int a4), (5, .ref uH3), (6, .int v56.1), (8, .int v56.2.2)]) hx hb dX5_read_77 jl (by decide) rfl (fun ls jl => ?_)
                        refine lv_iload hx hb dX5_read_79 (lv_at jl 0 rfl) ?_
                        refine lv_if_ne (tgt := 121) hx hb dX5_read_81 (by decide) (fun c61 => ?_) (fun c61 => ?_)
                        · have hv56 := itn c61 hv56
                          refine lv_iinc (v := (v56.2.2 + (1 : Int32))) (lv' := [(8, .int (v56.2.2 + (1 : Int32))), (7, .int t59), (9, .int (a3 + ((4 : Int32) * v56.2.2))), (0, .ref uL), (2, .int a2), (3, .int a3), (4, .int a4), (5, .ref uH3), (6, .int v56.1)]) hx hb dX5_read_121 jl (k := 8) rfl rfl (by decide) rfl (fun ls jl => ?_)
                          refine lv_goto (tgt := 48) hx hb dX5_read_124 (by decide) ?_
                          obtain rfl := Option.some.inj hv56
                          exact ih _ (nxt_l hq56) _ _ _ jP jD jS (lv_sub jl [3, 4, 5, 6, 7, 8, 1, 0] rfl)
                        · have hv56 := itp c61 hv56
                          refine lv_aload hx hb dX5_read_84 (lv_at jl 6 rfl) ?_
                          refine lv_iload hx hb dX5_read_86 (lv_at jl 1 rfl) ?_
                          obtain ⟨t62, hc63, hv56⟩ := bd_some hv56
                          refine callP (wc := (hW cI uH3 aH3 H3_x1 H3_x2 H3_r0)) (wr := (lW uL uE uD uT uV uS uP L_x6 L_x7 ++ (vW cS uV (q4 uH0 uH1 uH2 uH3) ++ (hW cI uH0 aH0 H0_x1 H0_x2 H0_r0 ++ (hW cI uH1 aH1 H1_x1 H1_x2 H1_r0 ++ (hW cI uH2 aH2 H2_x1 H2_x2 H2_r0 ++ (sW cI uS aS S_x5 S_x6 S_x7 S_x8 S_x9 S_r0 S_r1 S_r2 S_r3 S_r4))))))) (w1 := (hW cI uH3 aH3 H3_x1 H3_x2 H3_r0)) (ws1 := (lW uL uE uD uT uV uS uP L_x6 L_x7 ++ (vW cS uV (q4 uH0 uH1 uH2 uH3) ++ (hW cI uH0 aH0 H0_x1 H0_x2 H0_r0 ++ (hW cI uH1 aH1 H1_x1 H1_x2 H1_r0 ++ (hW cI uH2 aH2 H2_x1 H2_x2 H2_r0 ++ (hW cI uH3 aH3 H3_x1 H3_x2 H3_r0 ++ (sW cI uS aS S_x5 S_x6 S_x7 S_x8 S_x9 S_r0 S_r1 S_r2 S_r3 S_r4)))))))) (As := [.int (a3 + ((4 : Int32) * v56.2.2))]) (rest := []) (st1 := [.int t62]) 0 [8, 9] [0, 1, 2, 3, 4, 5, 6, 7, 10, 11, 12, 13, 14, 15] [0, 1, 2, 3, 4, 5, 6, 7, 14, 15, 8, 9, 10, 11, 12, 13] F (kX1_tellsSortAt l D cI cB cS uH3 aH3 H3_x1 H3_x2 H3_r0 (a3 + ((4 : Int32) * v56.2.2)) _ hc63 ) okX1_tellsSortAt w_781 (by decide) (by decide) ⟨Nat.zero_le _, Nat.zero_le _⟩ rfl rfl rfl jP jD jS rfl jl.1 rfl rfl (Nat.le_of_ble_eq_true rfl) dX5_read_88 rfl rfl (by decide) (by decide) (by decide) rfl (by decide) (fun H locs jP jD jS => ?_)
                          refine lv_if_ne (tgt := 100) hx hb dX5_read_91 (by decide) (fun c64 => ?_) (fun c64 => ?_)
                          · have hv56 := itn c64 hv56
                            refine lv_aload_n hx hb dX5_read_100 rfl (lv_at jl 2 rfl) ?_
                            refine va_get (D := D) (ci := 5) (v := .ref uS) (C := RX5) (T := TX5) (N := 8) hx hb hts in5 hown jK.1 jP 0 rfl rfl 4 (by decide) (hts _ w_32) (fun _ h9 => h9) rfl dX5_read_101 ?_
                            refine va_get (D := D) (ci := 2) (v := .int S_x5) (C := RX2) (T := TX2) (N := 10) hx hb hts in2 hown jK.1 jP 10 rfl rfl 5 (by decide) (hts _ w_276) (fun _ h9 => h9) rfl dX5_read_104 ?_
                            refine lv_iload hx hb dX5_read_107 (lv_at jl 8 rfl) ?_
                            refine lv_iadd hx hb dX5_read_109 ?_
                            refine lv_bipush (v := (8 : Int32)) hx hb dX5_read_110 (by decide) ?_
                            refine lv_icmp_lt (tgt := 118) hx hb dX5_read_112 (by decide) (fun c65 => ?_) (fun c65 => ?_)
                            · have hv56 := itp c65 hv56
                              refine lv_iinc (v := (v56.1 + (1 : Int32))) (lv' := [(6, .int (v56.1 + (1 : Int32))), (7, .int t59), (9, .int (a3 + ((4 : Int32) * v56.2.2))), (0, .ref uL), (2, .int a2), (3, .int a3), (4, .int a4), (5, .ref uH3), (8, .int v56.2.2)]) hx hb dX5_read_118 jl (k := 7) rfl rfl (by decide) rfl (fun ls jl => ?_)
                              refine lv_iinc (v := (v56.2.2 + (1 : Int32))) (lv' := [(8, .int (v56.2.2 + (1 : Int32))), (6, .int (v56.1 + (1 : Int32))), (7, .int t59), (9, .int (a3 + ((4 : Int32) * v56.2.2))), (0, .ref uL), (2, .int a2), (3, .int a3), (4, .int a4), (5, .ref uH3)]) hx hb dX5_read_121 jl (k := 8) rfl rfl (by decide) rfl (fun ls jl => ?_)
                              refine lv_goto (tgt := 48) hx hb dX5_read_124 (by decide) ?_
                              obtain rfl := Option.some.inj hv56
                              exact ih _ (nxt_l hq56) _ _ _ jP jD jS (lv_sub jl [4, 5, 6, 7, 8, 1, 2, 0] rfl)
                            · have hv56 := itn c65 hv56
                              refine lv_bipush (v := (-3 : Int32)) hx hb dX5_read_115 (by decide) ?_
                              obtain rfl := Option.some.inj hv56
                              obtain rfl := nxt_r hq56
                              have hz56 := sm_l hz56
                              obtain rfl := Option.some.inj hz56
                              exact hRet _ _ _ _ jP jD jS dX5_read_117
                          · have hv56 := itp c64 hv56
                            refine lv_bipush (v := (-20 : Int32)) hx hb dX5_read_94 (by decide) ?_
                            refine lv_iload hx hb dX5_read_96 (lv_at jl 8 rfl) ?_
                            refine lv_isub hx hb dX5_read_98 ?_
                            obtain rfl := Option.some.inj hv56
                            obtain rfl := nxt_r hq56
                            have hz56 := sm_l hz56
                            obtain rfl := Option.some.inj hz56
                            exact hRet _ _ _ _ jP jD jS dX5_read_99
                exact hL56 1000 _ hT56 _ _ _ jP jD jS (lv_sub jl [4, 6, 7, 8, 3, 2, 1, 0] rfl)
              · have h := itn hk55 h
                cases h
      · have h := itp c9 h
        refine lv_iconst (v := (-1 : Int32)) hx hb dX5_read_29 (by decide) ?_
        obtain rfl := Option.some.inj h
        exact hRet _ _ _ _ jP jD jS dX5_read_30
theorem okX5_count : okV yX5_count cX5_count 2 (some .int) 1 := ⟨w_805, w_806, w_807, w_2, by decide, by decide, by decide +kernel⟩
def fX5_count (E_x1 : Int32) (H0_x1 : Int32) (S_r0 : (Nat → Int32)) (S_r2 : (Nat → Int32)) (S_r4 : (Nat → Int32)) (S_x5 : Int32) (S_x6 : Int32) (a1 : Int32) : Option Int32 :=
  if a1 = (0 : Int32) then some S_x5 else (if a1 = (1 : Int32) then (bd (fX2_sumOf0 (S_r0) (S_x5) (0 : Int32)) (fun t7 => some t7)) else (if a1 = (2 : Int32) then (bd (fX2_sumOf4 (S_r4) (S_x5) (4 : Int32)) (fun t9 => some t9)) else (if a1 = (3 : Int32) then (bd (fX2_goodOnes (S_r2) (S_x5) (S_x6)) (fun t11 => bd (fJ6_bitCount_0f7a4 t11) (fun t13 => some t13))) else (if a1 = (4 : Int32) then some E_x1 else (if a1 = (5 : Int32) then (if (0 : Int32) ≤ H0_x1 then some H0_x1 else (some (-4 : Int32))) else (some (-1 : Int32)))))))
set_option maxRecDepth 100000 in
set_option maxHeartbeats 4000000 in
theorem kX5_count (l : Launch) (D : va_G) (cI cB cS : ClassId) (uL : Nat) (L_x6 : Int32) (L_x7 : Int32) (uE : Nat) (aE : Nat → Nat) (E_x1 : Int32) (E_r0 : (Nat → Int32)) (uV : Nat) (uH0 : Nat) (aH0 : Nat → Nat) (H0_x1 : Int32) (H0_x2 : Int32) (H0_r0 : (Nat → Int32)) (uS : Nat) (aS : Nat → Nat) (S_x5 : Int32) (S_x6 : Int32) (S_x7 : Int32) (S_x8 : Int32) (S_x9 : Int32) (S_r0 : (Nat → Int32)) (S_r1 : (Nat → Int32)) (S_r2 : (Nat → Int32)) (S_r3 : (Nat → Int32)) (S_r4 : (Nat → Int32)) (uD : Nat) (uT : Nat) (uP : Nat) (uH1 : Nat) (uH2 : Nat) (uH3 : Nat) (a1 : Int32) (z : Int32) (h : fX5_count E_x1 H0_x1 S_r0 S_r2 S_r4 S_x5 S_x6 a1 = some z) : Mt l yX5_count cX5_count 2 (some .int) 2 45 D cI cB cS (lW uL uE uD uT uV uS uP L_x6 L_x7 ++ (eW cB uE aE E_x1 E_r0 ++ (vW cS uV (q4 uH0 uH1 uH2 uH3) ++ (hW cI uH0 aH0 H0_x1 H0_x2 H0_r0 ++ (sW cI uS aS S_x5 S_x6 S_x7 S_x8 S_x9 S_r0 S_r1 S_r2 S_r3 S_r4))))) (lW uL uE uD uT uV uS uP L_x6 L_x7 ++ (eW cB uE aE E_x1 E_r0 ++ (vW cS uV (q4 uH0 uH1 uH2 uH3) ++ (hW cI uH0 aH0 H0_x1 H0_x2 H0_r0 ++ (sW cI uS aS S_x5 S_x6 S_x7 S_x8 S_x9 S_r0 S_r1 S_r2 S_r3 S_r4))))) [.ref uL, .int a1] (some (.int z)) := by
  refine entryI (by decide +kernel) rfl (Nat.le_of_ble_eq_true rfl) ?_
  intro p e s m below meth c A ls QQ R ar F hRet jP jD jS jl
  obtain ⟨hx, hb, hml, hown, hts, jK, hA, hf1, hf2⟩ := id F
  have jl : lv_has ls 2 [(0, .ref uL), (1, .int a1)] := jl
  unfold fX5_count at h
  refine lv_iload_n hx hb dX5_count_0 rfl (lv_at jl 1 rfl) ?_
  by_cases hk1 : a1 = (0 : Int32)
  · have h := itp hk1 h
    refine swIn (k := 0) (tgt := 40) hx hb hk1 dX5_count_1 (by decide) (by decide) rfl (by decide) ?_
    refine lv_aload_n hx hb dX5_count_40 rfl (lv_at jl 0 rfl) ?_
    refine va_get (D := D) (ci := 5) (v := .ref uS) (C := RX5) (T := TX5) (N := 8) hx hb hts in5 hown jK.1 jP 0 rfl rfl 4 (by decide) (hts _ w_32) (fun _ h9 => h9) rfl dX5_count_41 ?_
    refine va_get (D := D) (ci := 2) (v := .int S_x5) (C := RX2) (T := TX2) (N := 10) hx hb hts in2 hown jK.1 jP 6 rfl rfl 5 (by decide) (hts _ w_276) (fun _ h9 => h9) rfl dX5_count_44 ?_
    obtain rfl := Option.some.inj h
    exact hRet _ _ _ _ jP jD jS dX5_count_47
  · have h := itn hk1 h
    by_cases hk2 : a1 = (1 : Int32)
    · have h := itp hk2 h
      refine swIn (k := 1) (tgt := 48) hx hb hk2 dX5_count_1 (by decide) (by decide) rfl (by decide) ?_
      refine lv_aload_n hx hb dX5_count_48 rfl (lv_at jl 0 rfl) ?_
      refine va_get (D := D) (ci := 5) (v := .ref uS) (C := RX5) (T := TX5) (N := 8) hx hb hts in5 hown jK.1 jP 0 rfl rfl 4 (by decide) (hts _ w_32) (fun _ h9 => h9) rfl dX5_count_49 ?_
      refine lv_iconst (v := (0 : Int32)) hx hb dX5_count_52 (by decide) ?_
      obtain ⟨t7, hc8, h⟩ := bd_some h
      refine callP (wc := (sW cI uS aS S_x5 S_x6 S_x7 S_x8 S_x9 S_r0 S_r1 S_r2 S_r3 S_r4)) (wr := (lW uL uE uD uT uV uS uP L_x6 L_x7 ++ (eW cB uE aE E_x1 E_r0 ++ (vW cS uV (q4 uH0 uH1 uH2 uH3) ++ (hW cI uH0 aH0 H0_x1 H0_x2 H0_r0))))) (w1 := (sW cI uS aS S_x5 S_x6 S_x7 S_x8 S_x9 S_r0 S_r1 S_r2 S_r3 S_r4)) (ws1 := (lW uL uE uD uT uV uS uP L_x6 L_x7 ++ (eW cB uE aE E_x1 E_r0 ++ (vW cS uV (q4 uH0 uH1 uH2 uH3) ++ (hW cI uH0 aH0 H0_x1 H0_x2 H0_r0 ++ (sW cI uS aS S_x5 S_x6 S_x7 S_x8 S_x9 S_r0 S_r1 S_r2 S_r3 S_r4)))))) (As := [.int (0 : Int32)]) (rest := []) (st1 := [.int t7]) 0 [6, 7, 8, 9, 10, 11] [0, 1, 2, 3, 4, 5] [0, 1, 2, 3, 4, 5, 6, 7, 8, 9, 10, 11] F (kX2_sumOf0 l D cI cB cS uS aS S_x5 S_x6 S_x7 S_x8 S_x9 S_r0 S_r1 S_r2 S_r3 S_r4 (0 : Int32) _ hc8 rfl) okX2_sumOf w_809 (by decide) (by decide) ⟨Nat.zero_le _, Nat.zero_le _⟩ rfl rfl rfl jP jD jS rfl jl.1 rfl rfl (Nat.le_of_ble_eq_true rfl) dX5_count_53 rfl rfl (by decide) (by decide) (by decide) rfl (by decide) (fun H locs jP jD jS => ?_)
      obtain rfl := Option.some.inj h
      exact hRet _ _ _ _ jP jD jS dX5_count_56
    · have h := itn hk2 h
      by_cases hk3 : a1 = (2 : Int32)
      · have h := itp hk3 h
        refine swIn (k := 2) (tgt := 57) hx hb hk3 dX5_count_1 (by decide) (by decide) rfl (by decide) ?_
        refine lv_aload_n hx hb dX5_count_57 rfl (lv_at jl 0 rfl) ?_
        refine va_get (D := D) (ci := 5) (v := .ref uS) (C := RX5) (T := TX5) (N := 8) hx hb hts in5 hown jK.1 jP 0 rfl rfl 4 (by decide) (hts _ w_32) (fun _ h9 => h9) rfl dX5_count_58 ?_
        refine lv_iconst (v := (4 : Int32)) hx hb dX5_count_61 (by decide) ?_
        obtain ⟨t9, hc10, h⟩ := bd_some h
        refine callP (wc := (sW cI uS aS S_x5 S_x6 S_x7 S_x8 S_x9 S_r0 S_r1 S_r2 S_r3 S_r4)) (wr := (lW uL uE uD uT uV uS uP L_x6 L_x7 ++ (eW cB uE aE E_x1 E_r0 ++ (vW cS uV (q4 uH0 uH1 uH2 uH3) ++ (hW cI uH0 aH0 H0_x1 H0_x2 H0_r0))))) (w1 := (sW cI uS aS S_x5 S_x6 S_x7 S_x8 S_x9 S_r0 S_r1 S_r2 S_r3 S_r4)) (ws1 := (lW uL uE uD uT uV uS uP L_x6 L_x7 ++ (eW cB uE aE E_x1 E_r0 ++ (vW cS uV (q4 uH0 uH1 uH2 uH3) ++ (hW cI uH0 aH0 H0_x1 H0_x2 H0_r0 ++ (sW cI uS aS S_x5 S_x6 S_x7 S_x8 S_x9 S_r0 S_r1 S_r2 S_r3 S_r4)))))) (As := [.int (4 : Int32)]) (rest := []) (st1 := [.int t9]) 0 [6, 7, 8, 9, 10, 11] [0, 1, 2, 3, 4, 5] [0, 1, 2, 3, 4, 5, 6, 7, 8, 9, 10, 11] F (kX2_sumOf4 l D cI cB cS uS aS S_x5 S_x6 S_x7 S_x8 S_x9 S_r0 S_r1 S_r2 S_r3 S_r4 (4 : Int32) _ hc10 (by decide) (by decide) (by decide) (by decide)) okX2_sumOf w_809 (by decide) (by decide) ⟨Nat.zero_le _, Nat.zero_le _⟩ rfl rfl rfl jP jD jS rfl jl.1 rfl rfl (Nat.le_of_ble_eq_true rfl) dX5_count_62 rfl rfl (by decide) (by decide) (by decide) rfl (by decide) (fun H locs jP jD jS => ?_)
        obtain rfl := Option.some.inj h
        exact hRet _ _ _ _ jP jD jS dX5_count_65
      · have h := itn hk3 h
        by_cases hk4 : a1 = (3 : Int32)
        · have h := itp hk4 h
          refine swIn (k := 3) (tgt := 66) hx hb hk4 dX5_count_1 (by decide) (by decide) rfl (by decide) ?_
          refine lv_aload_n hx hb dX5_count_66 rfl (lv_at jl 0 rfl) ?_
          refine va_get (D := D) (ci := 5) (v := .ref uS) (C := RX5) (T := TX5) (N := 8) hx hb hts in5 hown jK.1 jP 0 rfl rfl 4 (by decide) (hts _ w_32) (fun _ h9 => h9) rfl dX5_count_67 ?_
          obtain ⟨t11, hc12, h⟩ := bd_some h
          refine callP (wc := (sW cI uS aS S_x5 S_x6 S_x7 S_x8 S_x9 S_r0 S_r1 S_r2 S_r3 S_r4)) (wr := (lW uL uE uD uT uV uS uP L_x6 L_x7 ++ (eW cB uE aE E_x1 E_r0 ++ (vW cS uV (q4 uH0 uH1 uH2 uH3) ++ (hW cI uH0 aH0 H0_x1 H0_x2 H0_r0))))) (w1 := (sW cI uS aS S_x5 S_x6 S_x7 S_x8 S_x9 S_r0 S_r1 S_r2 S_r3 S_r4)) (ws1 := (lW uL uE uD uT uV uS uP L_x6 L_x7 ++ (eW cB uE aE E_x1 E_r0 ++ (vW cS uV (q4 uH0 uH1 uH2 uH3) ++ (hW cI uH0 aH0 H0_x1 H0_x2 H0_r0 ++ (sW cI uS aS S_x5 S_x6 S_x7 S_x8 S_x9 S_r0 S_r1 S_r2 S_r3 S_r4)))))) (As := []) (rest := []) (st1 := [.int t11]) 0 [6, 7, 8, 9, 10, 11] [0, 1, 2, 3, 4, 5] [0, 1, 2, 3, 4, 5, 6, 7, 8, 9, 10, 11] F (kX2_goodOnes l D cI cB cS uS aS S_x5 S_x6 S_x7 S_x8 S_x9 S_r0 S_r1 S_r2 S_r3 S_r4  _ hc12 ) okX2_goodOnes w_597 (by decide) (by decide) ⟨Nat.zero_le _, Nat.zero_le _⟩ rfl rfl rfl jP jD jS rfl jl.1 rfl rfl (Nat.le_of_ble_eq_true rfl) dX5_count_70 rfl rfl (by decide) (by decide) (by decide) rfl (by decide) (fun H locs jP jD jS => ?_)
          obtain ⟨t13, hc14, h⟩ := bd_some h
          refine call0 (As := [.int t11]) (rest := []) (st1 := [.int t13]) F (kJ6_bitCount_0f7a4 l D cI cB cS  t11 _ hc14 ) okJ6_bitCount_0f7a4 w_680 (by decide) (by decide) ⟨Nat.zero_le _, Nat.zero_le _⟩ jP jD jS rfl jl.1 rfl rfl (Nat.le_of_ble_eq_true rfl) dX5_count_73 (fun H locs jP jD jS => ?_)
          obtain rfl := Option.some.inj h
          exact hRet _ _ _ _ jP jD jS dX5_count_76
        · have h := itn hk4 h
          by_cases hk5 : a1 = (4 : Int32)
          · have h := itp hk5 h
            refine swIn (k := 4) (tgt := 77) hx hb hk5 dX5_count_1 (by decide) (by decide) rfl (by decide) ?_
            refine lv_aload_n hx hb dX5_count_77 rfl (lv_at jl 0 rfl) ?_
            refine va_get (D := D) (ci := 5) (v := .ref uE) (C := RX5) (T := TX5) (N := 8) hx hb hts in5 hown jK.1 jP 0 rfl rfl 0 (by decide) (hts _ w_16) (fun _ h9 => h9) rfl dX5_count_78 ?_
            refine va_get (D := D) (ci := 3) (v := .int E_x1) (C := RX3) (T := TX3) (N := 2) hx hb hts in3 hown jK.1 jP 1 rfl rfl 1 (by decide) (hts _ w_94) (fun _ h9 => h9) rfl dX5_count_81 ?_
            obtain rfl := Option.some.inj h
            exact hRet _ _ _ _ jP jD jS dX5_count_84
          · have h := itn hk5 h
            by_cases hk6 : a1 = (5 : Int32)
            · have h := itp hk6 h
              refine swIn (k := 5) (tgt := 85) hx hb hk6 dX5_count_1 (by decide) (by decide) rfl (by decide) ?_
              refine lv_aload_n hx hb dX5_count_85 rfl (lv_at jl 0 rfl) ?_
              refine va_get (D := D) (ci := 5) (v := .ref uV) (C := RX5) (T := TX5) (N := 8) hx hb hts in5 hown jK.1 jP 0 rfl rfl 3 (by decide) (hts _ w_26) (fun _ h9 => h9) rfl dX5_count_86 ?_
              refine lv_iconst (v := (0 : Int32)) hx hb dX5_count_89 (by decide) ?_
              refine va_aldq (C := RX1) hx hb jK.1 jP 3 2 rfl rfl (by unfold vp_in; decide) dX5_count_90 ?_
              refine W.eq (g2 := F0 m 91 ls (.ref uH0 :: [])) rfl ?_
              refine va_get (D := D) (ci := 1) (v := .int H0_x1) (C := RX1) (T := TX1) (N := 3) hx hb hts in1 hown jK.1 jP 4 rfl rfl 1 (by decide) (hts _ w_808) (fun _ h9 => h9) rfl dX5_count_91 ?_
              refine lv_if_ge (tgt := 102) hx hb dX5_count_94 (by decide) (fun c15 => ?_) (fun c15 => ?_)
              · have h := itp c15 h
                refine lv_aload_n hx hb dX5_count_102 rfl (lv_at jl 0 rfl) ?_
                refine va_get (D := D) (ci := 5) (v := .ref uV) (C := RX5) (T := TX5) (N := 8) hx hb hts in5 hown jK.1 jP 0 rfl rfl 3 (by decide) (hts _ w_26) (fun _ h9 => h9) rfl dX5_count_103 ?_
                refine lv_iconst (v := (0 : Int32)) hx hb dX5_count_106 (by decide) ?_
                refine va_aldq (C := RX1) hx hb jK.1 jP 3 2 rfl rfl (by unfold vp_in; decide) dX5_count_107 ?_
                refine W.eq (g2 := F0 m 108 ls (.ref uH0 :: [])) rfl ?_
                refine va_get (D := D) (ci := 1) (v := .int H0_x1) (C := RX1) (T := TX1) (N := 3) hx hb hts in1 hown jK.1 jP 4 rfl rfl 1 (by decide) (hts _ w_808) (fun _ h9 => h9) rfl dX5_count_108 ?_
                obtain rfl := Option.some.inj h
                exact hRet _ _ _ _ jP jD jS dX5_count_111
              · have h := itn c15 h
                refine lv_bipush (v := (-4 : Int32)) hx hb dX5_count_97 (by decide) ?_
                refine lv_goto (tgt := 111) hx hb dX5_count_99 (by decide) ?_
                obtain rfl := Option.some.inj h
                exact hRet _ _ _ _ jP jD jS dX5_count_111
            · have h := itn hk6 h
              refine lv_tableOut (tgt := 112) hx hb dX5_count_1 (swNot 5 (by decide) (fun k hk => by rcases (by omega : k = 0 ∨ k = 1 ∨ k = 2 ∨ k = 3 ∨ k = 4 ∨ k = 5) with rfl | rfl | rfl | rfl | rfl | rfl <;> assumption)) (by decide) ?_
              refine lv_iconst (v := (-1 : Int32)) hx hb dX5_count_112 (by decide) ?_
              obtain rfl := Option.some.inj h
              exact hRet _ _ _ _ jP jD jS dX5_count_113
