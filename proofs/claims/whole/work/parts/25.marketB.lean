theorem okX5_gainAt : okV yX5_gainAt cX5_gainAt 5 (some .int) 4 := ⟨w_530, w_531, w_532, w_2, by decide, by decide, by decide +kernel⟩
def fX5_gainAt (Q_r0 : (Nat → Int32)) (Q_r1 : (Nat → Int32)) (Q_r2 : (Nat → Int32)) (Q_r3 : (Nat → Int32)) (Q_r4 : (Nat → Int32)) (Q_x5 : Int32) (Q_x6 : Int32) (Q_x7 : Int32) (Q_x8 : Int32) (T_r0 : (Nat → Int32)) (a2 : Int32) (a3 : Int32) (a4 : Int32) : Option (Int32 × (Nat → Int32) × Int32 × Int32 × Int32 × Int32 × Int32 × Int32) :=
  bd (fX4_make (Q_r0) (Q_r1) (Q_r2) (Q_r3) (Q_r4) (Q_x5) (Q_x6) (Q_x7) (Q_x8) (T_r0) a2 a3 a4) (fun t1 => some (t1.2.2.2.2.2.1, t1.1, t1.2.1, t1.2.2.1, t1.2.2.2.1, t1.2.2.2.2.1, t1.2.2.2.2.2.1, t1.2.2.2.2.2.2))
set_option maxRecDepth 100000 in
set_option maxHeartbeats 4000000 in
theorem kX5_gainAt (l : Launch) (D : va_G) (cI cB cS : ClassId) (uL : Nat) (L_x6 : Int32) (L_x7 : Int32) (uT : Nat) (aT : Nat → Nat) (T_x1 : Int32) (T_x2 : Int32) (T_x3 : Int32) (T_x4 : Int32) (T_x5 : Int32) (T_x6 : Int32) (T_r0 : (Nat → Int32)) (uQ : Nat) (aQ : Nat → Nat) (Q_x5 : Int32) (Q_x6 : Int32) (Q_x7 : Int32) (Q_x8 : Int32) (Q_x9 : Int32) (Q_r0 : (Nat → Int32)) (Q_r1 : (Nat → Int32)) (Q_r2 : (Nat → Int32)) (Q_r3 : (Nat → Int32)) (Q_r4 : (Nat → Int32)) (uE : Nat) (uD : Nat) (uV : Nat) (uS : Nat) (uP : Nat) (a2 : Int32) (a3 : Int32) (a4 : Int32) (z : (Int32 × (Nat → Int32) × Int32 × Int32 × Int32 × Int32 × Int32 × Int32)) (h : fX5_gainAt Q_r0 Q_r1 Q_r2 Q_r3 Q_r4 Q_x5 Q_x6 Q_x7 Q_x8 T_r0 a2 a3 a4 = some z) : Mt l yX5_gainAt cX5_gainAt 5 (some .int) 3 94 D cI cB cS (lW uL uE uD uT uV uS uP L_x6 L_x7 ++ (tW cI uT aT T_x1 T_x2 T_x3 T_x4 T_x5 T_x6 T_r0 ++ (sW cI uQ aQ Q_x5 Q_x6 Q_x7 Q_x8 Q_x9 Q_r0 Q_r1 Q_r2 Q_r3 Q_r4))) (lW uL uE uD uT uV uS uP L_x6 L_x7 ++ (tW cI uT aT z.2.2.1 z.2.2.2.1 z.2.2.2.2.1 z.2.2.2.2.2.1 z.2.2.2.2.2.2.1 z.2.2.2.2.2.2.2 z.2.1 ++ (sW cI uQ aQ Q_x5 Q_x6 Q_x7 Q_x8 Q_x9 Q_r0 Q_r1 Q_r2 Q_r3 Q_r4))) [.ref uL, .ref uQ, .int a2, .int a3, .int a4] (some (.int z.1)) := by
  refine entryI (by decide +kernel) rfl (Nat.le_of_ble_eq_true rfl) ?_
  intro p e s m below meth c A ls QQ R ar F hRet jP jD jS jl
  obtain ⟨hx, hb, hml, hown, hts, jK, hA, hf1, hf2⟩ := id F
  have jl : lv_has ls 5 [(0, .ref uL), (1, .ref uQ), (2, .int a2), (3, .int a3), (4, .int a4)] := jl
  unfold fX5_gainAt at h
  refine lv_aload_n hx hb dX5_gainAt_0 rfl (lv_at jl 0 rfl) ?_
  refine va_get (D := D) (ci := 5) (v := .ref uT) (C := RX5) (T := TX5) (N := 8) hx hb hts in5 hown jK.1 jP 0 rfl rfl 2 (by decide) (hts _ w_24) (fun _ h9 => h9) rfl dX5_gainAt_1 ?_
  refine lv_aload_n hx hb dX5_gainAt_4 rfl (lv_at jl 1 rfl) ?_
  refine lv_iload_n hx hb dX5_gainAt_5 rfl (lv_at jl 2 rfl) ?_
  refine lv_iload_n hx hb dX5_gainAt_6 rfl (lv_at jl 3 rfl) ?_
  refine lv_iload hx hb dX5_gainAt_7 (lv_at jl 4 rfl) ?_
  obtain ⟨t1, hc2, h⟩ := bd_some h
  refine callP (wc := (tW cI uT aT T_x1 T_x2 T_x3 T_x4 T_x5 T_x6 T_r0 ++ (sW cI uQ aQ Q_x5 Q_x6 Q_x7 Q_x8 Q_x9 Q_r0 Q_r1 Q_r2 Q_r3 Q_r4))) (wr := (lW uL uE uD uT uV uS uP L_x6 L_x7)) (w1 := (tW cI uT aT t1.2.1 t1.2.2.1 t1.2.2.2.1 t1.2.2.2.2.1 t1.2.2.2.2.2.1 t1.2.2.2.2.2.2 t1.1 ++ (sW cI uQ aQ Q_x5 Q_x6 Q_x7 Q_x8 Q_x9 Q_r0 Q_r1 Q_r2 Q_r3 Q_r4))) (ws1 := (lW uL uE uD uT uV uS uP L_x6 L_x7 ++ (tW cI uT aT t1.2.1 t1.2.2.1 t1.2.2.2.1 t1.2.2.2.2.1 t1.2.2.2.2.2.1 t1.2.2.2.2.2.2 t1.1 ++ (sW cI uQ aQ Q_x5 Q_x6 Q_x7 Q_x8 Q_x9 Q_r0 Q_r1 Q_r2 Q_r3 Q_r4)))) (As := [.ref uQ, .int a2, .int a3, .int a4]) (rest := []) (st1 := []) 0 [1, 2, 3, 4, 5, 6, 7, 8] [0] [0, 1, 2, 3, 4, 5, 6, 7, 8] F (kX4_make l D cI cB cS uT aT T_x1 T_x2 T_x3 T_x4 T_x5 T_x6 T_r0 uQ aQ Q_x5 Q_x6 Q_x7 Q_x8 Q_x9 Q_r0 Q_r1 Q_r2 Q_r3 Q_r4 a2 a3 a4 _ hc2 ) okX4_make w_367 (by decide) (by decide) ⟨Nat.zero_le _, Nat.zero_le _⟩ rfl rfl rfl jP jD jS rfl jl.1 rfl rfl (Nat.le_of_ble_eq_true rfl) dX5_gainAt_9 rfl rfl (by decide) (by decide) (by decide) rfl (by decide) (fun H locs jP jD jS => ?_)
  refine lv_aload_n hx hb dX5_gainAt_12 rfl (lv_at jl 0 rfl) ?_
  refine va_get (D := D) (ci := 5) (v := .ref uT) (C := RX5) (T := TX5) (N := 8) hx hb hts in5 hown jK.1 jP 0 rfl rfl 2 (by decide) (hts _ w_24) (fun _ h9 => h9) rfl dX5_gainAt_13 ?_
  refine va_get (D := D) (ci := 4) (v := .int t1.2.2.2.2.2.1) (C := RX4) (T := TX4) (N := 7) hx hb hts in4 hown jK.1 jP 1 rfl rfl 5 (by decide) (hts _ w_533) (fun _ h9 => h9) rfl dX5_gainAt_16 ?_
  obtain rfl := Option.some.inj h
  exact hRet _ _ _ _ jP jD jS dX5_gainAt_19
theorem okX5_bestPrice : okV yX5_bestPrice cX5_bestPrice 7 (some .int) 3 := ⟨w_552, w_553, w_554, w_2, by decide, by decide, by decide +kernel⟩
def fX5_bestPrice_b10 (l2 : Int32) (l3 : Int32) (Q_r0 : (Nat → Int32)) (Q_r1 : (Nat → Int32)) (Q_r2 : (Nat → Int32)) (Q_r3 : (Nat → Int32)) (Q_r4 : (Nat → Int32)) (Q_x5 : Int32) (Q_x6 : Int32) (Q_x7 : Int32) (Q_x8 : Int32) (v1 : (Int32 × Int32 × Int32 × (Nat → Int32) × Int32 × Int32 × Int32 × Int32 × Int32 × Int32)) : Option ((Int32 × Int32 × Int32 × (Nat → Int32) × Int32 × Int32 × Int32 × Int32 × Int32 × Int32) ⊕ (Int32 × (Nat → Int32) × Int32 × Int32 × Int32 × Int32 × Int32 × Int32)) :=
  if (100 : Int32) ≤ v1.2.2.1 then (some (.inr (v1.1, v1.2.2.2.1, v1.2.2.2.2.1, v1.2.2.2.2.2.1, v1.2.2.2.2.2.2.1, v1.2.2.2.2.2.2.2.1, v1.2.2.2.2.2.2.2.2.1, v1.2.2.2.2.2.2.2.2.2))) else (bd (fX4_make (Q_r0) (Q_r1) (Q_r2) (Q_r3) (Q_r4) (Q_x5) (Q_x6) (Q_x7) (Q_x8) v1.2.2.2.1 (l2) (l3) v1.2.2.1) (fun t1 => bd (fX4_holdsAt t1.2.2.2.1 t1.2.2.2.2.1 v1.2.2.1) (fun t2 => bd (if t2 = (0 : Int32) then (some (v1.1, v1.2.1)) else (if v1.1 = (-4 : Int32) then (some (v1.2.2.1, t1.2.2.2.2.2.1)) else (if t1.2.2.2.2.2.1 ≤ v1.2.1 then (some (v1.1, v1.2.1)) else (some (v1.2.2.1, t1.2.2.2.2.2.1))))) (fun t3 => some (.inl (t3.1, t3.2, (v1.2.2.1 + (1 : Int32)), t1.1, t1.2.1, t1.2.2.1, t1.2.2.2.1, t1.2.2.2.2.1, t1.2.2.2.2.2.1, t1.2.2.2.2.2.2))))))
def fX5_bestPrice (Q_r0 : (Nat → Int32)) (Q_r1 : (Nat → Int32)) (Q_r2 : (Nat → Int32)) (Q_r3 : (Nat → Int32)) (Q_r4 : (Nat → Int32)) (Q_x5 : Int32) (Q_x6 : Int32) (Q_x7 : Int32) (Q_x8 : Int32) (T_r0 : (Nat → Int32)) (T_x1 : Int32) (T_x2 : Int32) (T_x3 : Int32) (T_x4 : Int32) (T_x5 : Int32) (T_x6 : Int32) (a2 : Int32) (a3 : Int32) : Option (Int32 × (Nat → Int32) × Int32 × Int32 × Int32 × Int32 × Int32 × Int32) :=
  bd (loopF (fX5_bestPrice_b10 a2 a3 Q_r0 Q_r1 Q_r2 Q_r3 Q_r4 Q_x5 Q_x6 Q_x7 Q_x8) 1000 ((-4 : Int32), (0 : Int32), (0 : Int32), T_r0, T_x1, T_x2, T_x3, T_x4, T_x5, T_x6)) (fun T1 => some (T1.1, T1.2.1, T1.2.2.1, T1.2.2.2.1, T1.2.2.2.2.1, T1.2.2.2.2.2.1, T1.2.2.2.2.2.2.1, T1.2.2.2.2.2.2.2))
set_option maxRecDepth 100000 in
set_option maxHeartbeats 4000000 in
theorem kX5_bestPrice (l : Launch) (D : va_G) (cI cB cS : ClassId) (uL : Nat) (L_x6 : Int32) (L_x7 : Int32) (uT : Nat) (aT : Nat → Nat) (T_x1 : Int32) (T_x2 : Int32) (T_x3 : Int32) (T_x4 : Int32) (T_x5 : Int32) (T_x6 : Int32) (T_r0 : (Nat → Int32)) (uQ : Nat) (aQ : Nat → Nat) (Q_x5 : Int32) (Q_x6 : Int32) (Q_x7 : Int32) (Q_x8 : Int32) (Q_x9 : Int32) (Q_r0 : (Nat → Int32)) (Q_r1 : (Nat → Int32)) (Q_r2 : (Nat → Int32)) (Q_r3 : (Nat → Int32)) (Q_r4 : (Nat → Int32)) (uE : Nat) (uD : Nat) (uV : Nat) (uS : Nat) (uP : Nat) (a2 : Int32) (a3 : Int32) (z : (Int32 × (Nat → Int32) × Int32 × Int32 × Int32 × Int32 × Int32 × Int32)) (h : fX5_bestPrice Q_r0 Q_r1 Q_r2 Q_r3 Q_r4 Q_x5 Q_x6 Q_x7 Q_x8 T_r0 T_x1 T_x2 T_x3 T_x4 T_x5 T_x6 a2 a3 = some z) : Mt l yX5_bestPrice cX5_bestPrice 7 (some .int) 3 94 D cI cB cS (lW uL uE uD uT uV uS uP L_x6 L_x7 ++ (tW cI uT aT T_x1 T_x2 T_x3 T_x4 T_x5 T_x6 T_r0 ++ (sW cI uQ aQ Q_x5 Q_x6 Q_x7 Q_x8 Q_x9 Q_r0 Q_r1 Q_r2 Q_r3 Q_r4))) (lW uL uE uD uT uV uS uP L_x6 L_x7 ++ (tW cI uT aT z.2.2.1 z.2.2.2.1 z.2.2.2.2.1 z.2.2.2.2.2.1 z.2.2.2.2.2.2.1 z.2.2.2.2.2.2.2 z.2.1 ++ (sW cI uQ aQ Q_x5 Q_x6 Q_x7 Q_x8 Q_x9 Q_r0 Q_r1 Q_r2 Q_r3 Q_r4))) [.ref uL, .ref uQ, .int a2, .int a3] (some (.int z.1)) := by
  refine entryI (by decide +kernel) rfl (Nat.le_of_ble_eq_true rfl) ?_
  intro p e s m below meth c A ls QQ R ar F hRet jP jD jS jl
  obtain ⟨hx, hb, hml, hown, hts, jK, hA, hf1, hf2⟩ := id F
  have jl : lv_has ls 7 [(0, .ref uL), (1, .ref uQ), (2, .int a2), (3, .int a3)] := jl
  unfold fX5_bestPrice at h
  refine lv_bipush (v := (-4 : Int32)) hx hb dX5_bestPrice_0 (by decide) ?_
  refine lv_istore (lv' := [(4, .int (-4 : Int32)), (0, .ref uL), (1, .ref uQ), (2, .int a2), (3, .int a3)]) hx hb dX5_bestPrice_2 jl (by decide) rfl (fun ls jl => ?_)
  refine lv_iconst (v := (0 : Int32)) hx hb dX5_bestPrice_4 (by decide) ?_
  refine lv_istore (lv' := [(5, .int (0 : Int32)), (4, .int (-4 : Int32)), (0, .ref uL), (1, .ref uQ), (2, .int a2), (3, .int a3)]) hx hb dX5_bestPrice_5 jl (by decide) rfl (fun ls jl => ?_)
  refine lv_iconst (v := (0 : Int32)) hx hb dX5_bestPrice_7 (by decide) ?_
  refine lv_istore (lv' := [(6, .int (0 : Int32)), (5, .int (0 : Int32)), (4, .int (-4 : Int32)), (0, .ref uL), (1, .ref uQ), (2, .int a2), (3, .int a3)]) hx hb dX5_bestPrice_8 jl (by decide) rfl (fun ls jl => ?_)
  obtain ⟨T1, hT1, hz1⟩ := bd_some h
  clear h
  have hE1 : ∀ (H : Heap) (locs : List Loc) (ls : Array Slot), va_P D vwCl (lW uL uE uD uT uV uS uP L_x6 L_x7 ++ (tW cI uT aT T1.2.2.1 T1.2.2.2.1 T1.2.2.2.2.1 T1.2.2.2.2.2.1 T1.2.2.2.2.2.2.1 T1.2.2.2.2.2.2.2 T1.2.1 ++ (sW cI uQ aQ Q_x5 Q_x6 Q_x7 Q_x8 Q_x9 Q_r0 Q_r1 Q_r2 Q_r3 Q_r4))) H → va_D A (lW uL uE uD uT uV uS uP L_x6 L_x7 ++ (tW cI uT aT T1.2.2.1 T1.2.2.2.1 T1.2.2.2.2.1 T1.2.2.2.2.2.1 T1.2.2.2.2.2.2.1 T1.2.2.2.2.2.2.2 T1.2.1 ++ (sW cI uQ aQ Q_x5 Q_x6 Q_x7 Q_x8 Q_x9 Q_r0 Q_r1 Q_r2 Q_r3 Q_r4))) → va_S A s.heap H locs → lv_has ls 7 [(4, .int T1.1)] → W p l e R s m ar below meth c H locs 0 0 QQ (F0 m 79 ls []) := by
    clear jP jD jS jl
    intro H locs ls jP jD jS jl
    refine lv_iload hx hb dX5_bestPrice_79 (lv_at jl 0 rfl) ?_
    obtain rfl := Option.some.inj hz1
    exact hRet _ _ _ _ jP jD jS dX5_bestPrice_81
  have hL1 : ∀ (n : Nat) (v1 : (Int32 × Int32 × Int32 × (Nat → Int32) × Int32 × Int32 × Int32 × Int32 × Int32 × Int32)), loopF (fX5_bestPrice_b10 a2 a3 Q_r0 Q_r1 Q_r2 Q_r3 Q_r4 Q_x5 Q_x6 Q_x7 Q_x8) n v1 = some T1 → ∀ (H : Heap) (locs : List Loc) (ls : Array Slot), va_P D vwCl (lW uL uE uD uT uV uS uP L_x6 L_x7 ++ (tW cI uT aT v1.2.2.2.2.1 v1.2.2.2.2.2.1 v1.2.2.2.2.2.2.1 v1.2.2.2.2.2.2.2.1 v1.2.2.2.2.2.2.2.2.1 v1.2.2.2.2.2.2.2.2.2 v1.2.2.2.1 ++ (sW cI uQ aQ Q_x5 Q_x6 Q_x7 Q_x8 Q_x9 Q_r0 Q_r1 Q_r2 Q_r3 Q_r4))) H → va_D A (lW uL uE uD uT uV uS uP L_x6 L_x7 ++ (tW cI uT aT v1.2.2.2.2.1 v1.2.2.2.2.2.1 v1.2.2.2.2.2.2.1 v1.2.2.2.2.2.2.2.1 v1.2.2.2.2.2.2.2.2.1 v1.2.2.2.2.2.2.2.2.2 v1.2.2.2.1 ++ (sW cI uQ aQ Q_x5 Q_x6 Q_x7 Q_x8 Q_x9 Q_r0 Q_r1 Q_r2 Q_r3 Q_r4))) → va_S A s.heap H locs → lv_has ls 7 [(0, .ref uL), (1, .ref uQ), (2, .int a2), (3, .int a3), (4, .int v1.1), (5, .int v1.2.1), (6, .int v1.2.2.1)] → W p l e R s m ar below meth c H locs 0 0 QQ (F0 m 10 ls []) := by
    clear jP jD jS jl hT1
    intro n
    induction n with
    | zero => intro v1 hq; exact (loop_none hq).elim
    | succ n ih =>
      intro v1 hq H locs ls jP jD jS jl
      obtain ⟨o1, hv1, hq1⟩ := loop_some hq
      clear hq
      unfold fX5_bestPrice_b10 at hv1
      refine lv_iload hx hb dX5_bestPrice_10 (lv_at jl 6 rfl) ?_
      refine lv_bipush (v := (100 : Int32)) hx hb dX5_bestPrice_12 (by decide) ?_
      refine lv_icmp_ge (tgt := 79) hx hb dX5_bestPrice_14 (by decide) (fun c2 => ?_) (fun c2 => ?_)
      · have hv1 := itp c2 hv1
        obtain rfl := Option.some.inj hv1
        obtain rfl := nxt_r hq1
        exact hE1 _ _ _ jP jD jS (lv_sub jl [4] rfl)
      · have hv1 := itn c2 hv1
        refine lv_aload_n hx hb dX5_bestPrice_17 rfl (lv_at jl 0 rfl) ?_
        refine va_get (D := D) (ci := 5) (v := .ref uT) (C := RX5) (T := TX5) (N := 8) hx hb hts in5 hown jK.1 jP 0 rfl rfl 2 (by decide) (hts _ w_24) (fun _ h9 => h9) rfl dX5_bestPrice_18 ?_
        refine lv_aload_n hx hb dX5_bestPrice_21 rfl (lv_at jl 1 rfl) ?_
        refine lv_iload_n hx hb dX5_bestPrice_22 rfl (lv_at jl 2 rfl) ?_
        refine lv_iload_n hx hb dX5_bestPrice_23 rfl (lv_at jl 3 rfl) ?_
        refine lv_iload hx hb dX5_bestPrice_24 (lv_at jl 6 rfl) ?_
        obtain ⟨t3, hc4, hv1⟩ := bd_some hv1
        refine callP (wc := (tW cI uT aT v1.2.2.2.2.1 v1.2.2.2.2.2.1 v1.2.2.2.2.2.2.1 v1.2.2.2.2.2.2.2.1 v1.2.2.2.2.2.2.2.2.1 v1.2.2.2.2.2.2.2.2.2 v1.2.2.2.1 ++ (sW cI uQ aQ Q_x5 Q_x6 Q_x7 Q_x8 Q_x9 Q_r0 Q_r1 Q_r2 Q_r3 Q_r4))) (wr := (lW uL uE uD uT uV uS uP L_x6 L_x7)) (w1 := (tW cI uT aT t3.2.1 t3.2.2.1 t3.2.2.2.1 t3.2.2.2.2.1 t3.2.2.2.2.2.1 t3.2.2.2.2.2.2 t3.1 ++ (sW cI uQ aQ Q_x5 Q_x6 Q_x7 Q_x8 Q_x9 Q_r0 Q_r1 Q_r2 Q_r3 Q_r4))) (ws1 := (lW uL uE uD uT uV uS uP L_x6 L_x7 ++ (tW cI uT aT t3.2.1 t3.2.2.1 t3.2.2.2.1 t3.2.2.2.2.1 t3.2.2.2.2.2.1 t3.2.2.2.2.2.2 t3.1 ++ (sW cI uQ aQ Q_x5 Q_x6 Q_x7 Q_x8 Q_x9 Q_r0 Q_r1 Q_r2 Q_r3 Q_r4)))) (As := [.ref uQ, .int a2, .int a3, .int v1.2.2.1]) (rest := []) (st1 := []) 0 [1, 2, 3, 4, 5, 6, 7, 8] [0] [0, 1, 2, 3, 4, 5, 6, 7, 8] F (kX4_make l D cI cB cS uT aT v1.2.2.2.2.1 v1.2.2.2.2.2.1 v1.2.2.2.2.2.2.1 v1.2.2.2.2.2.2.2.1 v1.2.2.2.2.2.2.2.2.1 v1.2.2.2.2.2.2.2.2.2 v1.2.2.2.1 uQ aQ Q_x5 Q_x6 Q_x7 Q_x8 Q_x9 Q_r0 Q_r1 Q_r2 Q_r3 Q_r4 a2 a3 v1.2.2.1 _ hc4 ) okX4_make w_367 (by decide) (by decide) ⟨Nat.zero_le _, Nat.zero_le _⟩ rfl rfl rfl jP jD jS rfl jl.1 rfl rfl (Nat.le_of_ble_eq_true rfl) dX5_bestPrice_26 rfl rfl (by decide) (by decide) (by decide) rfl (by decide) (fun H locs jP jD jS => ?_)
        refine lv_aload_n hx hb dX5_bestPrice_29 rfl (lv_at jl 0 rfl) ?_
        refine va_get (D := D) (ci := 5) (v := .ref uT) (C := RX5) (T := TX5) (N := 8) hx hb hts in5 hown jK.1 jP 0 rfl rfl 2 (by decide) (hts _ w_24) (fun _ h9 => h9) rfl dX5_bestPrice_30 ?_
        refine lv_iload hx hb dX5_bestPrice_33 (lv_at jl 6 rfl) ?_
        obtain ⟨t5, hc6, hv1⟩ := bd_some hv1
        refine callP (wc := (tW cI uT aT t3.2.1 t3.2.2.1 t3.2.2.2.1 t3.2.2.2.2.1 t3.2.2.2.2.2.1 t3.2.2.2.2.2.2 t3.1)) (wr := (lW uL uE uD uT uV uS uP L_x6 L_x7 ++ (sW cI uQ aQ Q_x5 Q_x6 Q_x7 Q_x8 Q_x9 Q_r0 Q_r1 Q_r2 Q_r3 Q_r4))) (w1 := (tW cI uT aT t3.2.1 t3.2.2.1 t3.2.2.2.1 t3.2.2.2.2.1 t3.2.2.2.2.2.1 t3.2.2.2.2.2.2 t3.1)) (ws1 := (lW uL uE uD uT uV uS uP L_x6 L_x7 ++ (tW cI uT aT t3.2.1 t3.2.2.1 t3.2.2.2.1 t3.2.2.2.2.1 t3.2.2.2.2.2.1 t3.2.2.2.2.2.2 t3.1 ++ (sW cI uQ aQ Q_x5 Q_x6 Q_x7 Q_x8 Q_x9 Q_r0 Q_r1 Q_r2 Q_r3 Q_r4)))) (As := [.int v1.2.2.1]) (rest := []) (st1 := [.int t5]) 0 [1, 2] [0, 3, 4, 5, 6, 7, 8] [0, 7, 8, 1, 2, 3, 4, 5, 6] F (kX4_holdsAt l D cI cB cS uT aT t3.2.1 t3.2.2.1 t3.2.2.2.1 t3.2.2.2.2.1 t3.2.2.2.2.2.1 t3.2.2.2.2.2.2 t3.1 v1.2.2.1 _ hc6 ) okX4_holdsAt w_487 (by decide) (by decide) ⟨Nat.zero_le _, Nat.zero_le _⟩ rfl rfl rfl jP jD jS rfl jl.1 rfl rfl (Nat.le_of_ble_eq_true rfl) dX5_bestPrice_35 rfl rfl (by decide) (by decide) (by decide) rfl (by decide) (fun H locs jP jD jS => ?_)
        obtain ⟨t10, hvt10, hv1⟩ := bd_some hv1
        have hJt10 : ∀ (H : Heap) (locs : List Loc) (ls : Array Slot), va_P D vwCl (lW uL uE uD uT uV uS uP L_x6 L_x7 ++ (tW cI uT aT t3.2.1 t3.2.2.1 t3.2.2.2.1 t3.2.2.2.2.1 t3.2.2.2.2.2.1 t3.2.2.2.2.2.2 t3.1 ++ (sW cI uQ aQ Q_x5 Q_x6 Q_x7 Q_x8 Q_x9 Q_r0 Q_r1 Q_r2 Q_r3 Q_r4))) H → va_D A (lW uL uE uD uT uV uS uP L_x6 L_x7 ++ (tW cI uT aT t3.2.1 t3.2.2.1 t3.2.2.2.1 t3.2.2.2.2.1 t3.2.2.2.2.2.1 t3.2.2.2.2.2.2 t3.1 ++ (sW cI uQ aQ Q_x5 Q_x6 Q_x7 Q_x8 Q_x9 Q_r0 Q_r1 Q_r2 Q_r3 Q_r4))) → va_S A s.heap H locs → lv_has ls 7 [(0, .ref uL), (1, .ref uQ), (2, .int a2), (3, .int a3), (4, .int t10.1), (5, .int t10.2), (6, .int v1.2.2.1)] → W p l e R s m ar below meth c H locs 0 0 QQ (F0 m 73 ls []) := by
          clear jP jD jS jl
          intro H locs ls jP jD jS jl
          refine lv_iinc (v := (v1.2.2.1 + (1 : Int32))) (lv' := [(6, .int (v1.2.2.1 + (1 : Int32))), (0, .ref uL), (1, .ref uQ), (2, .int a2), (3, .int a3), (4, .int t10.1), (5, .int t10.2)]) hx hb dX5_bestPrice_73 jl (k := 6) rfl rfl (by decide) rfl (fun ls jl => ?_)
          refine lv_goto (tgt := 10) hx hb dX5_bestPrice_76 (by decide) ?_
          obtain rfl := Option.some.inj hv1
          exact ih _ (nxt_l hq1) _ _ _ jP jD jS (lv_sub jl [1, 2, 3, 4, 5, 6, 0] rfl)
        clear hv1
        refine lv_if_eq (tgt := 73) hx hb dX5_bestPrice_38 (by decide) (fun c7 => ?_) (fun c7 => ?_)
        · have hvt10 := itp c7 hvt10
          obtain rfl := Option.some.inj hvt10
          exact hJt10 _ _ _ jP jD jS (lv_sub jl [0, 1, 2, 3, 4, 5, 6] rfl)
        · have hvt10 := itn c7 hvt10
          refine lv_iload hx hb dX5_bestPrice_41 (lv_at jl 4 rfl) ?_
          refine lv_bipush (v := (-4 : Int32)) hx hb dX5_bestPrice_43 (by decide) ?_
          refine lv_icmp_eq (tgt := 60) hx hb dX5_bestPrice_45 (by decide) (fun c8 => ?_) (fun c8 => ?_)
          · have hvt10 := itp c8 hvt10
            refine lv_iload hx hb dX5_bestPrice_60 (lv_at jl 6 rfl) ?_
            refine lv_istore (lv' := [(4, .int v1.2.2.1), (0, .ref uL), (1, .ref uQ), (2, .int a2), (3, .int a3), (5, .int v1.2.1), (6, .int v1.2.2.1)]) hx hb dX5_bestPrice_62 jl (by decide) rfl (fun ls jl => ?_)
            refine lv_aload_n hx hb dX5_bestPrice_64 rfl (lv_at jl 1 rfl) ?_
            refine va_get (D := D) (ci := 5) (v := .ref uT) (C := RX5) (T := TX5) (N := 8) hx hb hts in5 hown jK.1 jP 0 rfl rfl 2 (by decide) (hts _ w_24) (fun _ h9 => h9) rfl dX5_bestPrice_65 ?_
            refine va_get (D := D) (ci := 4) (v := .int t3.2.2.2.2.2.1) (C := RX4) (T := TX4) (N := 7) hx hb hts in4 hown jK.1 jP 1 rfl rfl 5 (by decide) (hts _ w_533) (fun _ h9 => h9) rfl dX5_bestPrice_68 ?_
            refine lv_istore (lv' := [(5, .int t3.2.2.2.2.2.1), (4, .int v1.2.2.1), (0, .ref uL), (1, .ref uQ), (2, .int a2), (3, .int a3), (6, .int v1.2.2.1)]) hx hb dX5_bestPrice_71 jl (by decide) rfl (fun ls jl => ?_)
            obtain rfl := Option.some.inj hvt10
            exact hJt10 _ _ _ jP jD jS (lv_sub jl [2, 3, 4, 5, 1, 0, 6] rfl)
          · have hvt10 := itn c8 hvt10
            refine lv_aload_n hx hb dX5_bestPrice_48 rfl (lv_at jl 0 rfl) ?_
            refine va_get (D := D) (ci := 5) (v := .ref uT) (C := RX5) (T := TX5) (N := 8) hx hb hts in5 hown jK.1 jP 0 rfl rfl 2 (by decide) (hts _ w_24) (fun _ h9 => h9) rfl dX5_bestPrice_49 ?_
            refine va_get (D := D) (ci := 4) (v := .int t3.2.2.2.2.2.1) (C := RX4) (T := TX4) (N := 7) hx hb hts in4 hown jK.1 jP 1 rfl rfl 5 (by decide) (hts _ w_533) (fun _ h9 => h9) rfl dX5_bestPrice_52 ?_
            refine lv_iload hx hb dX5_bestPrice_55 (lv_at jl 5 rfl) ?_
            refine lv_icmp_le (tgt := 73) hx hb dX5_bestPrice_57 (by decide) (fun c9 => ?_) (fun c9 => ?_)
            · have hvt10 := itp c9 hvt10
              obtain rfl := Option.some.inj hvt10
              exact hJt10 _ _ _ jP jD jS (lv_sub jl [0, 1, 2, 3, 4, 5, 6] rfl)
            · have hvt10 := itn c9 hvt10
              refine lv_iload hx hb dX5_bestPrice_60 (lv_at jl 6 rfl) ?_
              refine lv_istore (lv' := [(4, .int v1.2.2.1), (0, .ref uL), (1, .ref uQ), (2, .int a2), (3, .int a3), (5, .int v1.2.1), (6, .int v1.2.2.1)]) hx hb dX5_bestPrice_62 jl (by decide) rfl (fun ls jl => ?_)
              refine lv_aload_n hx hb dX5_bestPrice_64 rfl (lv_at jl 1 rfl) ?_
              refine va_get (D := D) (ci := 5) (v := .ref uT) (C := RX5) (T := TX5) (N := 8) hx hb hts in5 hown jK.1 jP 0 rfl rfl 2 (by decide) (hts _ w_24) (fun _ h9 => h9) rfl dX5_bestPrice_65 ?_
              refine va_get (D := D) (ci := 4) (v := .int t3.2.2.2.2.2.1) (C := RX4) (T := TX4) (N := 7) hx hb hts in4 hown jK.1 jP 1 rfl rfl 5 (by decide) (hts _ w_533) (fun _ h9 => h9) rfl dX5_bestPrice_68 ?_
              refine lv_istore (lv' := [(5, .int t3.2.2.2.2.2.1), (4, .int v1.2.2.1), (0, .ref uL), (1, .ref uQ), (2, .int a2), (3, .int a3), (6, .int v1.2.2.1)]) hx hb dX5_bestPrice_71 jl (by decide) rfl (fun ls jl => ?_)
              obtain rfl := Option.some.inj hvt10
              exact hJt10 _ _ _ jP jD jS (lv_sub jl [2, 3, 4, 5, 1, 0, 6] rfl)
  exact hL1 1000 _ hT1 _ _ _ jP jD jS (lv_sub jl [3, 4, 5, 6, 2, 1, 0] rfl)
theorem okX5_comes : okV yX5_comes cX5_comes 5 (some .int) 4 := ⟨w_355, w_356, w_357, w_2, by decide, by decide, by decide +kernel⟩
def fX5_comes (S_r0 : (Nat → Int32)) (S_r1 : (Nat → Int32)) (S_r2 : (Nat → Int32)) (S_r3 : (Nat → Int32)) (S_r4 : (Nat → Int32)) (S_x5 : Int32) (S_x6 : Int32) (S_x7 : Int32) (S_x8 : Int32) (T_r0 : (Nat → Int32)) (T_x1 : Int32) (T_x2 : Int32) (T_x3 : Int32) (T_x4 : Int32) (T_x5 : Int32) (T_x6 : Int32) (a1 : Int32) (a2 : Int32) (a3 : Int32) (a4 : Int32) : Option (Int32 × (Nat → Int32) × Int32 × Int32 × Int32 × Int32 × Int32 × Int32) :=
  bd (fX5_isOffer a1 a2) (fun t1 => if t1 = (0 : Int32) then (some ((-1 : Int32), T_r0, T_x1, T_x2, T_x3, T_x4, T_x5, T_x6)) else (bd (fX5_isPrice a3) (fun t4 => if t4 = (0 : Int32) then (some ((-1 : Int32), T_r0, T_x1, T_x2, T_x3, T_x4, T_x5, T_x6)) else (bd (fX5_isWithin a4 (0 : Int32) (2 : Int32)) (fun t7 => if t7 = (0 : Int32) then (some ((-1 : Int32), T_r0, T_x1, T_x2, T_x3, T_x4, T_x5, T_x6)) else (bd (fX4_make (S_r0) (S_r1) (S_r2) (S_r3) (S_r4) (S_x5) (S_x6) (S_x7) (S_x8) (T_r0) a1 a2 a3) (fun t10 => if a4 = (0 : Int32) then (some (t10.2.1, t10.1, t10.2.1, t10.2.2.1, t10.2.2.2.1, t10.2.2.2.2.1, t10.2.2.2.2.2.1, t10.2.2.2.2.2.2)) else (if a4 = (1 : Int32) then (some (t10.2.2.1, t10.1, t10.2.1, t10.2.2.1, t10.2.2.2.1, t10.2.2.2.2.1, t10.2.2.2.2.2.1, t10.2.2.2.2.2.2)) else (some (t10.2.2.2.1, t10.1, t10.2.1, t10.2.2.1, t10.2.2.2.1, t10.2.2.2.2.1, t10.2.2.2.2.2.1, t10.2.2.2.2.2.2))))))))))
set_option maxRecDepth 100000 in
set_option maxHeartbeats 4000000 in
theorem kX5_comes (l : Launch) (D : va_G) (cI cB cS : ClassId) (uL : Nat) (L_x6 : Int32) (L_x7 : Int32) (uT : Nat) (aT : Nat → Nat) (T_x1 : Int32) (T_x2 : Int32) (T_x3 : Int32) (T_x4 : Int32) (T_x5 : Int32) (T_x6 : Int32) (T_r0 : (Nat → Int32)) (uS : Nat) (aS : Nat → Nat) (S_x5 : Int32) (S_x6 : Int32) (S_x7 : Int32) (S_x8 : Int32) (S_x9 : Int32) (S_r0 : (Nat → Int32)) (S_r1 : (Nat → Int32)) (S_r2 : (Nat → Int32)) (S_r3 : (Nat → Int32)) (S_r4 : (Nat → Int32)) (uE : Nat) (uD : Nat) (uV : Nat) (uP : Nat) (a1 : Int32) (a2 : Int32) (a3 : Int32) (a4 : Int32) (z : (Int32 × (Nat → Int32) × Int32 × Int32 × Int32 × Int32 × Int32 × Int32)) (h : fX5_comes S_r0 S_r1 S_r2 S_r3 S_r4 S_x5 S_x6 S_x7 S_x8 T_r0 T_x1 T_x2 T_x3 T_x4 T_x5 T_x6 a1 a2 a3 a4 = some z) : Mt l yX5_comes cX5_comes 5 (some .int) 3 94 D cI cB cS (lW uL uE uD uT uV uS uP L_x6 L_x7 ++ (tW cI uT aT T_x1 T_x2 T_x3 T_x4 T_x5 T_x6 T_r0 ++ (sW cI uS aS S_x5 S_x6 S_x7 S_x8 S_x9 S_r0 S_r1 S_r2 S_r3 S_r4))) (lW uL uE uD uT uV uS uP L_x6 L_x7 ++ (tW cI uT aT z.2.2.1 z.2.2.2.1 z.2.2.2.2.1 z.2.2.2.2.2.1 z.2.2.2.2.2.2.1 z.2.2.2.2.2.2.2 z.2.1 ++ (sW cI uS aS S_x5 S_x6 S_x7 S_x8 S_x9 S_r0 S_r1 S_r2 S_r3 S_r4))) [.ref uL, .int a1, .int a2, .int a3, .int a4] (some (.int z.1)) := by
  refine entryI (by decide +kernel) rfl (Nat.le_of_ble_eq_true rfl) ?_
  intro p e s m below meth c A ls QQ R ar F hRet jP jD jS jl
  obtain ⟨hx, hb, hml, hown, hts, jK, hA, hf1, hf2⟩ := id F
  have jl : lv_has ls 5 [(0, .ref uL), (1, .int a1), (2, .int a2), (3, .int a3), (4, .int a4)] := jl
  unfold fX5_comes at h
  refine lv_iload_n hx hb dX5_comes_0 rfl (lv_at jl 1 rfl) ?_
  refine lv_iload_n hx hb dX5_comes_1 rfl (lv_at jl 2 rfl) ?_
  obtain ⟨t1, hc2, h⟩ := bd_some h
  refine call0 (As := [.int a1, .int a2]) (rest := []) (st1 := [.int t1]) F (kX5_isOffer l D cI cB cS  a1 a2 _ hc2 ) okX5_isOffer w_361 (by decide) (by decide) ⟨Nat.zero_le _, Nat.zero_le _⟩ jP jD jS rfl jl.1 rfl rfl (Nat.le_of_ble_eq_true rfl) dX5_comes_2 (fun H locs jP jD jS => ?_)
  refine lv_if_eq (tgt := 25) hx hb dX5_comes_5 (by decide) (fun c3 => ?_) (fun c3 => ?_)
  · have h := itp c3 h
    refine lv_iconst (v := (-1 : Int32)) hx hb dX5_comes_25 (by decide) ?_
    obtain rfl := Option.some.inj h
    exact hRet _ _ _ _ jP jD jS dX5_comes_26
  · have h := itn c3 h
    refine lv_iload_n hx hb dX5_comes_8 rfl (lv_at jl 3 rfl) ?_
    obtain ⟨t4, hc5, h⟩ := bd_some h
    refine call0 (As := [.int a3]) (rest := []) (st1 := [.int t4]) F (kX5_isPrice l D cI cB cS  a3 _ hc5 ) okX5_isPrice w_364 (by decide) (by decide) ⟨Nat.zero_le _, Nat.zero_le _⟩ jP jD jS rfl jl.1 rfl rfl (Nat.le_of_ble_eq_true rfl) dX5_comes_9 (fun H locs jP jD jS => ?_)
    refine lv_if_eq (tgt := 25) hx hb dX5_comes_12 (by decide) (fun c6 => ?_) (fun c6 => ?_)
    · have h := itp c6 h
      refine lv_iconst (v := (-1 : Int32)) hx hb dX5_comes_25 (by decide) ?_
      obtain rfl := Option.some.inj h
      exact hRet _ _ _ _ jP jD jS dX5_comes_26
    · have h := itn c6 h
      refine lv_iload hx hb dX5_comes_15 (lv_at jl 4 rfl) ?_
      refine lv_iconst (v := (0 : Int32)) hx hb dX5_comes_17 (by decide) ?_
      refine lv_iconst (v := (2 : Int32)) hx hb dX5_comes_18 (by decide) ?_
      obtain ⟨t7, hc8, h⟩ := bd_some h
      refine call0 (As := [.int a4, .int (0 : Int32), .int (2 : Int32)]) (rest := []) (st1 := [.int t7]) F (kX5_isWithin l D cI cB cS  a4 (0 : Int32) (2 : Int32) _ hc8 ) okX5_isWithin w_105 (by decide) (by decide) ⟨Nat.zero_le _, Nat.zero_le _⟩ jP jD jS rfl jl.1 rfl rfl (Nat.le_of_ble_eq_true rfl) dX5_comes_19 (fun H locs jP jD jS => ?_)
      refine lv_if_ne (tgt := 27) hx hb dX5_comes_22 (by decide) (fun c9 => ?_) (fun c9 => ?_)
      · have h := itn c9 h
        refine lv_aload_n hx hb dX5_comes_27 rfl (lv_at jl 0 rfl) ?_
        refine va_get (D := D) (ci := 5) (v := .ref uT) (C := RX5) (T := TX5) (N := 8) hx hb hts in5 hown jK.1 jP 0 rfl rfl 2 (by decide) (hts _ w_24) (fun _ h9 => h9) rfl dX5_comes_28 ?_
        refine lv_aload_n hx hb dX5_comes_31 rfl (lv_at jl 0 rfl) ?_
        refine va_get (D := D) (ci := 5) (v := .ref uS) (C := RX5) (T := TX5) (N := 8) hx hb hts in5 hown jK.1 jP 0 rfl rfl 4 (by decide) (hts _ w_32) (fun _ h9 => h9) rfl dX5_comes_32 ?_
        refine lv_iload_n hx hb dX5_comes_35 rfl (lv_at jl 1 rfl) ?_
        refine lv_iload_n hx hb dX5_comes_36 rfl (lv_at jl 2 rfl) ?_
        refine lv_iload_n hx hb dX5_comes_37 rfl (lv_at jl 3 rfl) ?_
        obtain ⟨t10, hc11, h⟩ := bd_some h
        refine callP (wc := (tW cI uT aT T_x1 T_x2 T_x3 T_x4 T_x5 T_x6 T_r0 ++ (sW cI uS aS S_x5 S_x6 S_x7 S_x8 S_x9 S_r0 S_r1 S_r2 S_r3 S_r4))) (wr := (lW uL uE uD uT uV uS uP L_x6 L_x7)) (w1 := (tW cI uT aT t10.2.1 t10.2.2.1 t10.2.2.2.1 t10.2.2.2.2.1 t10.2.2.2.2.2.1 t10.2.2.2.2.2.2 t10.1 ++ (sW cI uS aS S_x5 S_x6 S_x7 S_x8 S_x9 S_r0 S_r1 S_r2 S_r3 S_r4))) (ws1 := (lW uL uE uD uT uV uS uP L_x6 L_x7 ++ (tW cI uT aT t10.2.1 t10.2.2.1 t10.2.2.2.1 t10.2.2.2.2.1 t10.2.2.2.2.2.1 t10.2.2.2.2.2.2 t10.1 ++ (sW cI uS aS S_x5 S_x6 S_x7 S_x8 S_x9 S_r0 S_r1 S_r2 S_r3 S_r4)))) (As := [.ref uS, .int a1, .int a2, .int a3]) (rest := []) (st1 := []) 0 [1, 2, 3, 4, 5, 6, 7, 8] [0] [0, 1, 2, 3, 4, 5, 6, 7, 8] F (kX4_make l D cI cB cS uT aT T_x1 T_x2 T_x3 T_x4 T_x5 T_x6 T_r0 uS aS S_x5 S_x6 S_x7 S_x8 S_x9 S_r0 S_r1 S_r2 S_r3 S_r4 a1 a2 a3 _ hc11 ) okX4_make w_367 (by decide) (by decide) ⟨Nat.zero_le _, Nat.zero_le _⟩ rfl rfl rfl jP jD jS rfl jl.1 rfl rfl (Nat.le_of_ble_eq_true rfl) dX5_comes_38 rfl rfl (by decide) (by decide) (by decide) rfl (by decide) (fun H locs jP jD jS => ?_)
        refine lv_iload hx hb dX5_comes_41 (lv_at jl 4 rfl) ?_
        refine lv_if_ne (tgt := 54) hx hb dX5_comes_43 (by decide) (fun c12 => ?_) (fun c12 => ?_)
        · have h := itn c12 h
          refine lv_iload hx hb dX5_comes_54 (lv_at jl 4 rfl) ?_
          refine lv_iconst (v := (1 : Int32)) hx hb dX5_comes_56 (by decide) ?_
          refine lv_icmp_ne (tgt := 70) hx hb dX5_comes_57 (by decide) (fun c13 => ?_) (fun c13 => ?_)
          · have h := itn c13 h
            refine lv_aload_n hx hb dX5_comes_70 rfl (lv_at jl 0 rfl) ?_
            refine va_get (D := D) (ci := 5) (v := .ref uT) (C := RX5) (T := TX5) (N := 8) hx hb hts in5 hown jK.1 jP 0 rfl rfl 2 (by decide) (hts _ w_24) (fun _ h9 => h9) rfl dX5_comes_71 ?_
            refine va_get (D := D) (ci := 4) (v := .int t10.2.2.2.1) (C := RX4) (T := TX4) (N := 7) hx hb hts in4 hown jK.1 jP 1 rfl rfl 3 (by decide) (hts _ w_360) (fun _ h9 => h9) rfl dX5_comes_74 ?_
            obtain rfl := Option.some.inj h
            exact hRet _ _ _ _ jP jD jS dX5_comes_77
          · have h := itp c13 h
            refine lv_aload_n hx hb dX5_comes_60 rfl (lv_at jl 0 rfl) ?_
            refine va_get (D := D) (ci := 5) (v := .ref uT) (C := RX5) (T := TX5) (N := 8) hx hb hts in5 hown jK.1 jP 0 rfl rfl 2 (by decide) (hts _ w_24) (fun _ h9 => h9) rfl dX5_comes_61 ?_
            refine va_get (D := D) (ci := 4) (v := .int t10.2.2.1) (C := RX4) (T := TX4) (N := 7) hx hb hts in4 hown jK.1 jP 1 rfl rfl 2 (by decide) (hts _ w_359) (fun _ h9 => h9) rfl dX5_comes_64 ?_
            refine lv_goto (tgt := 77) hx hb dX5_comes_67 (by decide) ?_
            obtain rfl := Option.some.inj h
            exact hRet _ _ _ _ jP jD jS dX5_comes_77
        · have h := itp c12 h
          refine lv_aload_n hx hb dX5_comes_46 rfl (lv_at jl 0 rfl) ?_
          refine va_get (D := D) (ci := 5) (v := .ref uT) (C := RX5) (T := TX5) (N := 8) hx hb hts in5 hown jK.1 jP 0 rfl rfl 2 (by decide) (hts _ w_24) (fun _ h9 => h9) rfl dX5_comes_47 ?_
          refine va_get (D := D) (ci := 4) (v := .int t10.2.1) (C := RX4) (T := TX4) (N := 7) hx hb hts in4 hown jK.1 jP 1 rfl rfl 1 (by decide) (hts _ w_358) (fun _ h9 => h9) rfl dX5_comes_50 ?_
          obtain rfl := Option.some.inj h
          exact hRet _ _ _ _ jP jD jS dX5_comes_53
      · have h := itp c9 h
        refine lv_iconst (v := (-1 : Int32)) hx hb dX5_comes_25 (by decide) ?_
        obtain rfl := Option.some.inj h
        exact hRet _ _ _ _ jP jD jS dX5_comes_26
theorem okX5_sold : okV yX5_sold cX5_sold 5 (some .int) 4 := ⟨w_448, w_449, w_450, w_2, by decide, by decide, by decide +kernel⟩
def fX5_sold (S_r0 : (Nat → Int32)) (S_r1 : (Nat → Int32)) (S_r2 : (Nat → Int32)) (S_r3 : (Nat → Int32)) (S_r4 : (Nat → Int32)) (S_x5 : Int32) (S_x6 : Int32) (S_x7 : Int32) (S_x8 : Int32) (T_r0 : (Nat → Int32)) (T_x1 : Int32) (T_x2 : Int32) (T_x3 : Int32) (T_x4 : Int32) (T_x5 : Int32) (T_x6 : Int32) (a1 : Int32) (a2 : Int32) (a3 : Int32) (a4 : Int32) : Option (Int32 × (Nat → Int32) × Int32 × Int32 × Int32 × Int32 × Int32 × Int32) :=
  bd (fX5_isOffer a1 a2) (fun t1 => if t1 = (0 : Int32) then (some ((-1 : Int32), T_r0, T_x1, T_x2, T_x3, T_x4, T_x5, T_x6)) else (bd (fX5_isPrice a3) (fun t4 => if t4 = (0 : Int32) then (some ((-1 : Int32), T_r0, T_x1, T_x2, T_x3, T_x4, T_x5, T_x6)) else (bd (fX5_isSort (S_x5) a4) (fun t7 => if t7 = (0 : Int32) then (some ((-1 : Int32), T_r0, T_x1, T_x2, T_x3, T_x4, T_x5, T_x6)) else (bd (fX4_make (S_r0) (S_r1) (S_r2) (S_r3) (S_r4) (S_x5) (S_x6) (S_x7) (S_x8) (T_r0) a1 a2 a3) (fun t10 => ckI a4 8 (some ((t10.1 a4.toNatClampNeg), t10.1, t10.2.1, t10.2.2.1, t10.2.2.2.1, t10.2.2.2.2.1, t10.2.2.2.2.2.1, t10.2.2.2.2.2.2)))))))))
set_option maxRecDepth 100000 in
set_option maxHeartbeats 4000000 in
theorem kX5_sold (l : Launch) (D : va_G) (cI cB cS : ClassId) (uL : Nat) (L_x6 : Int32) (L_x7 : Int32) (uT : Nat) (aT : Nat → Nat) (T_x1 : Int32) (T_x2 : Int32) (T_x3 : Int32) (T_x4 : Int32) (T_x5 : Int32) (T_x6 : Int32) (T_r0 : (Nat → Int32)) (uS : Nat) (aS : Nat → Nat) (S_x5 : Int32) (S_x6 : Int32) (S_x7 : Int32) (S_x8 : Int32) (S_x9 : Int32) (S_r0 : (Nat → Int32)) (S_r1 : (Nat → Int32)) (S_r2 : (Nat → Int32)) (S_r3 : (Nat → Int32)) (S_r4 : (Nat → Int32)) (uE : Nat) (uD : Nat) (uV : Nat) (uP : Nat) (a1 : Int32) (a2 : Int32) (a3 : Int32) (a4 : Int32) (z : (Int32 × (Nat → Int32) × Int32 × Int32 × Int32 × Int32 × Int32 × Int32)) (h : fX5_sold S_r0 S_r1 S_r2 S_r3 S_r4 S_x5 S_x6 S_x7 S_x8 T_r0 T_x1 T_x2 T_x3 T_x4 T_x5 T_x6 a1 a2 a3 a4 = some z) : Mt l yX5_sold cX5_sold 5 (some .int) 3 94 D cI cB cS (lW uL uE uD uT uV uS uP L_x6 L_x7 ++ (tW cI uT aT T_x1 T_x2 T_x3 T_x4 T_x5 T_x6 T_r0 ++ (sW cI uS aS S_x5 S_x6 S_x7 S_x8 S_x9 S_r0 S_r1 S_r2 S_r3 S_r4))) (lW uL uE uD uT uV uS uP L_x6 L_x7 ++ (tW cI uT aT z.2.2.1 z.2.2.2.1 z.2.2.2.2.1 z.2.2.2.2.2.1 z.2.2.2.2.2.2.1 z.2.2.2.2.2.2.2 z.2.1 ++ (sW cI uS aS S_x5 S_x6 S_x7 S_x8 S_x9 S_r0 S_r1 S_r2 S_r3 S_r4))) [.ref uL, .int a1, .int a2, .int a3, .int a4] (some (.int z.1)) := by
  refine entryI (by decide +kernel) rfl (Nat.le_of_ble_eq_true rfl) ?_
  intro p e s m below meth c A ls QQ R ar F hRet jP jD jS jl
  obtain ⟨hx, hb, hml, hown, hts, jK, hA, hf1, hf2⟩ := id F
  have jl : lv_has ls 5 [(0, .ref uL), (1, .int a1), (2, .int a2), (3, .int a3), (4, .int a4)] := jl
  unfold fX5_sold at h
  refine lv_iload_n hx hb dX5_sold_0 rfl (lv_at jl 1 rfl) ?_
  refine lv_iload_n hx hb dX5_sold_1 rfl (lv_at jl 2 rfl) ?_
  obtain ⟨t1, hc2, h⟩ := bd_some h
  refine call0 (As := [.int a1, .int a2]) (rest := []) (st1 := [.int t1]) F (kX5_isOffer l D cI cB cS  a1 a2 _ hc2 ) okX5_isOffer w_361 (by decide) (by decide) ⟨Nat.zero_le _, Nat.zero_le _⟩ jP jD jS rfl jl.1 rfl rfl (Nat.le_of_ble_eq_true rfl) dX5_sold_2 (fun H locs jP jD jS => ?_)
  refine lv_if_eq (tgt := 24) hx hb dX5_sold_5 (by decide) (fun c3 => ?_) (fun c3 => ?_)
  · have h := itp c3 h
    refine lv_iconst (v := (-1 : Int32)) hx hb dX5_sold_24 (by decide) ?_
    obtain rfl := Option.some.inj h
    exact hRet _ _ _ _ jP jD jS dX5_sold_25
  · have h := itn c3 h
    refine lv_iload_n hx hb dX5_sold_8 rfl (lv_at jl 3 rfl) ?_
    obtain ⟨t4, hc5, h⟩ := bd_some h
    refine call0 (As := [.int a3]) (rest := []) (st1 := [.int t4]) F (kX5_isPrice l D cI cB cS  a3 _ hc5 ) okX5_isPrice w_364 (by decide) (by decide) ⟨Nat.zero_le _, Nat.zero_le _⟩ jP jD jS rfl jl.1 rfl rfl (Nat.le_of_ble_eq_true rfl) dX5_sold_9 (fun H locs jP jD jS => ?_)
    refine lv_if_eq (tgt := 24) hx hb dX5_sold_12 (by decide) (fun c6 => ?_) (fun c6 => ?_)
    · have h := itp c6 h
      refine lv_iconst (v := (-1 : Int32)) hx hb dX5_sold_24 (by decide) ?_
      obtain rfl := Option.some.inj h
      exact hRet _ _ _ _ jP jD jS dX5_sold_25
    · have h := itn c6 h
      refine lv_aload_n hx hb dX5_sold_15 rfl (lv_at jl 0 rfl) ?_
      refine lv_iload hx hb dX5_sold_16 (lv_at jl 4 rfl) ?_
      obtain ⟨t7, hc8, h⟩ := bd_some h
      refine callP (wc := (lW uL uE uD uT uV uS uP L_x6 L_x7 ++ (sW cI uS aS S_x5 S_x6 S_x7 S_x8 S_x9 S_r0 S_r1 S_r2 S_r3 S_r4))) (wr := (tW cI uT aT T_x1 T_x2 T_x3 T_x4 T_x5 T_x6 T_r0)) (w1 := (lW uL uE uD uT uV uS uP L_x6 L_x7 ++ (sW cI uS aS S_x5 S_x6 S_x7 S_x8 S_x9 S_r0 S_r1 S_r2 S_r3 S_r4))) (ws1 := (lW uL uE uD uT uV uS uP L_x6 L_x7 ++ (tW cI uT aT T_x1 T_x2 T_x3 T_x4 T_x5 T_x6 T_r0 ++ (sW cI uS aS S_x5 S_x6 S_x7 S_x8 S_x9 S_r0 S_r1 S_r2 S_r3 S_r4)))) (As := [.int a4]) (rest := []) (st1 := [.int t7]) 0 [0, 3, 4, 5, 6, 7, 8] [1, 2] [2, 0, 1, 3, 4, 5, 6, 7, 8] F (kX5_isSort l D cI cB cS uL L_x6 L_x7 uS aS S_x5 S_x6 S_x7 S_x8 S_x9 S_r0 S_r1 S_r2 S_r3 S_r4 uE uD uT uV uP a4 _ hc8 ) okX5_isSort w_295 (by decide) (by decide) ⟨Nat.zero_le _, Nat.zero_le _⟩ rfl rfl rfl jP jD jS rfl jl.1 rfl rfl (Nat.le_of_ble_eq_true rfl) dX5_sold_18 rfl rfl (by decide) (by decide) (by decide) rfl (by decide) (fun H locs jP jD jS => ?_)
      refine lv_if_ne (tgt := 26) hx hb dX5_sold_21 (by decide) (fun c9 => ?_) (fun c9 => ?_)
      · have h := itn c9 h
        refine lv_aload_n hx hb dX5_sold_26 rfl (lv_at jl 0 rfl) ?_
        refine va_get (D := D) (ci := 5) (v := .ref uT) (C := RX5) (T := TX5) (N := 8) hx hb hts in5 hown jK.1 jP 0 rfl rfl 2 (by decide) (hts _ w_24) (fun _ h9 => h9) rfl dX5_sold_27 ?_
        refine lv_aload_n hx hb dX5_sold_30 rfl (lv_at jl 0 rfl) ?_
        refine va_get (D := D) (ci := 5) (v := .ref uS) (C := RX5) (T := TX5) (N := 8) hx hb hts in5 hown jK.1 jP 0 rfl rfl 4 (by decide) (hts _ w_32) (fun _ h9 => h9) rfl dX5_sold_31 ?_
        refine lv_iload_n hx hb dX5_sold_34 rfl (lv_at jl 1 rfl) ?_
        refine lv_iload_n hx hb dX5_sold_35 rfl (lv_at jl 2 rfl) ?_
        refine lv_iload_n hx hb dX5_sold_36 rfl (lv_at jl 3 rfl) ?_
        obtain ⟨t10, hc11, h⟩ := bd_some h
        refine callP (wc := (tW cI uT aT T_x1 T_x2 T_x3 T_x4 T_x5 T_x6 T_r0 ++ (sW cI uS aS S_x5 S_x6 S_x7 S_x8 S_x9 S_r0 S_r1 S_r2 S_r3 S_r4))) (wr := (lW uL uE uD uT uV uS uP L_x6 L_x7)) (w1 := (tW cI uT aT t10.2.1 t10.2.2.1 t10.2.2.2.1 t10.2.2.2.2.1 t10.2.2.2.2.2.1 t10.2.2.2.2.2.2 t10.1 ++ (sW cI uS aS S_x5 S_x6 S_x7 S_x8 S_x9 S_r0 S_r1 S_r2 S_r3 S_r4))) (ws1 := (lW uL uE uD uT uV uS uP L_x6 L_x7 ++ (tW cI uT aT t10.2.1 t10.2.2.1 t10.2.2.2.1 t10.2.2.2.2.1 t10.2.2.2.2.2.1 t10.2.2.2.2.2.2 t10.1 ++ (sW cI uS aS S_x5 S_x6 S_x7 S_x8 S_x9 S_r0 S_r1 S_r2 S_r3 S_r4)))) (As := [.ref uS, .int a1, .int a2, .int a3]) (rest := []) (st1 := []) 0 [1, 2, 3, 4, 5, 6, 7, 8] [0] [0, 1, 2, 3, 4, 5, 6, 7, 8] F (kX4_make l D cI cB cS uT aT T_x1 T_x2 T_x3 T_x4 T_x5 T_x6 T_r0 uS aS S_x5 S_x6 S_x7 S_x8 S_x9 S_r0 S_r1 S_r2 S_r3 S_r4 a1 a2 a3 _ hc11 ) okX4_make w_367 (by decide) (by decide) ⟨Nat.zero_le _, Nat.zero_le _⟩ rfl rfl rfl jP jD jS rfl jl.1 rfl rfl (Nat.le_of_ble_eq_true rfl) dX5_sold_37 rfl rfl (by decide) (by decide) (by decide) rfl (by decide) (fun H locs jP jD jS => ?_)
        refine lv_aload_n hx hb dX5_sold_40 rfl (lv_at jl 0 rfl) ?_
        refine va_get (D := D) (ci := 5) (v := .ref uT) (C := RX5) (T := TX5) (N := 8) hx hb hts in5 hown jK.1 jP 0 rfl rfl 2 (by decide) (hts _ w_24) (fun _ h9 => h9) rfl dX5_sold_41 ?_
        refine va_get (D := D) (ci := 4) (v := .ref (aT 0)) (C := RX4) (T := TX4) (N := 7) hx hb hts in4 hown jK.1 jP 1 rfl rfl 0 (by decide) (hts _ w_451) (fun _ h9 => h9) rfl dX5_sold_44 ?_
        refine lv_iload hx hb dX5_sold_47 (lv_at jl 4 rfl) ?_
        obtain ⟨hin, h⟩ := ckI_some h
        refine va_iald (f := t10.1) hx hb jK.1 jP 2 0 rfl rfl hin dX5_sold_49 ?_
        obtain rfl := Option.some.inj h
        exact hRet _ _ _ _ jP jD jS dX5_sold_50
      · have h := itp c9 h
        refine lv_iconst (v := (-1 : Int32)) hx hb dX5_sold_24 (by decide) ?_
        obtain rfl := Option.some.inj h
        exact hRet _ _ _ _ jP jD jS dX5_sold_25
theorem okX5_thought : okV yX5_thought cX5_thought 6 (some .int) 4 := ⟨w_457, w_458, w_459, w_2, by decide, by decide, by decide +kernel⟩
def fX5_thought (S_r0 : (Nat → Int32)) (S_r1 : (Nat → Int32)) (S_r2 : (Nat → Int32)) (S_r3 : (Nat → Int32)) (S_r4 : (Nat → Int32)) (S_x5 : Int32) (S_x6 : Int32) (S_x7 : Int32) (S_x8 : Int32) (T_r0 : (Nat → Int32)) (T_x1 : Int32) (T_x2 : Int32) (T_x3 : Int32) (T_x4 : Int32) (T_x5 : Int32) (T_x6 : Int32) (a1 : Int32) (a2 : Int32) (a3 : Int32) (a4 : Int32) : Option (Int32 × (Nat → Int32) × Int32 × Int32 × Int32 × Int32 × Int32 × Int32) :=
  bd (fX5_isOffer a1 a2) (fun t1 => if t1 = (0 : Int32) then (some ((-1000000000 : Int32), T_r0, T_x1, T_x2, T_x3, T_x4, T_x5, T_x6)) else (bd (fX5_isPrice a3) (fun t4 => if t4 = (0 : Int32) then (some ((-1000000000 : Int32), T_r0, T_x1, T_x2, T_x3, T_x4, T_x5, T_x6)) else (bd (fX5_isWithin a4 (0 : Int32) (1 : Int32)) (fun t7 => if t7 = (0 : Int32) then (some ((-1000000000 : Int32), T_r0, T_x1, T_x2, T_x3, T_x4, T_x5, T_x6)) else (bd (fX4_make (S_r0) (S_r1) (S_r2) (S_r3) (S_r4) (S_x5) (S_x6) (S_x7) (S_x8) (T_r0) a1 a2 a3) (fun t10 => if (0 : Int32) < t10.2.2.2.1 then (bd (fX4_shares t10.2.2.2.1) (fun t13 => bd (fX5_greatestDivisor (if 0 ≤ t10.2.2.2.2.1 then t10.2.2.2.2.1 else 0 - t10.2.2.2.2.1) t13) (fun t15 => bd (if a4 = (0 : Int32) then some t10.2.2.2.2.1 else (bd (fX4_shares t10.2.2.2.1) (fun t18 => some t18))) (fun t20 => ckN t15 (some ((t20 / t15), t10.1, t10.2.1, t10.2.2.1, t10.2.2.2.1, t10.2.2.2.2.1, t10.2.2.2.2.2.1, t10.2.2.2.2.2.2)))))) else (some ((-1000000004 : Int32), t10.1, t10.2.1, t10.2.2.1, t10.2.2.2.1, t10.2.2.2.2.1, t10.2.2.2.2.2.1, t10.2.2.2.2.2.2)))))))))
set_option maxRecDepth 100000 in
set_option maxHeartbeats 4000000 in
theorem kX5_thought (l : Launch) (D : va_G) (cI cB cS : ClassId) (uL : Nat) (L_x6 : Int32) (L_x7 : Int32) (uT : Nat) (aT : Nat → Nat) (T_x1 : Int32) (T_x2 : Int32) (T_x3 : Int32) (T_x4 : Int32) (T_x5 : Int32) (T_x6 : Int32) (T_r0 : (Nat → Int32)) (uS : Nat) (aS : Nat → Nat) (S_x5 : Int32) (S_x6 : Int32) (S_x7 : Int32) (S_x8 : Int32) (S_x9 : Int32) (S_r0 : (Nat → Int32)) (S_r1 : (Nat → Int32)) (S_r2 : (Nat → Int32)) (S_r3 : (Nat → Int32)) (S_r4 : (Nat → Int32)) (uE : Nat) (uD : Nat) (uV : Nat) (uP : Nat) (a1 : Int32) (a2 : Int32) (a3 : Int32) (a4 : Int32) (z : (Int32 × (Nat → Int32) × Int32 × Int32 × Int32 × Int32 × Int32 × Int32)) (h : fX5_thought S_r0 S_r1 S_r2 S_r3 S_r4 S_x5 S_x6 S_x7 S_x8 T_r0 T_x1 T_x2 T_x3 T_x4 T_x5 T_x6 a1 a2 a3 a4 = some z) : Mt l yX5_thought cX5_thought 6 (some .int) 3 94 D cI cB cS (lW uL uE uD uT uV uS uP L_x6 L_x7 ++ (tW cI uT aT T_x1 T_x2 T_x3 T_x4 T_x5 T_x6 T_r0 ++ (sW cI uS aS S_x5 S_x6 S_x7 S_x8 S_x9 S_r0 S_r1 S_r2 S_r3 S_r4))) (lW uL uE uD uT uV uS uP L_x6 L_x7 ++ (tW cI uT aT z.2.2.1 z.2.2.2.1 z.2.2.2.2.1 z.2.2.2.2.2.1 z.2.2.2.2.2.2.1 z.2.2.2.2.2.2.2 z.2.1 ++ (sW cI uS aS S_x5 S_x6 S_x7 S_x8 S_x9 S_r0 S_r1 S_r2 S_r3 S_r4))) [.ref uL, .int a1, .int a2, .int a3, .int a4] (some (.int z.1)) := by
  refine entryI (by decide +kernel) rfl (Nat.le_of_ble_eq_true rfl) ?_
  intro p e s m below meth c A ls QQ R ar F hRet jP jD jS jl
  obtain ⟨hx, hb, hml, hown, hts, jK, hA, hf1, hf2⟩ := id F
  have jl : lv_has ls 6 [(0, .ref uL), (1, .int a1), (2, .int a2), (3, .int a3), (4, .int a4)] := jl
  unfold fX5_thought at h
  refine lv_iload_n hx hb dX5_thought_0 rfl (lv_at jl 1 rfl) ?_
  refine lv_iload_n hx hb dX5_thought_1 rfl (lv_at jl 2 rfl) ?_
  obtain ⟨t1, hc2, h⟩ := bd_some h
  refine call0 (As := [.int a1, .int a2]) (rest := []) (st1 := [.int t1]) F (kX5_isOffer l D cI cB cS  a1 a2 _ hc2 ) okX5_isOffer w_361 (by decide) (by decide) ⟨Nat.zero_le _, Nat.zero_le _⟩ jP jD jS rfl jl.1 rfl rfl (Nat.le_of_ble_eq_true rfl) dX5_thought_2 (fun H locs jP jD jS => ?_)
  refine lv_if_eq (tgt := 25) hx hb dX5_thought_5 (by decide) (fun c3 => ?_) (fun c3 => ?_)
  · have h := itp c3 h
    refine lv_ldc (v := (-1000000000 : Int32)) hx hb hown (hts _ w_460) dX5_thought_25 ?_
    obtain rfl := Option.some.inj h
    exact hRet _ _ _ _ jP jD jS dX5_thought_27
  · have h := itn c3 h
    refine lv_iload_n hx hb dX5_thought_8 rfl (lv_at jl 3 rfl) ?_
    obtain ⟨t4, hc5, h⟩ := bd_some h
    refine call0 (As := [.int a3]) (rest := []) (st1 := [.int t4]) F (kX5_isPrice l D cI cB cS  a3 _ hc5 ) okX5_isPrice w_364 (by decide) (by decide) ⟨Nat.zero_le _, Nat.zero_le _⟩ jP jD jS rfl jl.1 rfl rfl (Nat.le_of_ble_eq_true rfl) dX5_thought_9 (fun H locs jP jD jS => ?_)
    refine lv_if_eq (tgt := 25) hx hb dX5_thought_12 (by decide) (fun c6 => ?_) (fun c6 => ?_)
    · have h := itp c6 h
      refine lv_ldc (v := (-1000000000 : Int32)) hx hb hown (hts _ w_460) dX5_thought_25 ?_
      obtain rfl := Option.some.inj h
      exact hRet _ _ _ _ jP jD jS dX5_thought_27
    · have h := itn c6 h
      refine lv_iload hx hb dX5_thought_15 (lv_at jl 4 rfl) ?_
      refine lv_iconst (v := (0 : Int32)) hx hb dX5_thought_17 (by decide) ?_
      refine lv_iconst (v := (1 : Int32)) hx hb dX5_thought_18 (by decide) ?_
      obtain ⟨t7, hc8, h⟩ := bd_some h
      refine call0 (As := [.int a4, .int (0 : Int32), .int (1 : Int32)]) (rest := []) (st1 := [.int t7]) F (kX5_isWithin l D cI cB cS  a4 (0 : Int32) (1 : Int32) _ hc8 ) okX5_isWithin w_105 (by decide) (by decide) ⟨Nat.zero_le _, Nat.zero_le _⟩ jP jD jS rfl jl.1 rfl rfl (Nat.le_of_ble_eq_true rfl) dX5_thought_19 (fun H locs jP jD jS => ?_)
      refine lv_if_ne (tgt := 28) hx hb dX5_thought_22 (by decide) (fun c9 => ?_) (fun c9 => ?_)
      · have h := itn c9 h
        refine lv_aload_n hx hb dX5_thought_28 rfl (lv_at jl 0 rfl) ?_
        refine va_get (D := D) (ci := 5) (v := .ref uT) (C := RX5) (T := TX5) (N := 8) hx hb hts in5 hown jK.1 jP 0 rfl rfl 2 (by decide) (hts _ w_24) (fun _ h9 => h9) rfl dX5_thought_29 ?_
        refine lv_aload_n hx hb dX5_thought_32 rfl (lv_at jl 0 rfl) ?_
        refine va_get (D := D) (ci := 5) (v := .ref uS) (C := RX5) (T := TX5) (N := 8) hx hb hts in5 hown jK.1 jP 0 rfl rfl 4 (by decide) (hts _ w_32) (fun _ h9 => h9) rfl dX5_thought_33 ?_
        refine lv_iload_n hx hb dX5_thought_36 rfl (lv_at jl 1 rfl) ?_
        refine lv_iload_n hx hb dX5_thought_37 rfl (lv_at jl 2 rfl) ?_
        refine lv_iload_n hx hb dX5_thought_38 rfl (lv_at jl 3 rfl) ?_
        obtain ⟨t10, hc11, h⟩ := bd_some h
        refine callP (wc := (tW cI uT aT T_x1 T_x2 T_x3 T_x4 T_x5 T_x6 T_r0 ++ (sW cI uS aS S_x5 S_x6 S_x7 S_x8 S_x9 S_r0 S_r1 S_r2 S_r3 S_r4))) (wr := (lW uL uE uD uT uV uS uP L_x6 L_x7)) (w1 := (tW cI uT aT t10.2.1 t10.2.2.1 t10.2.2.2.1 t10.2.2.2.2.1 t10.2.2.2.2.2.1 t10.2.2.2.2.2.2 t10.1 ++ (sW cI uS aS S_x5 S_x6 S_x7 S_x8 S_x9 S_r0 S_r1 S_r2 S_r3 S_r4))) (ws1 := (lW uL uE uD uT uV uS uP L_x6 L_x7 ++ (tW cI uT aT t10.2.1 t10.2.2.1 t10.2.2.2.1 t10.2.2.2.2.1 t10.2.2.2.2.2.1 t10.2.2.2.2.2.2 t10.1 ++ (sW cI uS aS S_x5 S_x6 S_x7 S_x8 S_x9 S_r0 S_r1 S_r2 S_r3 S_r4)))) (As := [.ref uS, .int a1, .int a2, .int a3]) (rest := []) (st1 := []) 0 [1, 2, 3, 4, 5, 6, 7, 8] [0] [0, 1, 2, 3, 4, 5, 6, 7, 8] F (kX4_make l D cI cB cS uT aT T_x1 T_x2 T_x3 T_x4 T_x5 T_x6 T_r0 uS aS S_x5 S_x6 S_x7 S_x8 S_x9 S_r0 S_r1 S_r2 S_r3 S_r4 a1 a2 a3 _ hc11 ) okX4_make w_367 (by decide) (by decide) ⟨Nat.zero_le _, Nat.zero_le _⟩ rfl rfl rfl jP jD jS rfl jl.1 rfl rfl (Nat.le_of_ble_eq_true rfl) dX5_thought_39 rfl rfl (by decide) (by decide) (by decide) rfl (by decide) (fun H locs jP jD jS => ?_)
        refine lv_aload_n hx hb dX5_thought_42 rfl (lv_at jl 0 rfl) ?_
        refine va_get (D := D) (ci := 5) (v := .ref uT) (C := RX5) (T := TX5) (N := 8) hx hb hts in5 hown jK.1 jP 0 rfl rfl 2 (by decide) (hts _ w_24) (fun _ h9 => h9) rfl dX5_thought_43 ?_
        refine va_get (D := D) (ci := 4) (v := .int t10.2.2.2.1) (C := RX4) (T := TX4) (N := 7) hx hb hts in4 hown jK.1 jP 1 rfl rfl 3 (by decide) (hts _ w_360) (fun _ h9 => h9) rfl dX5_thought_46 ?_
        refine lv_if_gt (tgt := 55) hx hb dX5_thought_49 (by decide) (fun c12 => ?_) (fun c12 => ?_)
        · have h := itp c12 h
          refine lv_aload_n hx hb dX5_thought_55 rfl (lv_at jl 0 rfl) ?_
          refine va_get (D := D) (ci := 5) (v := .ref uT) (C := RX5) (T := TX5) (N := 8) hx hb hts in5 hown jK.1 jP 0 rfl rfl 2 (by decide) (hts _ w_24) (fun _ h9 => h9) rfl dX5_thought_56 ?_
          refine va_get (D := D) (ci := 4) (v := .int t10.2.2.2.2.1) (C := RX4) (T := TX4) (N := 7) hx hb hts in4 hown jK.1 jP 1 rfl rfl 4 (by decide) (hts _ w_462) (fun _ h9 => h9) rfl dX5_thought_59 ?_
          refine va_mabs hx hb (hml.trans jl.1.symm) hown (hts _ w_463) (hts _ w_464) (hts _ w_305) (hts _ w_465) (Nat.le_trans (by decide) hf1) (Nat.le_trans (Nat.le_of_ble_eq_true rfl) hf2) (Nat.zero_le _) (Nat.zero_le _) dX5_thought_62 ?_
          refine lv_aload_n hx hb dX5_thought_65 rfl (lv_at jl 0 rfl) ?_
          refine va_get (D := D) (ci := 5) (v := .ref uT) (C := RX5) (T := TX5) (N := 8) hx hb hts in5 hown jK.1 jP 0 rfl rfl 2 (by decide) (hts _ w_24) (fun _ h9 => h9) rfl dX5_thought_66 ?_
          obtain ⟨t13, hc14, h⟩ := bd_some h
          refine callP (wc := (tW cI uT aT t10.2.1 t10.2.2.1 t10.2.2.2.1 t10.2.2.2.2.1 t10.2.2.2.2.2.1 t10.2.2.2.2.2.2 t10.1)) (wr := (lW uL uE uD uT uV uS uP L_x6 L_x7 ++ (sW cI uS aS S_x5 S_x6 S_x7 S_x8 S_x9 S_r0 S_r1 S_r2 S_r3 S_r4))) (w1 := (tW cI uT aT t10.2.1 t10.2.2.1 t10.2.2.2.1 t10.2.2.2.2.1 t10.2.2.2.2.2.1 t10.2.2.2.2.2.2 t10.1)) (ws1 := (lW uL uE uD uT uV uS uP L_x6 L_x7 ++ (tW cI uT aT t10.2.1 t10.2.2.1 t10.2.2.2.1 t10.2.2.2.2.1 t10.2.2.2.2.2.1 t10.2.2.2.2.2.2 t10.1 ++ (sW cI uS aS S_x5 S_x6 S_x7 S_x8 S_x9 S_r0 S_r1 S_r2 S_r3 S_r4)))) (As := []) (rest := [.int (if 0 ≤ t10.2.2.2.2.1 then t10.2.2.2.2.1 else 0 - t10.2.2.2.2.1)]) (st1 := [.int t13, .int (if 0 ≤ t10.2.2.2.2.1 then t10.2.2.2.2.1 else 0 - t10.2.2.2.2.1)]) 0 [1, 2] [0, 3, 4, 5, 6, 7, 8] [0, 7, 8, 1, 2, 3, 4, 5, 6] F (kX4_shares l D cI cB cS uT aT t10.2.1 t10.2.2.1 t10.2.2.2.1 t10.2.2.2.2.1 t10.2.2.2.2.2.1 t10.2.2.2.2.2.2 t10.1  _ hc14 ) okX4_shares w_466 (by decide) (by decide) ⟨Nat.zero_le _, Nat.zero_le _⟩ rfl rfl rfl jP jD jS rfl jl.1 rfl rfl (Nat.le_of_ble_eq_true rfl) dX5_thought_69 rfl rfl (by decide) (by decide) (by decide) rfl (by decide) (fun H locs jP jD jS => ?_)
          obtain ⟨t15, hc16, h⟩ := bd_some h
          refine call0 (As := [.int (if 0 ≤ t10.2.2.2.2.1 then t10.2.2.2.2.1 else 0 - t10.2.2.2.2.1), .int t13]) (rest := []) (st1 := [.int t15]) F (kX5_greatestDivisor l D cI cB cS  (if 0 ≤ t10.2.2.2.2.1 then t10.2.2.2.2.1 else 0 - t10.2.2.2.2.1) t13 _ hc16 ) okX5_greatestDivisor w_470 (by decide) (by decide) ⟨Nat.zero_le _, Nat.zero_le _⟩ jP jD jS rfl jl.1 rfl rfl (Nat.le_of_ble_eq_true rfl) dX5_thought_72 (fun H locs jP jD jS => ?_)
          refine lv_istore (lv' := [(5, .int t15), (0, .ref uL), (1, .int a1), (2, .int a2), (3, .int a3), (4, .int a4)]) hx hb dX5_thought_75 jl (by decide) rfl (fun ls jl => ?_)
          refine lv_iload hx hb dX5_thought_77 (lv_at jl 5 rfl) ?_
          obtain ⟨t20, hvt20, h⟩ := bd_some h
          have hJt20 : ∀ (H : Heap) (locs : List Loc) (ls : Array Slot), va_P D vwCl (lW uL uE uD uT uV uS uP L_x6 L_x7 ++ (tW cI uT aT t10.2.1 t10.2.2.1 t10.2.2.2.1 t10.2.2.2.2.1 t10.2.2.2.2.2.1 t10.2.2.2.2.2.2 t10.1 ++ (sW cI uS aS S_x5 S_x6 S_x7 S_x8 S_x9 S_r0 S_r1 S_r2 S_r3 S_r4))) H → va_D A (lW uL uE uD uT uV uS uP L_x6 L_x7 ++ (tW cI uT aT t10.2.1 t10.2.2.1 t10.2.2.2.1 t10.2.2.2.2.1 t10.2.2.2.2.2.1 t10.2.2.2.2.2.2 t10.1 ++ (sW cI uS aS S_x5 S_x6 S_x7 S_x8 S_x9 S_r0 S_r1 S_r2 S_r3 S_r4))) → va_S A s.heap H locs → lv_has ls 6 [(5, .int t15)] → W p l e R s m ar below meth c H locs 0 0 QQ (F0 m 99 ls [.int t20]) := by
            clear jP jD jS jl
            intro H locs ls jP jD jS jl
            refine lv_iload hx hb dX5_thought_99 (lv_at jl 0 rfl) ?_
            obtain ⟨hne, h⟩ := ckN_some h
            refine lv_idiv hx hb dX5_thought_101 hne ?_
            obtain rfl := Option.some.inj h
            exact hRet _ _ _ _ jP jD jS dX5_thought_102
          clear h
          refine lv_if_ne (tgt := 92) hx hb dX5_thought_79 (by decide) (fun c17 => ?_) (fun c17 => ?_)
          · have hvt20 := itn c17 hvt20
            refine lv_aload_n hx hb dX5_thought_92 rfl (lv_at jl 1 rfl) ?_
            refine va_get (D := D) (ci := 5) (v := .ref uT) (C := RX5) (T := TX5) (N := 8) hx hb hts in5 hown jK.1 jP 0 rfl rfl 2 (by decide) (hts _ w_24) (fun _ h9 => h9) rfl dX5_thought_93 ?_
            obtain ⟨t18, hc19, hvt20⟩ := bd_some hvt20
            refine callP (wc := (tW cI uT aT t10.2.1 t10.2.2.1 t10.2.2.2.1 t10.2.2.2.2.1 t10.2.2.2.2.2.1 t10.2.2.2.2.2.2 t10.1)) (wr := (lW uL uE uD uT uV uS uP L_x6 L_x7 ++ (sW cI uS aS S_x5 S_x6 S_x7 S_x8 S_x9 S_r0 S_r1 S_r2 S_r3 S_r4))) (w1 := (tW cI uT aT t10.2.1 t10.2.2.1 t10.2.2.2.1 t10.2.2.2.2.1 t10.2.2.2.2.2.1 t10.2.2.2.2.2.2 t10.1)) (ws1 := (lW uL uE uD uT uV uS uP L_x6 L_x7 ++ (tW cI uT aT t10.2.1 t10.2.2.1 t10.2.2.2.1 t10.2.2.2.2.1 t10.2.2.2.2.2.1 t10.2.2.2.2.2.2 t10.1 ++ (sW cI uS aS S_x5 S_x6 S_x7 S_x8 S_x9 S_r0 S_r1 S_r2 S_r3 S_r4)))) (As := []) (rest := []) (st1 := [.int t18]) 0 [1, 2] [0, 3, 4, 5, 6, 7, 8] [0, 7, 8, 1, 2, 3, 4, 5, 6] F (kX4_shares l D cI cB cS uT aT t10.2.1 t10.2.2.1 t10.2.2.2.1 t10.2.2.2.2.1 t10.2.2.2.2.2.1 t10.2.2.2.2.2.2 t10.1  _ hc19 ) okX4_shares w_466 (by decide) (by decide) ⟨Nat.zero_le _, Nat.zero_le _⟩ rfl rfl rfl jP jD jS rfl jl.1 rfl rfl (Nat.le_of_ble_eq_true rfl) dX5_thought_96 rfl rfl (by decide) (by decide) (by decide) rfl (by decide) (fun H locs jP jD jS => ?_)
            obtain rfl := Option.some.inj hvt20
            exact hJt20 _ _ _ jP jD jS (lv_sub jl [0] rfl)
          · have hvt20 := itp c17 hvt20
            refine lv_aload_n hx hb dX5_thought_82 rfl (lv_at jl 1 rfl) ?_
            refine va_get (D := D) (ci := 5) (v := .ref uT) (C := RX5) (T := TX5) (N := 8) hx hb hts in5 hown jK.1 jP 0 rfl rfl 2 (by decide) (hts _ w_24) (fun _ h9 => h9) rfl dX5_thought_83 ?_
            refine va_get (D := D) (ci := 4) (v := .int t10.2.2.2.2.1) (C := RX4) (T := TX4) (N := 7) hx hb hts in4 hown jK.1 jP 1 rfl rfl 4 (by decide) (hts _ w_462) (fun _ h9 => h9) rfl dX5_thought_86 ?_
            refine lv_goto (tgt := 99) hx hb dX5_thought_89 (by decide) ?_
            obtain rfl := Option.some.inj hvt20
            exact hJt20 _ _ _ jP jD jS (lv_sub jl [0] rfl)
        · have h := itn c12 h
          refine lv_ldc (v := (-1000000004 : Int32)) hx hb hown (hts _ w_461) dX5_thought_52 ?_
          obtain rfl := Option.some.inj h
          exact hRet _ _ _ _ jP jD jS dX5_thought_54
      · have h := itp c9 h
        refine lv_ldc (v := (-1000000000 : Int32)) hx hb hown (hts _ w_460) dX5_thought_25 ?_
        obtain rfl := Option.some.inj h
        exact hRet _ _ _ _ jP jD jS dX5_thought_27
theorem okX5_rests : okV yX5_rests cX5_rests 10 (some .int) 3 := ⟨w_484, w_485, w_486, w_2, by decide, by decide, by decide +kernel⟩
def fX5_rests_b40 (l1 : Int32) (l2 : Int32) (l3 : Int32) (S_r0 : (Nat → Int32)) (S_r1 : (Nat → Int32)) (S_r2 : (Nat → Int32)) (S_r3 : (Nat → Int32)) (S_r4 : (Nat → Int32)) (S_x5 : Int32) (S_x6 : Int32) (S_x7 : Int32) (S_x8 : Int32) (v1 : (Int32 × Int32 × Int32 × Int32 × Int32 × Int32 × (Nat → Int32) × Int32 × Int32 × Int32 × Int32 × Int32 × Int32)) : Option ((Int32 × Int32 × Int32 × Int32 × Int32 × Int32 × (Nat → Int32) × Int32 × Int32 × Int32 × Int32 × Int32 × Int32) ⊕ (Int32 × Int32 × Int32 × Int32 × (Nat → Int32) × Int32 × Int32 × Int32 × Int32 × Int32 × Int32)) :=
  if (100 : Int32) ≤ v1.2.2.2.2.2.1 then (some (.inr (v1.1, v1.2.1, v1.2.2.1, v1.2.2.2.1, v1.2.2.2.2.2.2.1, v1.2.2.2.2.2.2.2.1, v1.2.2.2.2.2.2.2.2.1, v1.2.2.2.2.2.2.2.2.2.1, v1.2.2.2.2.2.2.2.2.2.2.1, v1.2.2.2.2.2.2.2.2.2.2.2.1, v1.2.2.2.2.2.2.2.2.2.2.2.2))) else (bd (fX4_make (S_r0) (S_r1) (S_r2) (S_r3) (S_r4) (S_x5) (S_x6) (S_x7) (S_x8) v1.2.2.2.2.2.2.1 (l1) (l2) v1.2.2.2.2.2.1) (fun t1 => bd (fX4_holdsAt t1.2.2.2.1 t1.2.2.2.2.1 v1.2.2.2.2.2.1) (fun t2 => bd (if t2 = (0 : Int32) then (some (v1.1, v1.2.1, v1.2.2.1, v1.2.2.2.1, v1.2.2.2.2.1)) else (bd (if v1.2.1 = (-4 : Int32) then some v1.2.2.2.2.2.1 else some v1.2.1) (fun t3 => bd (if t1.2.2.2.1 ≤ v1.2.2.2.2.1 then some v1.2.2.2.1 else some v1.2.2.2.2.2.1) (fun t4 => some ((v1.1 + (1 : Int32)), t3, v1.2.2.2.2.2.1, t4, (if v1.2.2.2.2.1 < t1.2.2.2.1 then t1.2.2.2.1 else v1.2.2.2.2.1)))))) (fun t5 => some (.inl (t5.1, t5.2.1, t5.2.2.1, t5.2.2.2.1, t5.2.2.2.2, (v1.2.2.2.2.2.1 + (1 : Int32)), t1.1, t1.2.1, t1.2.2.1, t1.2.2.2.1, t1.2.2.2.2.1, t1.2.2.2.2.2.1, t1.2.2.2.2.2.2))))))
def fX5_rests (S_r0 : (Nat → Int32)) (S_r1 : (Nat → Int32)) (S_r2 : (Nat → Int32)) (S_r3 : (Nat → Int32)) (S_r4 : (Nat → Int32)) (S_x5 : Int32) (S_x6 : Int32) (S_x7 : Int32) (S_x8 : Int32) (T_r0 : (Nat → Int32)) (T_x1 : Int32) (T_x2 : Int32) (T_x3 : Int32) (T_x4 : Int32) (T_x5 : Int32) (T_x6 : Int32) (a1 : Int32) (a2 : Int32) (a3 : Int32) : Option (Int32 × (Nat → Int32) × Int32 × Int32 × Int32 × Int32 × Int32 × Int32) :=
  bd (fX5_isOffer a1 a2) (fun t1 => if t1 = (0 : Int32) then (some ((-1 : Int32), T_r0, T_x1, T_x2, T_x3, T_x4, T_x5, T_x6)) else (bd (fX5_isWithin a3 (0 : Int32) (3 : Int32)) (fun t4 => if t4 = (0 : Int32) then (some ((-1 : Int32), T_r0, T_x1, T_x2, T_x3, T_x4, T_x5, T_x6)) else (bd (loopF (fX5_rests_b40 a1 a2 a3 S_r0 S_r1 S_r2 S_r3 S_r4 S_x5 S_x6 S_x7 S_x8) 1000 ((0 : Int32), (-4 : Int32), (-4 : Int32), (-4 : Int32), (0 : Int32), (0 : Int32), T_r0, T_x1, T_x2, T_x3, T_x4, T_x5, T_x6)) (fun T7 => if a3 = (0 : Int32) then (some (T7.1, T7.2.2.2.2.1, T7.2.2.2.2.2.1, T7.2.2.2.2.2.2.1, T7.2.2.2.2.2.2.2.1, T7.2.2.2.2.2.2.2.2.1, T7.2.2.2.2.2.2.2.2.2.1, T7.2.2.2.2.2.2.2.2.2.2)) else (if a3 = (1 : Int32) then (some (T7.2.1, T7.2.2.2.2.1, T7.2.2.2.2.2.1, T7.2.2.2.2.2.2.1, T7.2.2.2.2.2.2.2.1, T7.2.2.2.2.2.2.2.2.1, T7.2.2.2.2.2.2.2.2.2.1, T7.2.2.2.2.2.2.2.2.2.2)) else (if a3 = (2 : Int32) then (some (T7.2.2.1, T7.2.2.2.2.1, T7.2.2.2.2.2.1, T7.2.2.2.2.2.2.1, T7.2.2.2.2.2.2.2.1, T7.2.2.2.2.2.2.2.2.1, T7.2.2.2.2.2.2.2.2.2.1, T7.2.2.2.2.2.2.2.2.2.2)) else (some (T7.2.2.2.1, T7.2.2.2.2.1, T7.2.2.2.2.2.1, T7.2.2.2.2.2.2.1, T7.2.2.2.2.2.2.2.1, T7.2.2.2.2.2.2.2.2.1, T7.2.2.2.2.2.2.2.2.2.1, T7.2.2.2.2.2.2.2.2.2.2)))))))))
set_option maxRecDepth 100000 in
set_option maxHeartbeats 4000000 in
theorem kX5_rests (l : Launch) (D : va_G) (cI cB cS : ClassId) (uL : Nat) (L_x6 : Int32) (L_x7 : Int32) (uT : Nat) (aT : Nat → Nat) (T_x1 : Int32) (T_x2 : Int32) (T_x3 : Int32) (T_x4 : Int32) (T_x5 : Int32) (T_x6 : Int32) (T_r0 : (Nat → Int32)) (uS : Nat) (aS : Nat → Nat) (S_x5 : Int32) (S_x6 : Int32) (S_x7 : Int32) (S_x8 : Int32) (S_x9 : Int32) (S_r0 : (Nat → Int32)) (S_r1 : (Nat → Int32)) (S_r2 : (Nat → Int32)) (S_r3 : (Nat → Int32)) (S_r4 : (Nat → Int32)) (uE : Nat) (uD : Nat) (uV : Nat) (uP : Nat) (a1 : Int32) (a2 : Int32) (a3 : Int32) (z : (Int32 × (Nat → Int32) × Int32 × Int32 × Int32 × Int32 × Int32 × Int32)) (h : fX5_rests S_r0 S_r1 S_r2 S_r3 S_r4 S_x5 S_x6 S_x7 S_x8 T_r0 T_x1 T_x2 T_x3 T_x4 T_x5 T_x6 a1 a2 a3 = some z) : Mt l yX5_rests cX5_rests 10 (some .int) 3 94 D cI cB cS (lW uL uE uD uT uV uS uP L_x6 L_x7 ++ (tW cI uT aT T_x1 T_x2 T_x3 T_x4 T_x5 T_x6 T_r0 ++ (sW cI uS aS S_x5 S_x6 S_x7 S_x8 S_x9 S_r0 S_r1 S_r2 S_r3 S_r4))) (lW uL uE uD uT uV uS uP L_x6 L_x7 ++ (tW cI uT aT z.2.2.1 z.2.2.2.1 z.2.2.2.2.1 z.2.2.2.2.2.1 z.2.2.2.2.2.2.1 z.2.2.2.2.2.2.2 z.2.1 ++ (sW cI uS aS S_x5 S_x6 S_x7 S_x8 S_x9 S_r0 S_r1 S_r2 S_r3 S_r4))) [.ref uL, .int a1, .int a2, .int a3] (some (.int z.1)) := by
  refine entryI (by decide +kernel) rfl (Nat.le_of_ble_eq_true rfl) ?_
  intro p e s m below meth c A ls QQ R ar F hRet jP jD jS jl
  obtain ⟨hx, hb, hml, hown, hts, jK, hA, hf1, hf2⟩ := id F
  have jl : lv_has ls 10 [(0, .ref uL), (1, .int a1), (2, .int a2), (3, .int a3)] := jl
  unfold fX5_rests at h
  refine lv_iload_n hx hb dX5_rests_0 rfl (lv_at jl 1 rfl) ?_
  refine lv_iload_n hx hb dX5_rests_1 rfl (lv_at jl 2 rfl) ?_
  obtain ⟨t1, hc2, h⟩ := bd_some h
  refine call0 (As := [.int a1, .int a2]) (rest := []) (st1 := [.int t1]) F (kX5_isOffer l D cI cB cS  a1 a2 _ hc2 ) okX5_isOffer w_361 (by decide) (by decide) ⟨Nat.zero_le _, Nat.zero_le _⟩ jP jD jS rfl jl.1 rfl rfl (Nat.le_of_ble_eq_true rfl) dX5_rests_2 (fun H locs jP jD jS => ?_)
  refine lv_if_eq (tgt := 17) hx hb dX5_rests_5 (by decide) (fun c3 => ?_) (fun c3 => ?_)
  · have h := itp c3 h
    refine lv_iconst (v := (-1 : Int32)) hx hb dX5_rests_17 (by decide) ?_
    obtain rfl := Option.some.inj h
    exact hRet _ _ _ _ jP jD jS dX5_rests_18
  · have h := itn c3 h
    refine lv_iload_n hx hb dX5_rests_8 rfl (lv_at jl 3 rfl) ?_
    refine lv_iconst (v := (0 : Int32)) hx hb dX5_rests_9 (by decide) ?_
    refine lv_iconst (v := (3 : Int32)) hx hb dX5_rests_10 (by decide) ?_
    obtain ⟨t4, hc5, h⟩ := bd_some h
    refine call0 (As := [.int a3, .int (0 : Int32), .int (3 : Int32)]) (rest := []) (st1 := [.int t4]) F (kX5_isWithin l D cI cB cS  a3 (0 : Int32) (3 : Int32) _ hc5 ) okX5_isWithin w_105 (by decide) (by decide) ⟨Nat.zero_le _, Nat.zero_le _⟩ jP jD jS rfl jl.1 rfl rfl (Nat.le_of_ble_eq_true rfl) dX5_rests_11 (fun H locs jP jD jS => ?_)
    refine lv_if_ne (tgt := 19) hx hb dX5_rests_14 (by decide) (fun c6 => ?_) (fun c6 => ?_)
    · have h := itn c6 h
      refine lv_iconst (v := (0 : Int32)) hx hb dX5_rests_19 (by decide) ?_
      refine lv_istore (lv' := [(4, .int (0 : Int32)), (0, .ref uL), (1, .int a1), (2, .int a2), (3, .int a3)]) hx hb dX5_rests_20 jl (by decide) rfl (fun ls jl => ?_)
      refine lv_bipush (v := (-4 : Int32)) hx hb dX5_rests_22 (by decide) ?_
      refine lv_istore (lv' := [(5, .int (-4 : Int32)), (4, .int (0 : Int32)), (0, .ref uL), (1, .int a1), (2, .int a2), (3, .int a3)]) hx hb dX5_rests_24 jl (by decide) rfl (fun ls jl => ?_)
      refine lv_bipush (v := (-4 : Int32)) hx hb dX5_rests_26 (by decide) ?_
      refine lv_istore (lv' := [(6, .int (-4 : Int32)), (5, .int (-4 : Int32)), (4, .int (0 : Int32)), (0, .ref uL), (1, .int a1), (2, .int a2), (3, .int a3)]) hx hb dX5_rests_28 jl (by decide) rfl (fun ls jl => ?_)
      refine lv_bipush (v := (-4 : Int32)) hx hb dX5_rests_30 (by decide) ?_
      refine lv_istore (lv' := [(7, .int (-4 : Int32)), (6, .int (-4 : Int32)), (5, .int (-4 : Int32)), (4, .int (0 : Int32)), (0, .ref uL), (1, .int a1), (2, .int a2), (3, .int a3)]) hx hb dX5_rests_32 jl (by decide) rfl (fun ls jl => ?_)
      refine lv_iconst (v := (0 : Int32)) hx hb dX5_rests_34 (by decide) ?_
      refine lv_istore (lv' := [(8, .int (0 : Int32)), (7, .int (-4 : Int32)), (6, .int (-4 : Int32)), (5, .int (-4 : Int32)), (4, .int (0 : Int32)), (0, .ref uL), (1, .int a1), (2, .int a2), (3, .int a3)]) hx hb dX5_rests_35 jl (by decide) rfl (fun ls jl => ?_)
      refine lv_iconst (v := (0 : Int32)) hx hb dX5_rests_37 (by decide) ?_
      refine lv_istore (lv' := [(9, .int (0 : Int32)), (8, .int (0 : Int32)), (7, .int (-4 : Int32)), (6, .int (-4 : Int32)), (5, .int (-4 : Int32)), (4, .int (0 : Int32)), (0, .ref uL), (1, .int a1), (2, .int a2), (3, .int a3)]) hx hb dX5_rests_38 jl (by decide) rfl (fun ls jl => ?_)
      obtain ⟨T7, hT7, hz7⟩ := bd_some h
      clear h
      have hE7 : ∀ (H : Heap) (locs : List Loc) (ls : Array Slot), va_P D vwCl (lW uL uE uD uT uV uS uP L_x6 L_x7 ++ (tW cI uT aT T7.2.2.2.2.2.1 T7.2.2.2.2.2.2.1 T7.2.2.2.2.2.2.2.1 T7.2.2.2.2.2.2.2.2.1 T7.2.2.2.2.2.2.2.2.2.1 T7.2.2.2.2.2.2.2.2.2.2 T7.2.2.2.2.1 ++ (sW cI uS aS S_x5 S_x6 S_x7 S_x8 S_x9 S_r0 S_r1 S_r2 S_r3 S_r4))) H → va_D A (lW uL uE uD uT uV uS uP L_x6 L_x7 ++ (tW cI uT aT T7.2.2.2.2.2.1 T7.2.2.2.2.2.2.1 T7.2.2.2.2.2.2.2.1 T7.2.2.2.2.2.2.2.2.1 T7.2.2.2.2.2.2.2.2.2.1 T7.2.2.2.2.2.2.2.2.2.2 T7.2.2.2.2.1 ++ (sW cI uS aS S_x5 S_x6 S_x7 S_x8 S_x9 S_r0 S_r1 S_r2 S_r3 S_r4))) → va_S A s.heap H locs → lv_has ls 10 [(3, .int a3), (4, .int T7.1), (5, .int T7.2.1), (6, .int T7.2.2.1), (7, .int T7.2.2.2.1)] → W p l e R s m ar below meth c H locs 0 0 QQ (F0 m 138 ls []) := by
        clear jP jD jS jl
        intro H locs ls jP jD jS jl
        refine lv_iload_n hx hb dX5_rests_138 rfl (lv_at jl 0 rfl) ?_
        by_cases hk19 : a3 = (0 : Int32)
        · have hz7 := itp hk19 hz7
          refine swIn (k := 0) (tgt := 164) hx hb hk19 dX5_rests_139 (by decide) (by decide) rfl (by decide) ?_
          refine lv_iload hx hb dX5_rests_164 (lv_at jl 1 rfl) ?_
          obtain rfl := Option.some.inj hz7
          exact hRet _ _ _ _ jP jD jS dX5_rests_166
        · have hz7 := itn hk19 hz7
          by_cases hk20 : a3 = (1 : Int32)
          · have hz7 := itp hk20 hz7
            refine swIn (k := 1) (tgt := 167) hx hb hk20 dX5_rests_139 (by decide) (by decide) rfl (by decide) ?_
            refine lv_iload hx hb dX5_rests_167 (lv_at jl 2 rfl) ?_
            obtain rfl := Option.some.inj hz7
            exact hRet _ _ _ _ jP jD jS dX5_rests_169
          · have hz7 := itn hk20 hz7
            by_cases hk21 : a3 = (2 : Int32)
            · have hz7 := itp hk21 hz7
              refine swIn (k := 2) (tgt := 170) hx hb hk21 dX5_rests_139 (by decide) (by decide) rfl (by decide) ?_
              refine lv_iload hx hb dX5_rests_170 (lv_at jl 3 rfl) ?_
              obtain rfl := Option.some.inj hz7
              exact hRet _ _ _ _ jP jD jS dX5_rests_172
            · have hz7 := itn hk21 hz7
              refine lv_tableOut (tgt := 173) hx hb dX5_rests_139 (swNot 2 (by decide) (fun k hk => by rcases (by omega : k = 0 ∨ k = 1 ∨ k = 2) with rfl | rfl | rfl <;> assumption)) (by decide) ?_
              refine lv_iload hx hb dX5_rests_173 (lv_at jl 4 rfl) ?_
              obtain rfl := Option.some.inj hz7
              exact hRet _ _ _ _ jP jD jS dX5_rests_175
      have hL7 : ∀ (n : Nat) (v7 : (Int32 × Int32 × Int32 × Int32 × Int32 × Int32 × (Nat → Int32) × Int32 × Int32 × Int32 × Int32 × Int32 × Int32)), loopF (fX5_rests_b40 a1 a2 a3 S_r0 S_r1 S_r2 S_r3 S_r4 S_x5 S_x6 S_x7 S_x8) n v7 = some T7 → ∀ (H : Heap) (locs : List Loc) (ls : Array Slot), va_P D vwCl (lW uL uE uD uT uV uS uP L_x6 L_x7 ++ (tW cI uT aT v7.2.2.2.2.2.2.2.1 v7.2.2.2.2.2.2.2.2.1 v7.2.2.2.2.2.2.2.2.2.1 v7.2.2.2.2.2.2.2.2.2.2.1 v7.2.2.2.2.2.2.2.2.2.2.2.1 v7.2.2.2.2.2.2.2.2.2.2.2.2 v7.2.2.2.2.2.2.1 ++ (sW cI uS aS S_x5 S_x6 S_x7 S_x8 S_x9 S_r0 S_r1 S_r2 S_r3 S_r4))) H → va_D A (lW uL uE uD uT uV uS uP L_x6 L_x7 ++ (tW cI uT aT v7.2.2.2.2.2.2.2.1 v7.2.2.2.2.2.2.2.2.1 v7.2.2.2.2.2.2.2.2.2.1 v7.2.2.2.2.2.2.2.2.2.2.1 v7.2.2.2.2.2.2.2.2.2.2.2.1 v7.2.2.2.2.2.2.2.2.2.2.2.2 v7.2.2.2.2.2.2.1 ++ (sW cI uS aS S_x5 S_x6 S_x7 S_x8 S_x9 S_r0 S_r1 S_r2 S_r3 S_r4))) → va_S A s.heap H locs → lv_has ls 10 [(0, .ref uL), (1, .int a1), (2, .int a2), (3, .int a3), (4, .int v7.1), (5, .int v7.2.1), (6, .int v7.2.2.1), (7, .int v7.2.2.2.1), (8, .int v7.2.2.2.2.1), (9, .int v7.2.2.2.2.2.1)] → W p l e R s m ar below meth c H locs 0 0 QQ (F0 m 40 ls []) := by
        clear jP jD jS jl hT7
        intro n
        induction n with
        | zero => intro v7 hq; exact (loop_none hq).elim
        | succ n ih =>
          intro v7 hq H locs ls jP jD jS jl
          obtain ⟨o7, hv7, hq7⟩ := loop_some hq
          clear hq
          unfold fX5_rests_b40 at hv7
          refine lv_iload hx hb dX5_rests_40 (lv_at jl 9 rfl) ?_
          refine lv_bipush (v := (100 : Int32)) hx hb dX5_rests_42 (by decide) ?_
          refine lv_icmp_ge (tgt := 138) hx hb dX5_rests_44 (by decide) (fun c8 => ?_) (fun c8 => ?_)
          · have hv7 := itp c8 hv7
            obtain rfl := Option.some.inj hv7
            obtain rfl := nxt_r hq7
            exact hE7 _ _ _ jP jD jS (lv_sub jl [3, 4, 5, 6, 7] rfl)
          · have hv7 := itn c8 hv7
            refine lv_aload_n hx hb dX5_rests_47 rfl (lv_at jl 0 rfl) ?_
            refine va_get (D := D) (ci := 5) (v := .ref uT) (C := RX5) (T := TX5) (N := 8) hx hb hts in5 hown jK.1 jP 0 rfl rfl 2 (by decide) (hts _ w_24) (fun _ h9 => h9) rfl dX5_rests_48 ?_
            refine lv_aload_n hx hb dX5_rests_51 rfl (lv_at jl 0 rfl) ?_
            refine va_get (D := D) (ci := 5) (v := .ref uS) (C := RX5) (T := TX5) (N := 8) hx hb hts in5 hown jK.1 jP 0 rfl rfl 4 (by decide) (hts _ w_32) (fun _ h9 => h9) rfl dX5_rests_52 ?_
            refine lv_iload_n hx hb dX5_rests_55 rfl (lv_at jl 1 rfl) ?_
            refine lv_iload_n hx hb dX5_rests_56 rfl (lv_at jl 2 rfl) ?_
            refine lv_iload hx hb dX5_rests_57 (lv_at jl 9 rfl) ?_
            obtain ⟨t9, hc10, hv7⟩ := bd_some hv7
            refine callP (wc := (tW cI uT aT v7.2.2.2.2.2.2.2.1 v7.2.2.2.2.2.2.2.2.1 v7.2.2.2.2.2.2.2.2.2.1 v7.2.2.2.2.2.2.2.2.2.2.1 v7.2.2.2.2.2.2.2.2.2.2.2.1 v7.2.2.2.2.2.2.2.2.2.2.2.2 v7.2.2.2.2.2.2.1 ++ (sW cI uS aS S_x5 S_x6 S_x7 S_x8 S_x9 S_r0 S_r1 S_r2 S_r3 S_r4))) (wr := (lW uL uE uD uT uV uS uP L_x6 L_x7)) (w1 := (tW cI uT aT t9.2.1 t9.2.2.1 t9.2.2.2.1 t9.2.2.2.2.1 t9.2.2.2.2.2.1 t9.2.2.2.2.2.2 t9.1 ++ (sW cI uS aS S_x5 S_x6 S_x7 S_x8 S_x9 S_r0 S_r1 S_r2 S_r3 S_r4))) (ws1 := (lW uL uE uD uT uV uS uP L_x6 L_x7 ++ (tW cI uT aT t9.2.1 t9.2.2.1 t9.2.2.2.1 t9.2.2.2.2.1 t9.2.2.2.2.2.1 t9.2.2.2.2.2.2 t9.1 ++ (sW cI uS aS S_x5 S_x6 S_x7 S_x8 S_x9 S_r0 S_r1 S_r2 S_r3 S_r4)))) (As := [.ref uS, .int a1, .int a2, .int v7.2.2.2.2.2.1]) (rest := []) (st1 := []) 0 [1, 2, 3, 4, 5, 6, 7, 8] [0] [0, 1, 2, 3, 4, 5, 6, 7, 8] F (kX4_make l D cI cB cS uT aT v7.2.2.2.2.2.2.2.1 v7.2.2.2.2.2.2.2.2.1 v7.2.2.2.2.2.2.2.2.2.1 v7.2.2.2.2.2.2.2.2.2.2.1 v7.2.2.2.2.2.2.2.2.2.2.2.1 v7.2.2.2.2.2.2.2.2.2.2.2.2 v7.2.2.2.2.2.2.1 uS aS S_x5 S_x6 S_x7 S_x8 S_x9 S_r0 S_r1 S_r2 S_r3 S_r4 a1 a2 v7.2.2.2.2.2.1 _ hc10 ) okX4_make w_367 (by decide) (by decide) ⟨Nat.zero_le _, Nat.zero_le _⟩ rfl rfl rfl jP jD jS rfl jl.1 rfl rfl (Nat.le_of_ble_eq_true rfl) dX5_rests_59 rfl rfl (by decide) (by decide) (by decide) rfl (by decide) (fun H locs jP jD jS => ?_)
            refine lv_aload_n hx hb dX5_rests_62 rfl (lv_at jl 0 rfl) ?_
            refine va_get (D := D) (ci := 5) (v := .ref uT) (C := RX5) (T := TX5) (N := 8) hx hb hts in5 hown jK.1 jP 0 rfl rfl 2 (by decide) (hts _ w_24) (fun _ h9 => h9) rfl dX5_rests_63 ?_
            refine lv_iload hx hb dX5_rests_66 (lv_at jl 9 rfl) ?_
            obtain ⟨t11, hc12, hv7⟩ := bd_some hv7
            refine callP (wc := (tW cI uT aT t9.2.1 t9.2.2.1 t9.2.2.2.1 t9.2.2.2.2.1 t9.2.2.2.2.2.1 t9.2.2.2.2.2.2 t9.1)) (wr := (lW uL uE uD uT uV uS uP L_x6 L_x7 ++ (sW cI uS aS S_x5 S_x6 S_x7 S_x8 S_x9 S_r0 S_r1 S_r2 S_r3 S_r4))) (w1 := (tW cI uT aT t9.2.1 t9.2.2.1 t9.2.2.2.1 t9.2.2.2.2.1 t9.2.2.2.2.2.1 t9.2.2.2.2.2.2 t9.1)) (ws1 := (lW uL uE uD uT uV uS uP L_x6 L_x7 ++ (tW cI uT aT t9.2.1 t9.2.2.1 t9.2.2.2.1 t9.2.2.2.2.1 t9.2.2.2.2.2.1 t9.2.2.2.2.2.2 t9.1 ++ (sW cI uS aS S_x5 S_x6 S_x7 S_x8 S_x9 S_r0 S_r1 S_r2 S_r3 S_r4)))) (As := [.int v7.2.2.2.2.2.1]) (rest := []) (st1 := [.int t11]) 0 [1, 2] [0, 3, 4, 5, 6, 7, 8] [0, 7, 8, 1, 2, 3, 4, 5, 6] F (kX4_holdsAt l D cI cB cS uT aT t9.2.1 t9.2.2.1 t9.2.2.2.1 t9.2.2.2.2.1 t9.2.2.2.2.2.1 t9.2.2.2.2.2.2 t9.1 v7.2.2.2.2.2.1 _ hc12 ) okX4_holdsAt w_487 (by decide) (by decide) ⟨Nat.zero_le _, Nat.zero_le _⟩ rfl rfl rfl jP jD jS rfl jl.1 rfl rfl (Nat.le_of_ble_eq_true rfl) dX5_rests_68 rfl rfl (by decide) (by decide) (by decide) rfl (by decide) (fun H locs jP jD jS => ?_)
            obtain ⟨t18, hvt18, hv7⟩ := bd_some hv7
            have hJt18 : ∀ (H : Heap) (locs : List Loc) (ls : Array Slot), va_P D vwCl (lW uL uE uD uT uV uS uP L_x6 L_x7 ++ (tW cI uT aT t9.2.1 t9.2.2.1 t9.2.2.2.1 t9.2.2.2.2.1 t9.2.2.2.2.2.1 t9.2.2.2.2.2.2 t9.1 ++ (sW cI uS aS S_x5 S_x6 S_x7 S_x8 S_x9 S_r0 S_r1 S_r2 S_r3 S_r4))) H → va_D A (lW uL uE uD uT uV uS uP L_x6 L_x7 ++ (tW cI uT aT t9.2.1 t9.2.2.1 t9.2.2.2.1 t9.2.2.2.2.1 t9.2.2.2.2.2.1 t9.2.2.2.2.2.2 t9.1 ++ (sW cI uS aS S_x5 S_x6 S_x7 S_x8 S_x9 S_r0 S_r1 S_r2 S_r3 S_r4))) → va_S A s.heap H locs → lv_has ls 10 [(0, .ref uL), (1, .int a1), (2, .int a2), (3, .int a3), (4, .int t18.1), (5, .int t18.2.1), (6, .int t18.2.2.1), (7, .int t18.2.2.2.1), (8, .int t18.2.2.2.2), (9, .int v7.2.2.2.2.2.1)] → W p l e R s m ar below meth c H locs 0 0 QQ (F0 m 132 ls []) := by
              clear jP jD jS jl
              intro H locs ls jP jD jS jl
              refine lv_iinc (v := (v7.2.2.2.2.2.1 + (1 : Int32))) (lv' := [(9, .int (v7.2.2.2.2.2.1 + (1 : Int32))), (0, .ref uL), (1, .int a1), (2, .int a2), (3, .int a3), (4, .int t18.1), (5, .int t18.2.1), (6, .int t18.2.2.1), (7, .int t18.2.2.2.1), (8, .int t18.2.2.2.2)]) hx hb dX5_rests_132 jl (k := 9) rfl rfl (by decide) rfl (fun ls jl => ?_)
              refine lv_goto (tgt := 40) hx hb dX5_rests_135 (by decide) ?_
              obtain rfl := Option.some.inj hv7
              exact ih _ (nxt_l hq7) _ _ _ jP jD jS (lv_sub jl [1, 2, 3, 4, 5, 6, 7, 8, 9, 0] rfl)
            clear hv7
            refine lv_if_eq (tgt := 132) hx hb dX5_rests_71 (by decide) (fun c13 => ?_) (fun c13 => ?_)
            · have hvt18 := itp c13 hvt18
              obtain rfl := Option.some.inj hvt18
              exact hJt18 _ _ _ jP jD jS (lv_sub jl [0, 1, 2, 3, 4, 5, 6, 7, 8, 9] rfl)
            · have hvt18 := itn c13 hvt18
              refine lv_iinc (v := (v7.1 + (1 : Int32))) (lv' := [(4, .int (v7.1 + (1 : Int32))), (0, .ref uL), (1, .int a1), (2, .int a2), (3, .int a3), (5, .int v7.2.1), (6, .int v7.2.2.1), (7, .int v7.2.2.2.1), (8, .int v7.2.2.2.2.1), (9, .int v7.2.2.2.2.2.1)]) hx hb dX5_rests_74 jl (k := 4) rfl rfl (by decide) rfl (fun ls jl => ?_)
              refine lv_iload hx hb dX5_rests_77 (lv_at jl 5 rfl) ?_
              refine lv_bipush (v := (-4 : Int32)) hx hb dX5_rests_79 (by decide) ?_
              obtain ⟨t15, hvt15, hvt18⟩ := bd_some hvt18
              have hJt15 : ∀ (H : Heap) (locs : List Loc) (ls : Array Slot), va_P D vwCl (lW uL uE uD uT uV uS uP L_x6 L_x7 ++ (tW cI uT aT t9.2.1 t9.2.2.1 t9.2.2.2.1 t9.2.2.2.2.1 t9.2.2.2.2.2.1 t9.2.2.2.2.2.2 t9.1 ++ (sW cI uS aS S_x5 S_x6 S_x7 S_x8 S_x9 S_r0 S_r1 S_r2 S_r3 S_r4))) H → va_D A (lW uL uE uD uT uV uS uP L_x6 L_x7 ++ (tW cI uT aT t9.2.1 t9.2.2.1 t9.2.2.2.1 t9.2.2.2.2.1 t9.2.2.2.2.2.1 t9.2.2.2.2.2.2 t9.1 ++ (sW cI uS aS S_x5 S_x6 S_x7 S_x8 S_x9 S_r0 S_r1 S_r2 S_r3 S_r4))) → va_S A s.heap H locs → lv_has ls 10 [(0, .ref uL), (1, .int a1), (2, .int a2), (3, .int a3), (4, .int (v7.1 + (1 : Int32))), (7, .int v7.2.2.2.1), (8, .int v7.2.2.2.2.1), (9, .int v7.2.2.2.2.2.1)] → W p l e R s m ar below meth c H locs 0 0 QQ (F0 m 91 ls [.int t15]) := by
                clear jP jD jS jl
                intro H locs ls jP jD jS jl
                refine lv_istore (lv' := [(5, .int t15), (0, .ref uL), (1, .int a1), (2, .int a2), (3, .int a3), (4, .int (v7.1 + (1 : Int32))), (7, .int v7.2.2.2.1), (8, .int v7.2.2.2.2.1), (9, .int v7.2.2.2.2.2.1)]) hx hb dX5_rests_91 jl (by decide) rfl (fun ls jl => ?_)
                refine lv_iload hx hb dX5_rests_93 (lv_at jl 8 rfl) ?_
                refine lv_istore (lv' := [(6, .int v7.2.2.2.2.2.1), (5, .int t15), (0, .ref uL), (1, .int a1), (2, .int a2), (3, .int a3), (4, .int (v7.1 + (1 : Int32))), (7, .int v7.2.2.2.1), (8, .int v7.2.2.2.2.1), (9, .int v7.2.2.2.2.2.1)]) hx hb dX5_rests_95 jl (by decide) rfl (fun ls jl => ?_)
                refine lv_aload_n hx hb dX5_rests_97 rfl (lv_at jl 2 rfl) ?_
                refine va_get (D := D) (ci := 5) (v := .ref uT) (C := RX5) (T := TX5) (N := 8) hx hb hts in5 hown jK.1 jP 0 rfl rfl 2 (by decide) (hts _ w_24) (fun _ h9 => h9) rfl dX5_rests_98 ?_
                refine va_get (D := D) (ci := 4) (v := .int t9.2.2.2.1) (C := RX4) (T := TX4) (N := 7) hx hb hts in4 hown jK.1 jP 1 rfl rfl 3 (by decide) (hts _ w_360) (fun _ h9 => h9) rfl dX5_rests_101 ?_
                refine lv_iload hx hb dX5_rests_104 (lv_at jl 8 rfl) ?_
                obtain ⟨t17, hvt17, hvt18⟩ := bd_some hvt18
                have hJt17 : ∀ (H : Heap) (locs : List Loc) (ls : Array Slot), va_P D vwCl (lW uL uE uD uT uV uS uP L_x6 L_x7 ++ (tW cI uT aT t9.2.1 t9.2.2.1 t9.2.2.2.1 t9.2.2.2.2.1 t9.2.2.2.2.2.1 t9.2.2.2.2.2.2 t9.1 ++ (sW cI uS aS S_x5 S_x6 S_x7 S_x8 S_x9 S_r0 S_r1 S_r2 S_r3 S_r4))) H → va_D A (lW uL uE uD uT uV uS uP L_x6 L_x7 ++ (tW cI uT aT t9.2.1 t9.2.2.1 t9.2.2.2.1 t9.2.2.2.2.1 t9.2.2.2.2.2.1 t9.2.2.2.2.2.2 t9.1 ++ (sW cI uS aS S_x5 S_x6 S_x7 S_x8 S_x9 S_r0 S_r1 S_r2 S_r3 S_r4))) → va_S A s.heap H locs → lv_has ls 10 [(0, .ref uL), (1, .int a1), (2, .int a2), (3, .int a3), (4, .int (v7.1 + (1 : Int32))), (5, .int t15), (6, .int v7.2.2.2.2.2.1), (8, .int v7.2.2.2.2.1), (9, .int v7.2.2.2.2.2.1)] → W p l e R s m ar below meth c H locs 0 0 QQ (F0 m 116 ls [.int t17]) := by
                  clear jP jD jS jl
                  intro H locs ls jP jD jS jl
                  refine lv_istore (lv' := [(7, .int t17), (0, .ref uL), (1, .int a1), (2, .int a2), (3, .int a3), (4, .int (v7.1 + (1 : Int32))), (5, .int t15), (6, .int v7.2.2.2.2.2.1), (8, .int v7.2.2.2.2.1), (9, .int v7.2.2.2.2.2.1)]) hx hb dX5_rests_116 jl (by decide) rfl (fun ls jl => ?_)
                  refine lv_iload hx hb dX5_rests_118 (lv_at jl 8 rfl) ?_
                  refine lv_aload_n hx hb dX5_rests_120 rfl (lv_at jl 1 rfl) ?_
                  refine va_get (D := D) (ci := 5) (v := .ref uT) (C := RX5) (T := TX5) (N := 8) hx hb hts in5 hown jK.1 jP 0 rfl rfl 2 (by decide) (hts _ w_24) (fun _ h9 => h9) rfl dX5_rests_121 ?_
                  refine va_get (D := D) (ci := 4) (v := .int t9.2.2.2.1) (C := RX4) (T := TX4) (N := 7) hx hb hts in4 hown jK.1 jP 1 rfl rfl 3 (by decide) (hts _ w_360) (fun _ h9 => h9) rfl dX5_rests_124 ?_
                  refine va_mmax hx hb (hml.trans jl.1.symm) hown (hts _ w_473) (hts _ w_304) (hts _ w_305) (hts _ w_306) (Nat.le_trans (by decide) hf1) (Nat.le_trans (Nat.le_of_ble_eq_true rfl) hf2) (Nat.zero_le _) (Nat.zero_le _) dX5_rests_127 ?_
                  refine lv_istore (lv' := [(8, .int (if v7.2.2.2.2.1 < t9.2.2.2.1 then t9.2.2.2.1 else v7.2.2.2.2.1)), (7, .int t17), (0, .ref uL), (1, .int a1), (2, .int a2), (3, .int a3), (4, .int (v7.1 + (1 : Int32))), (5, .int t15), (6, .int v7.2.2.2.2.2.1), (9, .int v7.2.2.2.2.2.1)]) hx hb dX5_rests_130 jl (by decide) rfl (fun ls jl => ?_)
                  obtain rfl := Option.some.inj hvt18
                  exact hJt18 _ _ _ jP jD jS (lv_sub jl [2, 3, 4, 5, 6, 7, 8, 1, 0, 9] rfl)
                clear hvt18
                refine lv_icmp_le (tgt := 114) hx hb dX5_rests_106 (by decide) (fun c16 => ?_) (fun c16 => ?_)
                · have hvt17 := itp c16 hvt17
                  refine lv_iload hx hb dX5_rests_114 (lv_at jl 7 rfl) ?_
                  obtain rfl := Option.some.inj hvt17
                  exact hJt17 _ _ _ jP jD jS (lv_sub jl [2, 3, 4, 5, 6, 1, 0, 8, 9] rfl)
                · have hvt17 := itn c16 hvt17
                  refine lv_iload hx hb dX5_rests_109 (lv_at jl 9 rfl) ?_
                  refine lv_goto (tgt := 116) hx hb dX5_rests_111 (by decide) ?_
                  obtain rfl := Option.some.inj hvt17
                  exact hJt17 _ _ _ jP jD jS (lv_sub jl [2, 3, 4, 5, 6, 1, 0, 8, 9] rfl)
              clear hvt18
              refine lv_icmp_ne (tgt := 89) hx hb dX5_rests_81 (by decide) (fun c14 => ?_) (fun c14 => ?_)
              · have hvt15 := itn c14 hvt15
                refine lv_iload hx hb dX5_rests_89 (lv_at jl 5 rfl) ?_
                obtain rfl := Option.some.inj hvt15
                exact hJt15 _ _ _ jP jD jS (lv_sub jl [1, 2, 3, 4, 0, 7, 8, 9] rfl)
              · have hvt15 := itp c14 hvt15
                refine lv_iload hx hb dX5_rests_84 (lv_at jl 9 rfl) ?_
                refine lv_goto (tgt := 91) hx hb dX5_rests_86 (by decide) ?_
                obtain rfl := Option.some.inj hvt15
                exact hJt15 _ _ _ jP jD jS (lv_sub jl [1, 2, 3, 4, 0, 7, 8, 9] rfl)
      exact hL7 1000 _ hT7 _ _ _ jP jD jS (lv_sub jl [6, 7, 8, 9, 5, 4, 3, 2, 1, 0] rfl)
    · have h := itp c6 h
      refine lv_iconst (v := (-1 : Int32)) hx hb dX5_rests_17 (by decide) ?_
      obtain rfl := Option.some.inj h
      exact hRet _ _ _ _ jP jD jS dX5_rests_18
theorem okX5_fall : okV yX5_fall cX5_fall 10 (some .int) 4 := ⟨w_505, w_506, w_507, w_2, by decide, by decide, by decide +kernel⟩
def fX5_fall_b60 (l1 : Int32) (l2 : Int32) (l4 : Int32) (S_r0 : (Nat → Int32)) (S_r1 : (Nat → Int32)) (S_r2 : (Nat → Int32)) (S_r3 : (Nat → Int32)) (S_r4 : (Nat → Int32)) (S_x5 : Int32) (S_x6 : Int32) (S_x7 : Int32) (S_x8 : Int32) (v1 : (Int32 × Int32 × Int32 × (Nat → Int32) × Int32 × Int32 × Int32 × Int32 × Int32 × Int32)) : Option ((Int32 × Int32 × Int32 × (Nat → Int32) × Int32 × Int32 × Int32 × Int32 × Int32 × Int32) ⊕ ((Int32 × (Nat → Int32) × Int32 × Int32 × Int32 × Int32 × Int32 × Int32) ⊕ (Int32 × Int32 × (Nat → Int32) × Int32 × Int32 × Int32 × Int32 × Int32 × Int32))) :=
  if (100 : Int32) ≤ v1.2.2.1 then (some (.inr (.inr (v1.1, v1.2.1, v1.2.2.2.1, v1.2.2.2.2.1, v1.2.2.2.2.2.1, v1.2.2.2.2.2.2.1, v1.2.2.2.2.2.2.2.1, v1.2.2.2.2.2.2.2.2.1, v1.2.2.2.2.2.2.2.2.2)))) else (if l4 = ((10 : Int32) + v1.2.1) then (some (.inr (.inl (v1.1, v1.2.2.2.1, v1.2.2.2.2.1, v1.2.2.2.2.2.1, v1.2.2.2.2.2.2.1, v1.2.2.2.2.2.2.2.1, v1.2.2.2.2.2.2.2.2.1, v1.2.2.2.2.2.2.2.2.2)))) else (bd (fX4_make (S_r0) (S_r1) (S_r2) (S_r3) (S_r4) (S_x5) (S_x6) (S_x7) (S_x8) v1.2.2.2.1 (l1) (l2) v1.1) (fun t1 => bd (fX4_priceBehind t1.2.2.2.1 t1.2.2.2.2.1 v1.1) (fun t2 => if t2 = v1.1 then (some (.inr (.inr (v1.1, v1.2.1, t1.1, t1.2.1, t1.2.2.1, t1.2.2.2.1, t1.2.2.2.2.1, t1.2.2.2.2.2.1, t1.2.2.2.2.2.2)))) else (some (.inl (t2, (v1.2.1 + (1 : Int32)), (v1.2.2.1 + (1 : Int32)), t1.1, t1.2.1, t1.2.2.1, t1.2.2.2.1, t1.2.2.2.2.1, t1.2.2.2.2.2.1, t1.2.2.2.2.2.2)))))))
def fX5_fall (S_r0 : (Nat → Int32)) (S_r1 : (Nat → Int32)) (S_r2 : (Nat → Int32)) (S_r3 : (Nat → Int32)) (S_r4 : (Nat → Int32)) (S_x5 : Int32) (S_x6 : Int32) (S_x7 : Int32) (S_x8 : Int32) (T_r0 : (Nat → Int32)) (T_x1 : Int32) (T_x2 : Int32) (T_x3 : Int32) (T_x4 : Int32) (T_x5 : Int32) (T_x6 : Int32) (a1 : Int32) (a2 : Int32) (a3 : Int32) (a4 : Int32) : Option (Int32 × (Nat → Int32) × Int32 × Int32 × Int32 × Int32 × Int32 × Int32) :=
  bd (fX5_isWithin a4 (0 : Int32) (1 : Int32)) (fun t1 => bd (if t1 = (0 : Int32) then (bd (fX5_isWithin a4 (10 : Int32) (99 : Int32)) (fun t4 => if t4 = (0 : Int32) then (some (0 : Int32)) else (some (1 : Int32)))) else (some (1 : Int32))) (fun t7 => bd (fX5_isOffer a1 a2) (fun t8 => if t8 = (0 : Int32) then (some ((-1 : Int32), T_r0, T_x1, T_x2, T_x3, T_x4, T_x5, T_x6)) else (bd (fX5_isPrice a3) (fun t11 => if t11 = (0 : Int32) then (some ((-1 : Int32), T_r0, T_x1, T_x2, T_x3, T_x4, T_x5, T_x6)) else (if t7 = (0 : Int32) then (some ((-1 : Int32), T_r0, T_x1, T_x2, T_x3, T_x4, T_x5, T_x6)) else (bd (loopF (fX5_fall_b60 a1 a2 a4 S_r0 S_r1 S_r2 S_r3 S_r4 S_x5 S_x6 S_x7 S_x8) 1000 (a3, (0 : Int32), (0 : Int32), T_r0, T_x1, T_x2, T_x3, T_x4, T_x5, T_x6)) (fun T15 => sm T15 (fun z => some z) (fun e15 => if a4 = (0 : Int32) then (bd (fX4_holdsAt e15.2.2.2.2.2.1 e15.2.2.2.2.2.2.1 e15.1) (fun t25 => if t25 = (0 : Int32) then (some ((-4 : Int32), e15.2.2.1, e15.2.2.2.1, e15.2.2.2.2.1, e15.2.2.2.2.2.1, e15.2.2.2.2.2.2.1, e15.2.2.2.2.2.2.2.1, e15.2.2.2.2.2.2.2.2)) else (some (e15.1, e15.2.2.1, e15.2.2.2.1, e15.2.2.2.2.1, e15.2.2.2.2.2.1, e15.2.2.2.2.2.2.1, e15.2.2.2.2.2.2.2.1, e15.2.2.2.2.2.2.2.2)))) else (if a4 = (1 : Int32) then (some (e15.2.1, e15.2.2.1, e15.2.2.2.1, e15.2.2.2.2.1, e15.2.2.2.2.2.1, e15.2.2.2.2.2.2.1, e15.2.2.2.2.2.2.2.1, e15.2.2.2.2.2.2.2.2)) else (some ((-4 : Int32), e15.2.2.1, e15.2.2.2.1, e15.2.2.2.2.1, e15.2.2.2.2.2.1, e15.2.2.2.2.2.2.1, e15.2.2.2.2.2.2.2.1, e15.2.2.2.2.2.2.2.2))))))))))))
set_option maxRecDepth 100000 in
set_option maxHeartbeats 4000000 in
theorem kX5_fall (l : Launch) (D : va_G) (cI cB cS : ClassId) (uL : Nat) (L_x6 : Int32) (L_x7 : Int32) (uT : Nat) (aT : Nat → Nat) (T_x1 : Int32) (T_x2 : Int32) (T_x3 : Int32) (T_x4 : Int32) (T_x5 : Int32) (T_x6 : Int32) (T_r0 : (Nat → Int32)) (uS : Nat) (aS : Nat → Nat) (S_x5 : Int32) (S_x6 : Int32) (S_x7 : Int32) (S_x8 : Int32) (S_x9 : Int32) (S_r0 : (Nat → Int32)) (S_r1 : (Nat → Int32)) (S_r2 : (Nat → Int32)) (S_r3 : (Nat → Int32)) (S_r4 : (Nat → Int32)) (uE : Nat) (uD : Nat) (uV : Nat) (uP : Nat) (a1 : Int32) (a2 : Int32) (a3 : Int32) (a4 : Int32) (z : (Int32 × (Nat → Int32) × Int32 × Int32 × Int32 × Int32 × Int32 × Int32)) (h : fX5_fall S_r0 S_r1 S_r2 S_r3 S_r4 S_x5 S_x6 S_x7 S_x8 T_r0 T_x1 T_x2 T_x3 T_x4 T_x5 T_x6 a1 a2 a3 a4 = some z) : Mt l yX5_fall cX5_fall 10 (some .int) 4 94 D cI cB cS (lW uL uE uD uT uV uS uP L_x6 L_x7 ++ (tW cI uT aT T_x1 T_x2 T_x3 T_x4 T_x5 T_x6 T_r0 ++ (sW cI uS aS S_x5 S_x6 S_x7 S_x8 S_x9 S_r0 S_r1 S_r2 S_r3 S_r4))) (lW uL uE uD uT uV uS uP L_x6 L_x7 ++ (tW cI uT aT z.2.2.1 z.2.2.2.1 z.2.2.2.2.1 z.2.2.2.2.2.1 z.2.2.2.2.2.2.1 z.2.2.2.2.2.2.2 z.2.1 ++ (sW cI uS aS S_x5 S_x6 S_x7 S_x8 S_x9 S_r0 S_r1 S_r2 S_r3 S_r4))) [.ref uL, .int a1, .int a2, .int a3, .int a4] (some (.int z.1)) := by
  refine entryI (by decide +kernel) rfl (Nat.le_of_ble_eq_true rfl) ?_
  intro p e s m below meth c A ls QQ R ar F hRet jP jD jS jl
  obtain ⟨hx, hb, hml, hown, hts, jK, hA, hf1, hf2⟩ := id F
  have jl : lv_has ls 10 [(0, .ref uL), (1, .int a1), (2, .int a2), (3, .int a3), (4, .int a4)] := jl
  unfold fX5_fall at h
  refine lv_iload hx hb dX5_fall_0 (lv_at jl 4 rfl) ?_
  refine lv_iconst (v := (0 : Int32)) hx hb dX5_fall_2 (by decide) ?_
  refine lv_iconst (v := (1 : Int32)) hx hb dX5_fall_3 (by decide) ?_
  obtain ⟨t1, hc2, h⟩ := bd_some h
  refine call0 (As := [.int a4, .int (0 : Int32), .int (1 : Int32)]) (rest := []) (st1 := [.int t1]) F (kX5_isWithin l D cI cB cS  a4 (0 : Int32) (1 : Int32) _ hc2 ) okX5_isWithin w_105 (by decide) (by decide) ⟨Nat.zero_le _, Nat.zero_le _⟩ jP jD jS rfl jl.1 rfl rfl (Nat.le_of_ble_eq_true rfl) dX5_fall_4 (fun H locs jP jD jS => ?_)
  obtain ⟨t7, hvt7, h⟩ := bd_some h
  have hJt7 : ∀ (H : Heap) (locs : List Loc) (ls : Array Slot), va_P D vwCl (lW uL uE uD uT uV uS uP L_x6 L_x7 ++ (tW cI uT aT T_x1 T_x2 T_x3 T_x4 T_x5 T_x6 T_r0 ++ (sW cI uS aS S_x5 S_x6 S_x7 S_x8 S_x9 S_r0 S_r1 S_r2 S_r3 S_r4))) H → va_D A (lW uL uE uD uT uV uS uP L_x6 L_x7 ++ (tW cI uT aT T_x1 T_x2 T_x3 T_x4 T_x5 T_x6 T_r0 ++ (sW cI uS aS S_x5 S_x6 S_x7 S_x8 S_x9 S_r0 S_r1 S_r2 S_r3 S_r4))) → va_S A s.heap H locs → lv_has ls 10 [(0, .ref uL), (1, .int a1), (2, .int a2), (3, .int a3), (4, .int a4)] → W p l e R s m ar below meth c H locs 0 0 QQ (F0 m 27 ls [.int t7]) := by
    clear jP jD jS jl
    intro H locs ls jP jD jS jl
    refine lv_istore (lv' := [(5, .int t7), (0, .ref uL), (1, .int a1), (2, .int a2), (3, .int a3), (4, .int a4)]) hx hb dX5_fall_27 jl (by decide) rfl (fun ls jl => ?_)
    refine lv_iload_n hx hb dX5_fall_29 rfl (lv_at jl 2 rfl) ?_
    refine lv_iload_n hx hb dX5_fall_30 rfl (lv_at jl 3 rfl) ?_
    obtain ⟨t8, hc9, h⟩ := bd_some h
    refine call0 (As := [.int a1, .int a2]) (rest := []) (st1 := [.int t8]) F (kX5_isOffer l D cI cB cS  a1 a2 _ hc9 ) okX5_isOffer w_361 (by decide) (by decide) ⟨Nat.zero_le _, Nat.zero_le _⟩ jP jD jS rfl jl.1 rfl rfl (Nat.le_of_ble_eq_true rfl) dX5_fall_31 (fun H locs jP jD jS => ?_)
    refine lv_if_eq (tgt := 49) hx hb dX5_fall_34 (by decide) (fun c10 => ?_) (fun c10 => ?_)
    · have h := itp c10 h
      refine lv_iconst (v := (-1 : Int32)) hx hb dX5_fall_49 (by decide) ?_
      obtain rfl := Option.some.inj h
      exact hRet _ _ _ _ jP jD jS dX5_fall_50
    · have h := itn c10 h
      refine lv_iload_n hx hb dX5_fall_37 rfl (lv_at jl 4 rfl) ?_
      obtain ⟨t11, hc12, h⟩ := bd_some h
      refine call0 (As := [.int a3]) (rest := []) (st1 := [.int t11]) F (kX5_isPrice l D cI cB cS  a3 _ hc12 ) okX5_isPrice w_364 (by decide) (by decide) ⟨Nat.zero_le _, Nat.zero_le _⟩ jP jD jS rfl jl.1 rfl rfl (Nat.le_of_ble_eq_true rfl) dX5_fall_38 (fun H locs jP jD jS => ?_)
      refine lv_if_eq (tgt := 49) hx hb dX5_fall_41 (by decide) (fun c13 => ?_) (fun c13 => ?_)
      · have h := itp c13 h
        refine lv_iconst (v := (-1 : Int32)) hx hb dX5_fall_49 (by decide) ?_
        obtain rfl := Option.some.inj h
        exact hRet _ _ _ _ jP jD jS dX5_fall_50
      · have h := itn c13 h
        refine lv_iload hx hb dX5_fall_44 (lv_at jl 0 rfl) ?_
        refine lv_if_ne (tgt := 51) hx hb dX5_fall_46 (by decide) (fun c14 => ?_) (fun c14 => ?_)
        · have h := itn c14 h
          refine lv_iload_n hx hb dX5_fall_51 rfl (lv_at jl 4 rfl) ?_
          refine lv_istore (lv' := [(6, .int a3), (5, .int t7), (0, .ref uL), (1, .int a1), (2, .int a2), (3, .int a3), (4, .int a4)]) hx hb dX5_fall_52 jl (by decide) rfl (fun ls jl => ?_)
          refine lv_iconst (v := (0 : Int32)) hx hb dX5_fall_54 (by decide) ?_
          refine lv_istore (lv' := [(7, .int (0 : Int32)), (6, .int a3), (5, .int t7), (0, .ref uL), (1, .int a1), (2, .int a2), (3, .int a3), (4, .int a4)]) hx hb dX5_fall_55 jl (by decide) rfl (fun ls jl => ?_)
          refine lv_iconst (v := (0 : Int32)) hx hb dX5_fall_57 (by decide) ?_
          refine lv_istore (lv' := [(8, .int (0 : Int32)), (7, .int (0 : Int32)), (6, .int a3), (5, .int t7), (0, .ref uL), (1, .int a1), (2, .int a2), (3, .int a3), (4, .int a4)]) hx hb dX5_fall_58 jl (by decide) rfl (fun ls jl => ?_)
          obtain ⟨T15, hT15, hz15⟩ := bd_some h
          clear h
          have hE15 : ∀ (e15 : (Int32 × Int32 × (Nat → Int32) × Int32 × Int32 × Int32 × Int32 × Int32 × Int32)), T15 = .inr e15 → ∀ (H : Heap) (locs : List Loc) (ls : Array Slot), va_P D vwCl (lW uL uE uD uT uV uS uP L_x6 L_x7 ++ (tW cI uT aT e15.2.2.2.1 e15.2.2.2.2.1 e15.2.2.2.2.2.1 e15.2.2.2.2.2.2.1 e15.2.2.2.2.2.2.2.1 e15.2.2.2.2.2.2.2.2 e15.2.2.1 ++ (sW cI uS aS S_x5 S_x6 S_x7 S_x8 S_x9 S_r0 S_r1 S_r2 S_r3 S_r4))) H → va_D A (lW uL uE uD uT uV uS uP L_x6 L_x7 ++ (tW cI uT aT e15.2.2.2.1 e15.2.2.2.2.1 e15.2.2.2.2.2.1 e15.2.2.2.2.2.2.1 e15.2.2.2.2.2.2.2.1 e15.2.2.2.2.2.2.2.2 e15.2.2.1 ++ (sW cI uS aS S_x5 S_x6 S_x7 S_x8 S_x9 S_r0 S_r1 S_r2 S_r3 S_r4))) → va_S A s.heap H locs → lv_has ls 10 [(0, .ref uL), (4, .int a4), (6, .int e15.1), (7, .int e15.2.1)] → W p l e R s m ar below meth c H locs 0 0 QQ (F0 m 129 ls []) := by
            intro e15 ho
            subst ho
            have hz15 := sm_r hz15
            clear jP jD jS jl
            intro H locs ls jP jD jS jl
            refine lv_iload hx hb dX5_fall_129 (lv_at jl 1 rfl) ?_
            refine lv_if_ne (tgt := 154) hx hb dX5_fall_131 (by decide) (fun c23 => ?_) (fun c23 => ?_)
            · have hz15 := itn c23 hz15
              refine lv_iload hx hb dX5_fall_154 (lv_at jl 1 rfl) ?_
              refine lv_iconst (v := (1 : Int32)) hx hb dX5_fall_156 (by decide) ?_
              refine lv_icmp_ne (tgt := 165) hx hb dX5_fall_157 (by decide) (fun c24 => ?_) (fun c24 => ?_)
              · have hz15 := itn c24 hz15
                refine lv_bipush (v := (-4 : Int32)) hx hb dX5_fall_165 (by decide) ?_
                obtain rfl := Option.some.inj hz15
                exact hRet _ _ _ _ jP jD jS dX5_fall_167
              · have hz15 := itp c24 hz15
                refine lv_iload hx hb dX5_fall_160 (lv_at jl 3 rfl) ?_
                refine lv_goto (tgt := 167) hx hb dX5_fall_162 (by decide) ?_
                obtain rfl := Option.some.inj hz15
                exact hRet _ _ _ _ jP jD jS dX5_fall_167
            · have hz15 := itp c23 hz15
              refine lv_aload_n hx hb dX5_fall_134 rfl (lv_at jl 0 rfl) ?_
              refine va_get (D := D) (ci := 5) (v := .ref uT) (C := RX5) (T := TX5) (N := 8) hx hb hts in5 hown jK.1 jP 0 rfl rfl 2 (by decide) (hts _ w_24) (fun _ h9 => h9) rfl dX5_fall_135 ?_
              refine lv_iload hx hb dX5_fall_138 (lv_at jl 2 rfl) ?_
              obtain ⟨t25, hc26, hz15⟩ := bd_some hz15
              refine callP (wc := (tW cI uT aT e15.2.2.2.1 e15.2.2.2.2.1 e15.2.2.2.2.2.1 e15.2.2.2.2.2.2.1 e15.2.2.2.2.2.2.2.1 e15.2.2.2.2.2.2.2.2 e15.2.2.1)) (wr := (lW uL uE uD uT uV uS uP L_x6 L_x7 ++ (sW cI uS aS S_x5 S_x6 S_x7 S_x8 S_x9 S_r0 S_r1 S_r2 S_r3 S_r4))) (w1 := (tW cI uT aT e15.2.2.2.1 e15.2.2.2.2.1 e15.2.2.2.2.2.1 e15.2.2.2.2.2.2.1 e15.2.2.2.2.2.2.2.1 e15.2.2.2.2.2.2.2.2 e15.2.2.1)) (ws1 := (lW uL uE uD uT uV uS uP L_x6 L_x7 ++ (tW cI uT aT e15.2.2.2.1 e15.2.2.2.2.1 e15.2.2.2.2.2.1 e15.2.2.2.2.2.2.1 e15.2.2.2.2.2.2.2.1 e15.2.2.2.2.2.2.2.2 e15.2.2.1 ++ (sW cI uS aS S_x5 S_x6 S_x7 S_x8 S_x9 S_r0 S_r1 S_r2 S_r3 S_r4)))) (As := [.int e15.1]) (rest := []) (st1 := [.int t25]) 0 [1, 2] [0, 3, 4, 5, 6, 7, 8] [0, 7, 8, 1, 2, 3, 4, 5, 6] F (kX4_holdsAt l D cI cB cS uT aT e15.2.2.2.1 e15.2.2.2.2.1 e15.2.2.2.2.2.1 e15.2.2.2.2.2.2.1 e15.2.2.2.2.2.2.2.1 e15.2.2.2.2.2.2.2.2 e15.2.2.1 e15.1 _ hc26 ) okX4_holdsAt w_487 (by decide) (by decide) ⟨Nat.zero_le _, Nat.zero_le _⟩ rfl rfl rfl jP jD jS rfl jl.1 rfl rfl (Nat.le_of_ble_eq_true rfl) dX5_fall_140 rfl rfl (by decide) (by decide) (by decide) rfl (by decide) (fun H locs jP jD jS => ?_)
              refine lv_if_eq (tgt := 151) hx hb dX5_fall_143 (by decide) (fun c27 => ?_) (fun c27 => ?_)
              · have hz15 := itp c27 hz15
                refine lv_bipush (v := (-4 : Int32)) hx hb dX5_fall_151 (by decide) ?_
                obtain rfl := Option.some.inj hz15
                exact hRet _ _ _ _ jP jD jS dX5_fall_153
              · have hz15 := itn c27 hz15
                refine lv_iload hx hb dX5_fall_146 (lv_at jl 2 rfl) ?_
                refine lv_goto (tgt := 153) hx hb dX5_fall_148 (by decide) ?_
                obtain rfl := Option.some.inj hz15
                exact hRet _ _ _ _ jP jD jS dX5_fall_153
          have hL15 : ∀ (n : Nat) (v15 : (Int32 × Int32 × Int32 × (Nat → Int32) × Int32 × Int32 × Int32 × Int32 × Int32 × Int32)), loopF (fX5_fall_b60 a1 a2 a4 S_r0 S_r1 S_r2 S_r3 S_r4 S_x5 S_x6 S_x7 S_x8) n v15 = some T15 → ∀ (H : Heap) (locs : List Loc) (ls : Array Slot), va_P D vwCl (lW uL uE uD uT uV uS uP L_x6 L_x7 ++ (tW cI uT aT v15.2.2.2.2.1 v15.2.2.2.2.2.1 v15.2.2.2.2.2.2.1 v15.2.2.2.2.2.2.2.1 v15.2.2.2.2.2.2.2.2.1 v15.2.2.2.2.2.2.2.2.2 v15.2.2.2.1 ++ (sW cI uS aS S_x5 S_x6 S_x7 S_x8 S_x9 S_r0 S_r1 S_r2 S_r3 S_r4))) H → va_D A (lW uL uE uD uT uV uS uP L_x6 L_x7 ++ (tW cI uT aT v15.2.2.2.2.1 v15.2.2.2.2.2.1 v15.2.2.2.2.2.2.1 v15.2.2.2.2.2.2.2.1 v15.2.2.2.2.2.2.2.2.1 v15.2.2.2.2.2.2.2.2.2 v15.2.2.2.1 ++ (sW cI uS aS S_x5 S_x6 S_x7 S_x8 S_x9 S_r0 S_r1 S_r2 S_r3 S_r4))) → va_S A s.heap H locs → lv_has ls 10 [(0, .ref uL), (1, .int a1), (2, .int a2), (4, .int a4), (6, .int v15.1), (7, .int v15.2.1), (8, .int v15.2.2.1)] → W p l e R s m ar below meth c H locs 0 0 QQ (F0 m 60 ls []) := by
            clear jP jD jS jl hT15
            intro n
            induction n with
            | zero => intro v15 hq; exact (loop_none hq).elim
            | succ n ih =>
              intro v15 hq H locs ls jP jD jS jl
              obtain ⟨o15, hv15, hq15⟩ := loop_some hq
              clear hq
              unfold fX5_fall_b60 at hv15
              refine lv_iload hx hb dX5_fall_60 (lv_at jl 6 rfl) ?_
              refine lv_bipush (v := (100 : Int32)) hx hb dX5_fall_62 (by decide) ?_
              refine lv_icmp_ge (tgt := 129) hx hb dX5_fall_64 (by decide) (fun c16 => ?_) (fun c16 => ?_)
              · have hv15 := itp c16 hv15
                obtain rfl := Option.some.inj hv15
                obtain rfl := nxt_r hq15
                exact hE15 _ rfl _ _ _ jP jD jS (lv_sub jl [0, 3, 4, 5] rfl)
              · have hv15 := itn c16 hv15
                refine lv_iload hx hb dX5_fall_67 (lv_at jl 3 rfl) ?_
                refine lv_bipush (v := (10 : Int32)) hx hb dX5_fall_69 (by decide) ?_
                refine lv_iload hx hb dX5_fall_71 (lv_at jl 5 rfl) ?_
                refine lv_iadd hx hb dX5_fall_73 ?_
                refine lv_icmp_ne (tgt := 80) hx hb dX5_fall_74 (by decide) (fun c17 => ?_) (fun c17 => ?_)
                · have hv15 := itn c17 hv15
                  refine lv_aload_n hx hb dX5_fall_80 rfl (lv_at jl 0 rfl) ?_
                  refine va_get (D := D) (ci := 5) (v := .ref uT) (C := RX5) (T := TX5) (N := 8) hx hb hts in5 hown jK.1 jP 0 rfl rfl 2 (by decide) (hts _ w_24) (fun _ h9 => h9) rfl dX5_fall_81 ?_
                  refine lv_aload_n hx hb dX5_fall_84 rfl (lv_at jl 0 rfl) ?_
                  refine va_get (D := D) (ci := 5) (v := .ref uS) (C := RX5) (T := TX5) (N := 8) hx hb hts in5 hown jK.1 jP 0 rfl rfl 4 (by decide) (hts _ w_32) (fun _ h9 => h9) rfl dX5_fall_85 ?_
                  refine lv_iload_n hx hb dX5_fall_88 rfl (lv_at jl 1 rfl) ?_
                  refine lv_iload_n hx hb dX5_fall_89 rfl (lv_at jl 2 rfl) ?_
                  refine lv_iload hx hb dX5_fall_90 (lv_at jl 4 rfl) ?_
                  obtain ⟨t18, hc19, hv15⟩ := bd_some hv15
                  refine callP (wc := (tW cI uT aT v15.2.2.2.2.1 v15.2.2.2.2.2.1 v15.2.2.2.2.2.2.1 v15.2.2.2.2.2.2.2.1 v15.2.2.2.2.2.2.2.2.1 v15.2.2.2.2.2.2.2.2.2 v15.2.2.2.1 ++ (sW cI uS aS S_x5 S_x6 S_x7 S_x8 S_x9 S_r0 S_r1 S_r2 S_r3 S_r4))) (wr := (lW uL uE uD uT uV uS uP L_x6 L_x7)) (w1 := (tW cI uT aT t18.2.1 t18.2.2.1 t18.2.2.2.1 t18.2.2.2.2.1 t18.2.2.2.2.2.1 t18.2.2.2.2.2.2 t18.1 ++ (sW cI uS aS S_x5 S_x6 S_x7 S_x8 S_x9 S_r0 S_r1 S_r2 S_r3 S_r4))) (ws1 := (lW uL uE uD uT uV uS uP L_x6 L_x7 ++ (tW cI uT aT t18.2.1 t18.2.2.1 t18.2.2.2.1 t18.2.2.2.2.1 t18.2.2.2.2.2.1 t18.2.2.2.2.2.2 t18.1 ++ (sW cI uS aS S_x5 S_x6 S_x7 S_x8 S_x9 S_r0 S_r1 S_r2 S_r3 S_r4)))) (As := [.ref uS, .int a1, .int a2, .int v15.1]) (rest := []) (st1 := []) 0 [1, 2, 3, 4, 5, 6, 7, 8] [0] [0, 1, 2, 3, 4, 5, 6, 7, 8] F (kX4_make l D cI cB cS uT aT v15.2.2.2.2.1 v15.2.2.2.2.2.1 v15.2.2.2.2.2.2.1 v15.2.2.2.2.2.2.2.1 v15.2.2.2.2.2.2.2.2.1 v15.2.2.2.2.2.2.2.2.2 v15.2.2.2.1 uS aS S_x5 S_x6 S_x7 S_x8 S_x9 S_r0 S_r1 S_r2 S_r3 S_r4 a1 a2 v15.1 _ hc19 ) okX4_make w_367 (by decide) (by decide) ⟨Nat.zero_le _, Nat.zero_le _⟩ rfl rfl rfl jP jD jS rfl jl.1 rfl rfl (Nat.le_of_ble_eq_true rfl) dX5_fall_92 rfl rfl (by decide) (by decide) (by decide) rfl (by decide) (fun H locs jP jD jS => ?_)
                  refine lv_aload_n hx hb dX5_fall_95 rfl (lv_at jl 0 rfl) ?_
                  refine va_get (D := D) (ci := 5) (v := .ref uT) (C := RX5) (T := TX5) (N := 8) hx hb hts in5 hown jK.1 jP 0 rfl rfl 2 (by decide) (hts _ w_24) (fun _ h9 => h9) rfl dX5_fall_96 ?_
                  refine lv_iload hx hb dX5_fall_99 (lv_at jl 4 rfl) ?_
                  obtain ⟨t20, hc21, hv15⟩ := bd_some hv15
                  refine callP (wc := (tW cI uT aT t18.2.1 t18.2.2.1 t18.2.2.2.1 t18.2.2.2.2.1 t18.2.2.2.2.2.1 t18.2.2.2.2.2.2 t18.1)) (wr := (lW uL uE uD uT uV uS uP L_x6 L_x7 ++ (sW cI uS aS S_x5 S_x6 S_x7 S_x8 S_x9 S_r0 S_r1 S_r2 S_r3 S_r4))) (w1 := (tW cI uT aT t18.2.1 t18.2.2.1 t18.2.2.2.1 t18.2.2.2.2.1 t18.2.2.2.2.2.1 t18.2.2.2.2.2.2 t18.1)) (ws1 := (lW uL uE uD uT uV uS uP L_x6 L_x7 ++ (tW cI uT aT t18.2.1 t18.2.2.1 t18.2.2.2.1 t18.2.2.2.2.1 t18.2.2.2.2.2.1 t18.2.2.2.2.2.2 t18.1 ++ (sW cI uS aS S_x5 S_x6 S_x7 S_x8 S_x9 S_r0 S_r1 S_r2 S_r3 S_r4)))) (As := [.int v15.1]) (rest := []) (st1 := [.int t20]) 0 [1, 2] [0, 3, 4, 5, 6, 7, 8] [0, 7, 8, 1, 2, 3, 4, 5, 6] F (kX4_priceBehind l D cI cB cS uT aT t18.2.1 t18.2.2.1 t18.2.2.2.1 t18.2.2.2.2.1 t18.2.2.2.2.2.1 t18.2.2.2.2.2.2 t18.1 v15.1 _ hc21 ) okX4_priceBehind w_508 (by decide) (by decide) ⟨Nat.zero_le _, Nat.zero_le _⟩ rfl rfl rfl jP jD jS rfl jl.1 rfl rfl (Nat.le_of_ble_eq_true rfl) dX5_fall_101 rfl rfl (by decide) (by decide) (by decide) rfl (by decide) (fun H locs jP jD jS => ?_)
                  refine lv_istore (lv' := [(9, .int t20), (0, .ref uL), (1, .int a1), (2, .int a2), (4, .int a4), (6, .int v15.1), (7, .int v15.2.1), (8, .int v15.2.2.1)]) hx hb dX5_fall_104 jl (by decide) rfl (fun ls jl => ?_)
                  refine lv_iload hx hb dX5_fall_106 (lv_at jl 0 rfl) ?_
                  refine lv_iload hx hb dX5_fall_108 (lv_at jl 5 rfl) ?_
                  refine lv_icmp_ne (tgt := 116) hx hb dX5_fall_110 (by decide) (fun c22 => ?_) (fun c22 => ?_)
                  · have hv15 := itn c22 hv15
                    refine lv_iload hx hb dX5_fall_116 (lv_at jl 0 rfl) ?_
                    refine lv_istore (lv' := [(6, .int t20), (9, .int t20), (0, .ref uL), (1, .int a1), (2, .int a2), (4, .int a4), (7, .int v15.2.1), (8, .int v15.2.2.1)]) hx hb dX5_fall_118 jl (by decide) rfl (fun ls jl => ?_)
                    refine lv_iinc (v := (v15.2.1 + (1 : Int32))) (lv' := [(7, .int (v15.2.1 + (1 : Int32))), (6, .int t20), (9, .int t20), (0, .ref uL), (1, .int a1), (2, .int a2), (4, .int a4), (8, .int v15.2.2.1)]) hx hb dX5_fall_120 jl (k := 6) rfl rfl (by decide) rfl (fun ls jl => ?_)
                    refine lv_iinc (v := (v15.2.2.1 + (1 : Int32))) (lv' := [(8, .int (v15.2.2.1 + (1 : Int32))), (7, .int (v15.2.1 + (1 : Int32))), (6, .int t20), (9, .int t20), (0, .ref uL), (1, .int a1), (2, .int a2), (4, .int a4)]) hx hb dX5_fall_123 jl (k := 7) rfl rfl (by decide) rfl (fun ls jl => ?_)
                    refine lv_goto (tgt := 60) hx hb dX5_fall_126 (by decide) ?_
                    obtain rfl := Option.some.inj hv15
                    exact ih _ (nxt_l hq15) _ _ _ jP jD jS (lv_sub jl [4, 5, 6, 7, 2, 1, 0] rfl)
                  · have hv15 := itp c22 hv15
                    refine lv_goto (tgt := 129) hx hb dX5_fall_113 (by decide) ?_
                    obtain rfl := Option.some.inj hv15
                    obtain rfl := nxt_r hq15
                    exact hE15 _ rfl _ _ _ jP jD jS (lv_sub jl [1, 4, 5, 6] rfl)
                · have hv15 := itp c17 hv15
                  refine lv_iload hx hb dX5_fall_77 (lv_at jl 4 rfl) ?_
                  obtain rfl := Option.some.inj hv15
                  obtain rfl := nxt_r hq15
                  have hz15 := sm_l hz15
                  obtain rfl := Option.some.inj hz15
                  exact hRet _ _ _ _ jP jD jS dX5_fall_79
          exact hL15 1000 _ hT15 _ _ _ jP jD jS (lv_sub jl [4, 5, 6, 8, 2, 1, 0] rfl)
        · have h := itp c14 h
          refine lv_iconst (v := (-1 : Int32)) hx hb dX5_fall_49 (by decide) ?_
          obtain rfl := Option.some.inj h
          exact hRet _ _ _ _ jP jD jS dX5_fall_50
  clear h
  refine lv_if_ne (tgt := 22) hx hb dX5_fall_7 (by decide) (fun c3 => ?_) (fun c3 => ?_)
  · have hvt7 := itn c3 hvt7
    refine lv_iconst (v := (1 : Int32)) hx hb dX5_fall_22 (by decide) ?_
    refine lv_goto (tgt := 27) hx hb dX5_fall_23 (by decide) ?_
    obtain rfl := Option.some.inj hvt7
    exact hJt7 _ _ _ jP jD jS (lv_sub jl [0, 1, 2, 3, 4] rfl)
  · have hvt7 := itp c3 hvt7
    refine lv_iload hx hb dX5_fall_10 (lv_at jl 4 rfl) ?_
    refine lv_bipush (v := (10 : Int32)) hx hb dX5_fall_12 (by decide) ?_
    refine lv_bipush (v := (99 : Int32)) hx hb dX5_fall_14 (by decide) ?_
    obtain ⟨t4, hc5, hvt7⟩ := bd_some hvt7
    refine call0 (As := [.int a4, .int (10 : Int32), .int (99 : Int32)]) (rest := []) (st1 := [.int t4]) F (kX5_isWithin l D cI cB cS  a4 (10 : Int32) (99 : Int32) _ hc5 ) okX5_isWithin w_105 (by decide) (by decide) ⟨Nat.zero_le _, Nat.zero_le _⟩ jP jD jS rfl jl.1 rfl rfl (Nat.le_of_ble_eq_true rfl) dX5_fall_16 (fun H locs jP jD jS => ?_)
    refine lv_if_eq (tgt := 26) hx hb dX5_fall_19 (by decide) (fun c6 => ?_) (fun c6 => ?_)
    · have hvt7 := itp c6 hvt7
      refine lv_iconst (v := (0 : Int32)) hx hb dX5_fall_26 (by decide) ?_
      obtain rfl := Option.some.inj hvt7
      exact hJt7 _ _ _ jP jD jS (lv_sub jl [0, 1, 2, 3, 4] rfl)
    · have hvt7 := itn c6 hvt7
      refine lv_iconst (v := (1 : Int32)) hx hb dX5_fall_22 (by decide) ?_
      refine lv_goto (tgt := 27) hx hb dX5_fall_23 (by decide) ?_
      obtain rfl := Option.some.inj hvt7
      exact hJt7 _ _ _ jP jD jS (lv_sub jl [0, 1, 2, 3, 4] rfl)
theorem okX5_gain : okV yX5_gain cX5_gain 4 (some .int) 3 := ⟨w_526, w_527, w_528, w_2, by decide, by decide, by decide +kernel⟩
def fX5_gain (S_r0 : (Nat → Int32)) (S_r1 : (Nat → Int32)) (S_r2 : (Nat → Int32)) (S_r3 : (Nat → Int32)) (S_r4 : (Nat → Int32)) (S_x5 : Int32) (S_x6 : Int32) (S_x7 : Int32) (S_x8 : Int32) (T_r0 : (Nat → Int32)) (T_x1 : Int32) (T_x2 : Int32) (T_x3 : Int32) (T_x4 : Int32) (T_x5 : Int32) (T_x6 : Int32) (a1 : Int32) (a2 : Int32) (a3 : Int32) : Option (Int32 × (Nat → Int32) × Int32 × Int32 × Int32 × Int32 × Int32 × Int32) :=
  bd (fX5_isOffer a1 a2) (fun t1 => if t1 = (0 : Int32) then (some ((-1000000000 : Int32), T_r0, T_x1, T_x2, T_x3, T_x4, T_x5, T_x6)) else (bd (fX5_isPrice a3) (fun t4 => if t4 = (0 : Int32) then (some ((-1000000000 : Int32), T_r0, T_x1, T_x2, T_x3, T_x4, T_x5, T_x6)) else (bd (fX5_gainAt (S_r0) (S_r1) (S_r2) (S_r3) (S_r4) (S_x5) (S_x6) (S_x7) (S_x8) (T_r0) a1 a2 a3) (fun t7 => some (t7.1, t7.2.1, t7.2.2.1, t7.2.2.2.1, t7.2.2.2.2.1, t7.2.2.2.2.2.1, t7.2.2.2.2.2.2.1, t7.2.2.2.2.2.2.2))))))
set_option maxRecDepth 100000 in
set_option maxHeartbeats 4000000 in
theorem kX5_gain (l : Launch) (D : va_G) (cI cB cS : ClassId) (uL : Nat) (L_x6 : Int32) (L_x7 : Int32) (uT : Nat) (aT : Nat → Nat) (T_x1 : Int32) (T_x2 : Int32) (T_x3 : Int32) (T_x4 : Int32) (T_x5 : Int32) (T_x6 : Int32) (T_r0 : (Nat → Int32)) (uS : Nat) (aS : Nat → Nat) (S_x5 : Int32) (S_x6 : Int32) (S_x7 : Int32) (S_x8 : Int32) (S_x9 : Int32) (S_r0 : (Nat → Int32)) (S_r1 : (Nat → Int32)) (S_r2 : (Nat → Int32)) (S_r3 : (Nat → Int32)) (S_r4 : (Nat → Int32)) (uE : Nat) (uD : Nat) (uV : Nat) (uP : Nat) (a1 : Int32) (a2 : Int32) (a3 : Int32) (z : (Int32 × (Nat → Int32) × Int32 × Int32 × Int32 × Int32 × Int32 × Int32)) (h : fX5_gain S_r0 S_r1 S_r2 S_r3 S_r4 S_x5 S_x6 S_x7 S_x8 T_r0 T_x1 T_x2 T_x3 T_x4 T_x5 T_x6 a1 a2 a3 = some z) : Mt l yX5_gain cX5_gain 4 (some .int) 4 118 D cI cB cS (lW uL uE uD uT uV uS uP L_x6 L_x7 ++ (tW cI uT aT T_x1 T_x2 T_x3 T_x4 T_x5 T_x6 T_r0 ++ (sW cI uS aS S_x5 S_x6 S_x7 S_x8 S_x9 S_r0 S_r1 S_r2 S_r3 S_r4))) (lW uL uE uD uT uV uS uP L_x6 L_x7 ++ (tW cI uT aT z.2.2.1 z.2.2.2.1 z.2.2.2.2.1 z.2.2.2.2.2.1 z.2.2.2.2.2.2.1 z.2.2.2.2.2.2.2 z.2.1 ++ (sW cI uS aS S_x5 S_x6 S_x7 S_x8 S_x9 S_r0 S_r1 S_r2 S_r3 S_r4))) [.ref uL, .int a1, .int a2, .int a3] (some (.int z.1)) := by
  refine entryI (by decide +kernel) rfl (Nat.le_of_ble_eq_true rfl) ?_
  intro p e s m below meth c A ls QQ R ar F hRet jP jD jS jl
  obtain ⟨hx, hb, hml, hown, hts, jK, hA, hf1, hf2⟩ := id F
  have jl : lv_has ls 4 [(0, .ref uL), (1, .int a1), (2, .int a2), (3, .int a3)] := jl
  unfold fX5_gain at h
  refine lv_iload_n hx hb dX5_gain_0 rfl (lv_at jl 1 rfl) ?_
  refine lv_iload_n hx hb dX5_gain_1 rfl (lv_at jl 2 rfl) ?_
  obtain ⟨t1, hc2, h⟩ := bd_some h
  refine call0 (As := [.int a1, .int a2]) (rest := []) (st1 := [.int t1]) F (kX5_isOffer l D cI cB cS  a1 a2 _ hc2 ) okX5_isOffer w_361 (by decide) (by decide) ⟨Nat.zero_le _, Nat.zero_le _⟩ jP jD jS rfl jl.1 rfl rfl (Nat.le_of_ble_eq_true rfl) dX5_gain_2 (fun H locs jP jD jS => ?_)
  refine lv_if_eq (tgt := 15) hx hb dX5_gain_5 (by decide) (fun c3 => ?_) (fun c3 => ?_)
  · have h := itp c3 h
    refine lv_ldc (v := (-1000000000 : Int32)) hx hb hown (hts _ w_460) dX5_gain_15 ?_
    obtain rfl := Option.some.inj h
    exact hRet _ _ _ _ jP jD jS dX5_gain_17
  · have h := itn c3 h
    refine lv_iload_n hx hb dX5_gain_8 rfl (lv_at jl 3 rfl) ?_
    obtain ⟨t4, hc5, h⟩ := bd_some h
    refine call0 (As := [.int a3]) (rest := []) (st1 := [.int t4]) F (kX5_isPrice l D cI cB cS  a3 _ hc5 ) okX5_isPrice w_364 (by decide) (by decide) ⟨Nat.zero_le _, Nat.zero_le _⟩ jP jD jS rfl jl.1 rfl rfl (Nat.le_of_ble_eq_true rfl) dX5_gain_9 (fun H locs jP jD jS => ?_)
    refine lv_if_ne (tgt := 18) hx hb dX5_gain_12 (by decide) (fun c6 => ?_) (fun c6 => ?_)
    · have h := itn c6 h
      refine lv_aload_n hx hb dX5_gain_18 rfl (lv_at jl 0 rfl) ?_
      refine lv_aload_n hx hb dX5_gain_19 rfl (lv_at jl 0 rfl) ?_
      refine va_get (D := D) (ci := 5) (v := .ref uS) (C := RX5) (T := TX5) (N := 8) hx hb hts in5 hown jK.1 jP 0 rfl rfl 4 (by decide) (hts _ w_32) (fun _ h9 => h9) rfl dX5_gain_20 ?_
      refine lv_iload_n hx hb dX5_gain_23 rfl (lv_at jl 1 rfl) ?_
      refine lv_iload_n hx hb dX5_gain_24 rfl (lv_at jl 2 rfl) ?_
      refine lv_iload_n hx hb dX5_gain_25 rfl (lv_at jl 3 rfl) ?_
      obtain ⟨t7, hc8, h⟩ := bd_some h
      refine callW (w1 := (lW uL uE uD uT uV uS uP L_x6 L_x7 ++ (tW cI uT aT t7.2.2.1 t7.2.2.2.1 t7.2.2.2.2.1 t7.2.2.2.2.2.1 t7.2.2.2.2.2.2.1 t7.2.2.2.2.2.2.2 t7.2.1 ++ (sW cI uS aS S_x5 S_x6 S_x7 S_x8 S_x9 S_r0 S_r1 S_r2 S_r3 S_r4)))) (As := [.ref uS, .int a1, .int a2, .int a3]) (rest := []) (st1 := [.int t7.1]) 0 F (kX5_gainAt l D cI cB cS uL L_x6 L_x7 uT aT T_x1 T_x2 T_x3 T_x4 T_x5 T_x6 T_r0 uS aS S_x5 S_x6 S_x7 S_x8 S_x9 S_r0 S_r1 S_r2 S_r3 S_r4 uE uD uV uS uP a1 a2 a3 _ hc8 ) okX5_gainAt w_529 (by decide) (by decide) ⟨Nat.zero_le _, Nat.zero_le _⟩ rfl rfl rfl jP jD jS rfl jl.1 rfl rfl (Nat.le_of_ble_eq_true rfl) dX5_gain_26 (fun H locs jP jD jS => ?_)
      obtain rfl := Option.some.inj h
      exact hRet _ _ _ _ jP jD jS dX5_gain_29
    · have h := itp c6 h
      refine lv_ldc (v := (-1000000000 : Int32)) hx hb hown (hts _ w_460) dX5_gain_15 ?_
      obtain rfl := Option.some.inj h
      exact hRet _ _ _ _ jP jD jS dX5_gain_17
theorem okX5_lost : okV yX5_lost cX5_lost 4 (some .int) 3 := ⟨w_539, w_540, w_541, w_2, by decide, by decide, by decide +kernel⟩
def fX5_lost (S_r0 : (Nat → Int32)) (S_r1 : (Nat → Int32)) (S_r2 : (Nat → Int32)) (S_r3 : (Nat → Int32)) (S_r4 : (Nat → Int32)) (S_x5 : Int32) (S_x6 : Int32) (S_x7 : Int32) (S_x8 : Int32) (T_r0 : (Nat → Int32)) (T_x1 : Int32) (T_x2 : Int32) (T_x3 : Int32) (T_x4 : Int32) (T_x5 : Int32) (T_x6 : Int32) (a1 : Int32) (a2 : Int32) (a3 : Int32) : Option (Int32 × (Nat → Int32) × Int32 × Int32 × Int32 × Int32 × Int32 × Int32) :=
  bd (fX5_isOffer a1 a2) (fun t1 => if t1 = (0 : Int32) then (some ((-1 : Int32), T_r0, T_x1, T_x2, T_x3, T_x4, T_x5, T_x6)) else (bd (fX5_isPrice a3) (fun t4 => if t4 = (0 : Int32) then (some ((-1 : Int32), T_r0, T_x1, T_x2, T_x3, T_x4, T_x5, T_x6)) else (bd (fX4_make (S_r0) (S_r1) (S_r2) (S_r3) (S_r4) (S_x5) (S_x6) (S_x7) (S_x8) (T_r0) a1 a2 a3) (fun t7 => some (t7.2.2.2.2.2.2, t7.1, t7.2.1, t7.2.2.1, t7.2.2.2.1, t7.2.2.2.2.1, t7.2.2.2.2.2.1, t7.2.2.2.2.2.2))))))
set_option maxRecDepth 100000 in
set_option maxHeartbeats 4000000 in
theorem kX5_lost (l : Launch) (D : va_G) (cI cB cS : ClassId) (uL : Nat) (L_x6 : Int32) (L_x7 : Int32) (uT : Nat) (aT : Nat → Nat) (T_x1 : Int32) (T_x2 : Int32) (T_x3 : Int32) (T_x4 : Int32) (T_x5 : Int32) (T_x6 : Int32) (T_r0 : (Nat → Int32)) (uS : Nat) (aS : Nat → Nat) (S_x5 : Int32) (S_x6 : Int32) (S_x7 : Int32) (S_x8 : Int32) (S_x9 : Int32) (S_r0 : (Nat → Int32)) (S_r1 : (Nat → Int32)) (S_r2 : (Nat → Int32)) (S_r3 : (Nat → Int32)) (S_r4 : (Nat → Int32)) (uE : Nat) (uD : Nat) (uV : Nat) (uP : Nat) (a1 : Int32) (a2 : Int32) (a3 : Int32) (z : (Int32 × (Nat → Int32) × Int32 × Int32 × Int32 × Int32 × Int32 × Int32)) (h : fX5_lost S_r0 S_r1 S_r2 S_r3 S_r4 S_x5 S_x6 S_x7 S_x8 T_r0 T_x1 T_x2 T_x3 T_x4 T_x5 T_x6 a1 a2 a3 = some z) : Mt l yX5_lost cX5_lost 4 (some .int) 3 94 D cI cB cS (lW uL uE uD uT uV uS uP L_x6 L_x7 ++ (tW cI uT aT T_x1 T_x2 T_x3 T_x4 T_x5 T_x6 T_r0 ++ (sW cI uS aS S_x5 S_x6 S_x7 S_x8 S_x9 S_r0 S_r1 S_r2 S_r3 S_r4))) (lW uL uE uD uT uV uS uP L_x6 L_x7 ++ (tW cI uT aT z.2.2.1 z.2.2.2.1 z.2.2.2.2.1 z.2.2.2.2.2.1 z.2.2.2.2.2.2.1 z.2.2.2.2.2.2.2 z.2.1 ++ (sW cI uS aS S_x5 S_x6 S_x7 S_x8 S_x9 S_r0 S_r1 S_r2 S_r3 S_r4))) [.ref uL, .int a1, .int a2, .int a3] (some (.int z.1)) := by
  refine entryI (by decide +kernel) rfl (Nat.le_of_ble_eq_true rfl) ?_
  intro p e s m below meth c A ls QQ R ar F hRet jP jD jS jl
  obtain ⟨hx, hb, hml, hown, hts, jK, hA, hf1, hf2⟩ := id F
  have jl : lv_has ls 4 [(0, .ref uL), (1, .int a1), (2, .int a2), (3, .int a3)] := jl
  unfold fX5_lost at h
  refine lv_iload_n hx hb dX5_lost_0 rfl (lv_at jl 1 rfl) ?_
  refine lv_iload_n hx hb dX5_lost_1 rfl (lv_at jl 2 rfl) ?_
  obtain ⟨t1, hc2, h⟩ := bd_some h
  refine call0 (As := [.int a1, .int a2]) (rest := []) (st1 := [.int t1]) F (kX5_isOffer l D cI cB cS  a1 a2 _ hc2 ) okX5_isOffer w_361 (by decide) (by decide) ⟨Nat.zero_le _, Nat.zero_le _⟩ jP jD jS rfl jl.1 rfl rfl (Nat.le_of_ble_eq_true rfl) dX5_lost_2 (fun H locs jP jD jS => ?_)
  refine lv_if_eq (tgt := 15) hx hb dX5_lost_5 (by decide) (fun c3 => ?_) (fun c3 => ?_)
  · have h := itp c3 h
    refine lv_iconst (v := (-1 : Int32)) hx hb dX5_lost_15 (by decide) ?_
    obtain rfl := Option.some.inj h
    exact hRet _ _ _ _ jP jD jS dX5_lost_16
  · have h := itn c3 h
    refine lv_iload_n hx hb dX5_lost_8 rfl (lv_at jl 3 rfl) ?_
    obtain ⟨t4, hc5, h⟩ := bd_some h
    refine call0 (As := [.int a3]) (rest := []) (st1 := [.int t4]) F (kX5_isPrice l D cI cB cS  a3 _ hc5 ) okX5_isPrice w_364 (by decide) (by decide) ⟨Nat.zero_le _, Nat.zero_le _⟩ jP jD jS rfl jl.1 rfl rfl (Nat.le_of_ble_eq_true rfl) dX5_lost_9 (fun H locs jP jD jS => ?_)
    refine lv_if_ne (tgt := 17) hx hb dX5_lost_12 (by decide) (fun c6 => ?_) (fun c6 => ?_)
    · have h := itn c6 h
      refine lv_aload_n hx hb dX5_lost_17 rfl (lv_at jl 0 rfl) ?_
      refine va_get (D := D) (ci := 5) (v := .ref uT) (C := RX5) (T := TX5) (N := 8) hx hb hts in5 hown jK.1 jP 0 rfl rfl 2 (by decide) (hts _ w_24) (fun _ h9 => h9) rfl dX5_lost_18 ?_
      refine lv_aload_n hx hb dX5_lost_21 rfl (lv_at jl 0 rfl) ?_
      refine va_get (D := D) (ci := 5) (v := .ref uS) (C := RX5) (T := TX5) (N := 8) hx hb hts in5 hown jK.1 jP 0 rfl rfl 4 (by decide) (hts _ w_32) (fun _ h9 => h9) rfl dX5_lost_22 ?_
      refine lv_iload_n hx hb dX5_lost_25 rfl (lv_at jl 1 rfl) ?_
      refine lv_iload_n hx hb dX5_lost_26 rfl (lv_at jl 2 rfl) ?_
      refine lv_iload_n hx hb dX5_lost_27 rfl (lv_at jl 3 rfl) ?_
      obtain ⟨t7, hc8, h⟩ := bd_some h
      refine callP (wc := (tW cI uT aT T_x1 T_x2 T_x3 T_x4 T_x5 T_x6 T_r0 ++ (sW cI uS aS S_x5 S_x6 S_x7 S_x8 S_x9 S_r0 S_r1 S_r2 S_r3 S_r4))) (wr := (lW uL uE uD uT uV uS uP L_x6 L_x7)) (w1 := (tW cI uT aT t7.2.1 t7.2.2.1 t7.2.2.2.1 t7.2.2.2.2.1 t7.2.2.2.2.2.1 t7.2.2.2.2.2.2 t7.1 ++ (sW cI uS aS S_x5 S_x6 S_x7 S_x8 S_x9 S_r0 S_r1 S_r2 S_r3 S_r4))) (ws1 := (lW uL uE uD uT uV uS uP L_x6 L_x7 ++ (tW cI uT aT t7.2.1 t7.2.2.1 t7.2.2.2.1 t7.2.2.2.2.1 t7.2.2.2.2.2.1 t7.2.2.2.2.2.2 t7.1 ++ (sW cI uS aS S_x5 S_x6 S_x7 S_x8 S_x9 S_r0 S_r1 S_r2 S_r3 S_r4)))) (As := [.ref uS, .int a1, .int a2, .int a3]) (rest := []) (st1 := []) 0 [1, 2, 3, 4, 5, 6, 7, 8] [0] [0, 1, 2, 3, 4, 5, 6, 7, 8] F (kX4_make l D cI cB cS uT aT T_x1 T_x2 T_x3 T_x4 T_x5 T_x6 T_r0 uS aS S_x5 S_x6 S_x7 S_x8 S_x9 S_r0 S_r1 S_r2 S_r3 S_r4 a1 a2 a3 _ hc8 ) okX4_make w_367 (by decide) (by decide) ⟨Nat.zero_le _, Nat.zero_le _⟩ rfl rfl rfl jP jD jS rfl jl.1 rfl rfl (Nat.le_of_ble_eq_true rfl) dX5_lost_28 rfl rfl (by decide) (by decide) (by decide) rfl (by decide) (fun H locs jP jD jS => ?_)
      refine lv_aload_n hx hb dX5_lost_31 rfl (lv_at jl 0 rfl) ?_
      refine va_get (D := D) (ci := 5) (v := .ref uT) (C := RX5) (T := TX5) (N := 8) hx hb hts in5 hown jK.1 jP 0 rfl rfl 2 (by decide) (hts _ w_24) (fun _ h9 => h9) rfl dX5_lost_32 ?_
      refine va_get (D := D) (ci := 4) (v := .int t7.2.2.2.2.2.2) (C := RX4) (T := TX4) (N := 7) hx hb hts in4 hown jK.1 jP 1 rfl rfl 6 (by decide) (hts _ w_542) (fun _ h9 => h9) rfl dX5_lost_35 ?_
      obtain rfl := Option.some.inj h
      exact hRet _ _ _ _ jP jD jS dX5_lost_38
    · have h := itp c6 h
      refine lv_iconst (v := (-1 : Int32)) hx hb dX5_lost_15 (by decide) ?_
      obtain rfl := Option.some.inj h
      exact hRet _ _ _ _ jP jD jS dX5_lost_16
theorem okX5_best : okV yX5_best cX5_best 5 (some .int) 3 := ⟨w_548, w_549, w_550, w_2, by decide, by decide, by decide +kernel⟩
def fX5_best (S_r0 : (Nat → Int32)) (S_r1 : (Nat → Int32)) (S_r2 : (Nat → Int32)) (S_r3 : (Nat → Int32)) (S_r4 : (Nat → Int32)) (S_x5 : Int32) (S_x6 : Int32) (S_x7 : Int32) (S_x8 : Int32) (T_r0 : (Nat → Int32)) (T_x1 : Int32) (T_x2 : Int32) (T_x3 : Int32) (T_x4 : Int32) (T_x5 : Int32) (T_x6 : Int32) (a1 : Int32) (a2 : Int32) (a3 : Int32) : Option (Int32 × (Nat → Int32) × Int32 × Int32 × Int32 × Int32 × Int32 × Int32) :=
  bd (fX5_isOffer a1 a2) (fun t1 => if t1 = (0 : Int32) then (some ((-1000000000 : Int32), T_r0, T_x1, T_x2, T_x3, T_x4, T_x5, T_x6)) else (bd (fX5_isWithin a3 (0 : Int32) (1 : Int32)) (fun t4 => if t4 = (0 : Int32) then (some ((-1000000000 : Int32), T_r0, T_x1, T_x2, T_x3, T_x4, T_x5, T_x6)) else (bd (fX5_bestPrice (S_r0) (S_r1) (S_r2) (S_r3) (S_r4) (S_x5) (S_x6) (S_x7) (S_x8) (T_r0) (T_x1) (T_x2) (T_x3) (T_x4) (T_x5) (T_x6) a1 a2) (fun t7 => if t7.1 = (-4 : Int32) then (some ((-1000000004 : Int32), t7.2.1, t7.2.2.1, t7.2.2.2.1, t7.2.2.2.2.1, t7.2.2.2.2.2.1, t7.2.2.2.2.2.2.1, t7.2.2.2.2.2.2.2)) else (if a3 = (0 : Int32) then (some (t7.1, t7.2.1, t7.2.2.1, t7.2.2.2.1, t7.2.2.2.2.1, t7.2.2.2.2.2.1, t7.2.2.2.2.2.2.1, t7.2.2.2.2.2.2.2)) else (bd (fX5_gainAt (S_r0) (S_r1) (S_r2) (S_r3) (S_r4) (S_x5) (S_x6) (S_x7) (S_x8) t7.2.1 a1 a2 t7.1) (fun t11 => some (t11.1, t11.2.1, t11.2.2.1, t11.2.2.2.1, t11.2.2.2.2.1, t11.2.2.2.2.2.1, t11.2.2.2.2.2.2.1, t11.2.2.2.2.2.2.2)))))))))
set_option maxRecDepth 100000 in
set_option maxHeartbeats 4000000 in
theorem kX5_best (l : Launch) (D : va_G) (cI cB cS : ClassId) (uL : Nat) (L_x6 : Int32) (L_x7 : Int32) (uT : Nat) (aT : Nat → Nat) (T_x1 : Int32) (T_x2 : Int32) (T_x3 : Int32) (T_x4 : Int32) (T_x5 : Int32) (T_x6 : Int32) (T_r0 : (Nat → Int32)) (uS : Nat) (aS : Nat → Nat) (S_x5 : Int32) (S_x6 : Int32) (S_x7 : Int32) (S_x8 : Int32) (S_x9 : Int32) (S_r0 : (Nat → Int32)) (S_r1 : (Nat → Int32)) (S_r2 : (Nat → Int32)) (S_r3 : (Nat → Int32)) (S_r4 : (Nat → Int32)) (uE : Nat) (uD : Nat) (uV : Nat) (uP : Nat) (a1 : Int32) (a2 : Int32) (a3 : Int32) (z : (Int32 × (Nat → Int32) × Int32 × Int32 × Int32 × Int32 × Int32 × Int32)) (h : fX5_best S_r0 S_r1 S_r2 S_r3 S_r4 S_x5 S_x6 S_x7 S_x8 T_r0 T_x1 T_x2 T_x3 T_x4 T_x5 T_x6 a1 a2 a3 = some z) : Mt l yX5_best cX5_best 5 (some .int) 4 120 D cI cB cS (lW uL uE uD uT uV uS uP L_x6 L_x7 ++ (tW cI uT aT T_x1 T_x2 T_x3 T_x4 T_x5 T_x6 T_r0 ++ (sW cI uS aS S_x5 S_x6 S_x7 S_x8 S_x9 S_r0 S_r1 S_r2 S_r3 S_r4))) (lW uL uE uD uT uV uS uP L_x6 L_x7 ++ (tW cI uT aT z.2.2.1 z.2.2.2.1 z.2.2.2.2.1 z.2.2.2.2.2.1 z.2.2.2.2.2.2.1 z.2.2.2.2.2.2.2 z.2.1 ++ (sW cI uS aS S_x5 S_x6 S_x7 S_x8 S_x9 S_r0 S_r1 S_r2 S_r3 S_r4))) [.ref uL, .int a1, .int a2, .int a3] (some (.int z.1)) := by
  refine entryI (by decide +kernel) rfl (Nat.le_of_ble_eq_true rfl) ?_
  intro p e s m below meth c A ls QQ R ar F hRet jP jD jS jl
  obtain ⟨hx, hb, hml, hown, hts, jK, hA, hf1, hf2⟩ := id F
  have jl : lv_has ls 5 [(0, .ref uL), (1, .int a1), (2, .int a2), (3, .int a3)] := jl
  unfold fX5_best at h
  refine lv_iload_n hx hb dX5_best_0 rfl (lv_at jl 1 rfl) ?_
  refine lv_iload_n hx hb dX5_best_1 rfl (lv_at jl 2 rfl) ?_
  obtain ⟨t1, hc2, h⟩ := bd_some h
  refine call0 (As := [.int a1, .int a2]) (rest := []) (st1 := [.int t1]) F (kX5_isOffer l D cI cB cS  a1 a2 _ hc2 ) okX5_isOffer w_361 (by decide) (by decide) ⟨Nat.zero_le _, Nat.zero_le _⟩ jP jD jS rfl jl.1 rfl rfl (Nat.le_of_ble_eq_true rfl) dX5_best_2 (fun H locs jP jD jS => ?_)
  refine lv_if_eq (tgt := 17) hx hb dX5_best_5 (by decide) (fun c3 => ?_) (fun c3 => ?_)
  · have h := itp c3 h
    refine lv_ldc (v := (-1000000000 : Int32)) hx hb hown (hts _ w_460) dX5_best_17 ?_
    obtain rfl := Option.some.inj h
    exact hRet _ _ _ _ jP jD jS dX5_best_19
  · have h := itn c3 h
    refine lv_iload_n hx hb dX5_best_8 rfl (lv_at jl 3 rfl) ?_
    refine lv_iconst (v := (0 : Int32)) hx hb dX5_best_9 (by decide) ?_
    refine lv_iconst (v := (1 : Int32)) hx hb dX5_best_10 (by decide) ?_
    obtain ⟨t4, hc5, h⟩ := bd_some h
    refine call0 (As := [.int a3, .int (0 : Int32), .int (1 : Int32)]) (rest := []) (st1 := [.int t4]) F (kX5_isWithin l D cI cB cS  a3 (0 : Int32) (1 : Int32) _ hc5 ) okX5_isWithin w_105 (by decide) (by decide) ⟨Nat.zero_le _, Nat.zero_le _⟩ jP jD jS rfl jl.1 rfl rfl (Nat.le_of_ble_eq_true rfl) dX5_best_11 (fun H locs jP jD jS => ?_)
    refine lv_if_ne (tgt := 20) hx hb dX5_best_14 (by decide) (fun c6 => ?_) (fun c6 => ?_)
    · have h := itn c6 h
      refine lv_aload_n hx hb dX5_best_20 rfl (lv_at jl 0 rfl) ?_
      refine lv_aload_n hx hb dX5_best_21 rfl (lv_at jl 0 rfl) ?_
      refine va_get (D := D) (ci := 5) (v := .ref uS) (C := RX5) (T := TX5) (N := 8) hx hb hts in5 hown jK.1 jP 0 rfl rfl 4 (by decide) (hts _ w_32) (fun _ h9 => h9) rfl dX5_best_22 ?_
      refine lv_iload_n hx hb dX5_best_25 rfl (lv_at jl 1 rfl) ?_
      refine lv_iload_n hx hb dX5_best_26 rfl (lv_at jl 2 rfl) ?_
      obtain ⟨t7, hc8, h⟩ := bd_some h
      refine callW (w1 := (lW uL uE uD uT uV uS uP L_x6 L_x7 ++ (tW cI uT aT t7.2.2.1 t7.2.2.2.1 t7.2.2.2.2.1 t7.2.2.2.2.2.1 t7.2.2.2.2.2.2.1 t7.2.2.2.2.2.2.2 t7.2.1 ++ (sW cI uS aS S_x5 S_x6 S_x7 S_x8 S_x9 S_r0 S_r1 S_r2 S_r3 S_r4)))) (As := [.ref uS, .int a1, .int a2]) (rest := []) (st1 := [.int t7.1]) 0 F (kX5_bestPrice l D cI cB cS uL L_x6 L_x7 uT aT T_x1 T_x2 T_x3 T_x4 T_x5 T_x6 T_r0 uS aS S_x5 S_x6 S_x7 S_x8 S_x9 S_r0 S_r1 S_r2 S_r3 S_r4 uE uD uV uS uP a1 a2 _ hc8 ) okX5_bestPrice w_551 (by decide) (by decide) ⟨Nat.zero_le _, Nat.zero_le _⟩ rfl rfl rfl jP jD jS rfl jl.1 rfl rfl (Nat.le_of_ble_eq_true rfl) dX5_best_27 (fun H locs jP jD jS => ?_)
      refine lv_istore (lv' := [(4, .int t7.1), (0, .ref uL), (1, .int a1), (2, .int a2), (3, .int a3)]) hx hb dX5_best_30 jl (by decide) rfl (fun ls jl => ?_)
      refine lv_iload hx hb dX5_best_32 (lv_at jl 0 rfl) ?_
      refine lv_bipush (v := (-4 : Int32)) hx hb dX5_best_34 (by decide) ?_
      refine lv_icmp_ne (tgt := 42) hx hb dX5_best_36 (by decide) (fun c9 => ?_) (fun c9 => ?_)
      · have h := itn c9 h
        refine lv_iload_n hx hb dX5_best_42 rfl (lv_at jl 4 rfl) ?_
        refine lv_if_ne (tgt := 51) hx hb dX5_best_43 (by decide) (fun c10 => ?_) (fun c10 => ?_)
        · have h := itn c10 h
          refine lv_aload_n hx hb dX5_best_51 rfl (lv_at jl 1 rfl) ?_
          refine lv_aload_n hx hb dX5_best_52 rfl (lv_at jl 1 rfl) ?_
          refine va_get (D := D) (ci := 5) (v := .ref uS) (C := RX5) (T := TX5) (N := 8) hx hb hts in5 hown jK.1 jP 0 rfl rfl 4 (by decide) (hts _ w_32) (fun _ h9 => h9) rfl dX5_best_53 ?_
          refine lv_iload_n hx hb dX5_best_56 rfl (lv_at jl 2 rfl) ?_
          refine lv_iload_n hx hb dX5_best_57 rfl (lv_at jl 3 rfl) ?_
          refine lv_iload hx hb dX5_best_58 (lv_at jl 0 rfl) ?_
          obtain ⟨t11, hc12, h⟩ := bd_some h
          refine callW (w1 := (lW uL uE uD uT uV uS uP L_x6 L_x7 ++ (tW cI uT aT t11.2.2.1 t11.2.2.2.1 t11.2.2.2.2.1 t11.2.2.2.2.2.1 t11.2.2.2.2.2.2.1 t11.2.2.2.2.2.2.2 t11.2.1 ++ (sW cI uS aS S_x5 S_x6 S_x7 S_x8 S_x9 S_r0 S_r1 S_r2 S_r3 S_r4)))) (As := [.ref uS, .int a1, .int a2, .int t7.1]) (rest := []) (st1 := [.int t11.1]) 0 F (kX5_gainAt l D cI cB cS uL L_x6 L_x7 uT aT t7.2.2.1 t7.2.2.2.1 t7.2.2.2.2.1 t7.2.2.2.2.2.1 t7.2.2.2.2.2.2.1 t7.2.2.2.2.2.2.2 t7.2.1 uS aS S_x5 S_x6 S_x7 S_x8 S_x9 S_r0 S_r1 S_r2 S_r3 S_r4 uE uD uV uS uP a1 a2 t7.1 _ hc12 ) okX5_gainAt w_529 (by decide) (by decide) ⟨Nat.zero_le _, Nat.zero_le _⟩ rfl rfl rfl jP jD jS rfl jl.1 rfl rfl (Nat.le_of_ble_eq_true rfl) dX5_best_60 (fun H locs jP jD jS => ?_)
          obtain rfl := Option.some.inj h
          exact hRet _ _ _ _ jP jD jS dX5_best_63
        · have h := itp c10 h
          refine lv_iload hx hb dX5_best_46 (lv_at jl 0 rfl) ?_
          refine lv_goto (tgt := 63) hx hb dX5_best_48 (by decide) ?_
          obtain rfl := Option.some.inj h
          exact hRet _ _ _ _ jP jD jS dX5_best_63
      · have h := itp c9 h
        refine lv_ldc (v := (-1000000004 : Int32)) hx hb hown (hts _ w_461) dX5_best_39 ?_
        obtain rfl := Option.some.inj h
        exact hRet _ _ _ _ jP jD jS dX5_best_41
    · have h := itp c6 h
      refine lv_ldc (v := (-1000000000 : Int32)) hx hb hown (hts _ w_460) dX5_best_17 ?_
      obtain rfl := Option.some.inj h
      exact hRet _ _ _ _ jP jD jS dX5_best_19
theorem okX5_part : okV yX5_part cX5_part 6 (some .int) 2 := ⟨w_576, w_577, w_578, w_2, by decide, by decide, by decide +kernel⟩
def fX5_part_b40 (l2 : Int32) (l3 : Int32) (S_r1 : (Nat → Int32)) (S_r3 : (Nat → Int32)) (S_x5 : Int32) (S_r0 : (Nat → Int32)) (S_r2 : (Nat → Int32)) (S_r4 : (Nat → Int32)) (S_x6 : Int32) (S_x7 : Int32) (S_x8 : Int32) (v1 : (Int32 × (Nat → Int32) × Int32 × Int32 × Int32 × Int32 × Int32 × Int32)) : Option ((Int32 × (Nat → Int32) × Int32 × Int32 × Int32 × Int32 × Int32 × Int32) ⊕ ((Int32 × (Nat → Int32) × Int32 × Int32 × Int32 × Int32 × Int32 × Int32) ⊕ ((Nat → Int32) × Int32 × Int32 × Int32 × Int32 × Int32 × Int32))) :=
  if (100 : Int32) ≤ v1.1 then (some (.inr (.inr (v1.2.1, v1.2.2.1, v1.2.2.2.1, v1.2.2.2.2.1, v1.2.2.2.2.2.1, v1.2.2.2.2.2.2.1, v1.2.2.2.2.2.2.2)))) else (bd (fX2_leastForWarrant (S_r1) (S_r3) (S_x5) (l3) v1.1) (fun t1 => if (100 : Int32) ≤ t1 then (some (.inl ((v1.1 + (1 : Int32)), v1.2.1, v1.2.2.1, v1.2.2.2.1, v1.2.2.2.2.1, v1.2.2.2.2.2.1, v1.2.2.2.2.2.2.1, v1.2.2.2.2.2.2.2))) else (bd (fX4_make (S_r0) (S_r1) (S_r2) (S_r3) (S_r4) (S_x5) (S_x6) (S_x7) (S_x8) v1.2.1 (1 : Int32) v1.1 t1) (fun t2 => if t2.2.1 = l3 then (bd (fX4_holdsAt t2.2.2.2.1 t2.2.2.2.2.1 t1) (fun t3 => if t3 = (0 : Int32) then (some (.inl ((v1.1 + (1 : Int32)), t2.1, t2.2.1, t2.2.2.1, t2.2.2.2.1, t2.2.2.2.2.1, t2.2.2.2.2.2.1, t2.2.2.2.2.2.2))) else (if l2 = (0 : Int32) then (some (.inr (.inl (v1.1, t2.1, t2.2.1, t2.2.2.1, t2.2.2.2.1, t2.2.2.2.2.1, t2.2.2.2.2.2.1, t2.2.2.2.2.2.2)))) else (some (.inr (.inl (t1, t2.1, t2.2.1, t2.2.2.1, t2.2.2.2.1, t2.2.2.2.2.1, t2.2.2.2.2.2.1, t2.2.2.2.2.2.2))))))) else (some (.inl ((v1.1 + (1 : Int32)), t2.1, t2.2.1, t2.2.2.1, t2.2.2.2.1, t2.2.2.2.2.1, t2.2.2.2.2.2.1, t2.2.2.2.2.2.2)))))))
def fX5_part (S_r0 : (Nat → Int32)) (S_r1 : (Nat → Int32)) (S_r2 : (Nat → Int32)) (S_r3 : (Nat → Int32)) (S_r4 : (Nat → Int32)) (S_x5 : Int32) (S_x6 : Int32) (S_x7 : Int32) (S_x8 : Int32) (T_r0 : (Nat → Int32)) (T_x1 : Int32) (T_x2 : Int32) (T_x3 : Int32) (T_x4 : Int32) (T_x5 : Int32) (T_x6 : Int32) (a1 : Int32) (a2 : Int32) : Option (Int32 × (Nat → Int32) × Int32 × Int32 × Int32 × Int32 × Int32 × Int32) :=
  bd (fX5_isWithin a1 (0 : Int32) (9 : Int32)) (fun t1 => if t1 = (0 : Int32) then (some ((-1 : Int32), T_r0, T_x1, T_x2, T_x3, T_x4, T_x5, T_x6)) else (bd (fX5_isWithin a2 (0 : Int32) (1 : Int32)) (fun t4 => if t4 = (0 : Int32) then (some ((-1 : Int32), T_r0, T_x1, T_x2, T_x3, T_x4, T_x5, T_x6)) else (bd (fX2_failingAtMost (S_r3) (S_x5) a1) (fun t7 => if t7 = (0 : Int32) then (some ((-4 : Int32), T_r0, T_x1, T_x2, T_x3, T_x4, T_x5, T_x6)) else (bd (loopF (fX5_part_b40 a2 t7 S_r1 S_r3 S_x5 S_r0 S_r2 S_r4 S_x6 S_x7 S_x8) 1000 ((0 : Int32), T_r0, T_x1, T_x2, T_x3, T_x4, T_x5, T_x6)) (fun T10 => sm T10 (fun z => some z) (fun e10 => some ((-4 : Int32), e10.1, e10.2.1, e10.2.2.1, e10.2.2.2.1, e10.2.2.2.2.1, e10.2.2.2.2.2.1, e10.2.2.2.2.2.2)))))))))
set_option maxRecDepth 100000 in
set_option maxHeartbeats 4000000 in
theorem kX5_part (l : Launch) (D : va_G) (cI cB cS : ClassId) (uL : Nat) (L_x6 : Int32) (L_x7 : Int32) (uT : Nat) (aT : Nat → Nat) (T_x1 : Int32) (T_x2 : Int32) (T_x3 : Int32) (T_x4 : Int32) (T_x5 : Int32) (T_x6 : Int32) (T_r0 : (Nat → Int32)) (uS : Nat) (aS : Nat → Nat) (S_x5 : Int32) (S_x6 : Int32) (S_x7 : Int32) (S_x8 : Int32) (S_x9 : Int32) (S_r0 : (Nat → Int32)) (S_r1 : (Nat → Int32)) (S_r2 : (Nat → Int32)) (S_r3 : (Nat → Int32)) (S_r4 : (Nat → Int32)) (uE : Nat) (uD : Nat) (uV : Nat) (uP : Nat) (a1 : Int32) (a2 : Int32) (z : (Int32 × (Nat → Int32) × Int32 × Int32 × Int32 × Int32 × Int32 × Int32)) (h : fX5_part S_r0 S_r1 S_r2 S_r3 S_r4 S_x5 S_x6 S_x7 S_x8 T_r0 T_x1 T_x2 T_x3 T_x4 T_x5 T_x6 a1 a2 = some z) : Mt l yX5_part cX5_part 6 (some .int) 3 94 D cI cB cS (lW uL uE uD uT uV uS uP L_x6 L_x7 ++ (tW cI uT aT T_x1 T_x2 T_x3 T_x4 T_x5 T_x6 T_r0 ++ (sW cI uS aS S_x5 S_x6 S_x7 S_x8 S_x9 S_r0 S_r1 S_r2 S_r3 S_r4))) (lW uL uE uD uT uV uS uP L_x6 L_x7 ++ (tW cI uT aT z.2.2.1 z.2.2.2.1 z.2.2.2.2.1 z.2.2.2.2.2.1 z.2.2.2.2.2.2.1 z.2.2.2.2.2.2.2 z.2.1 ++ (sW cI uS aS S_x5 S_x6 S_x7 S_x8 S_x9 S_r0 S_r1 S_r2 S_r3 S_r4))) [.ref uL, .int a1, .int a2] (some (.int z.1)) := by
  refine entryI (by decide +kernel) rfl (Nat.le_of_ble_eq_true rfl) ?_
  intro p e s m below meth c A ls QQ R ar F hRet jP jD jS jl
  obtain ⟨hx, hb, hml, hown, hts, jK, hA, hf1, hf2⟩ := id F
  have jl : lv_has ls 6 [(0, .ref uL), (1, .int a1), (2, .int a2)] := jl
  unfold fX5_part at h
  refine lv_iload_n hx hb dX5_part_0 rfl (lv_at jl 1 rfl) ?_
  refine lv_iconst (v := (0 : Int32)) hx hb dX5_part_1 (by decide) ?_
  refine lv_bipush (v := (9 : Int32)) hx hb dX5_part_2 (by decide) ?_
  obtain ⟨t1, hc2, h⟩ := bd_some h
  refine call0 (As := [.int a1, .int (0 : Int32), .int (9 : Int32)]) (rest := []) (st1 := [.int t1]) F (kX5_isWithin l D cI cB cS  a1 (0 : Int32) (9 : Int32) _ hc2 ) okX5_isWithin w_105 (by decide) (by decide) ⟨Nat.zero_le _, Nat.zero_le _⟩ jP jD jS rfl jl.1 rfl rfl (Nat.le_of_ble_eq_true rfl) dX5_part_4 (fun H locs jP jD jS => ?_)
  refine lv_if_eq (tgt := 19) hx hb dX5_part_7 (by decide) (fun c3 => ?_) (fun c3 => ?_)
  · have h := itp c3 h
    refine lv_iconst (v := (-1 : Int32)) hx hb dX5_part_19 (by decide) ?_
    obtain rfl := Option.some.inj h
    exact hRet _ _ _ _ jP jD jS dX5_part_20
  · have h := itn c3 h
    refine lv_iload_n hx hb dX5_part_10 rfl (lv_at jl 2 rfl) ?_
    refine lv_iconst (v := (0 : Int32)) hx hb dX5_part_11 (by decide) ?_
    refine lv_iconst (v := (1 : Int32)) hx hb dX5_part_12 (by decide) ?_
    obtain ⟨t4, hc5, h⟩ := bd_some h
    refine call0 (As := [.int a2, .int (0 : Int32), .int (1 : Int32)]) (rest := []) (st1 := [.int t4]) F (kX5_isWithin l D cI cB cS  a2 (0 : Int32) (1 : Int32) _ hc5 ) okX5_isWithin w_105 (by decide) (by decide) ⟨Nat.zero_le _, Nat.zero_le _⟩ jP jD jS rfl jl.1 rfl rfl (Nat.le_of_ble_eq_true rfl) dX5_part_13 (fun H locs jP jD jS => ?_)
    refine lv_if_ne (tgt := 21) hx hb dX5_part_16 (by decide) (fun c6 => ?_) (fun c6 => ?_)
    · have h := itn c6 h
      refine lv_aload_n hx hb dX5_part_21 rfl (lv_at jl 0 rfl) ?_
      refine va_get (D := D) (ci := 5) (v := .ref uS) (C := RX5) (T := TX5) (N := 8) hx hb hts in5 hown jK.1 jP 0 rfl rfl 4 (by decide) (hts _ w_32) (fun _ h9 => h9) rfl dX5_part_22 ?_
      refine lv_iload_n hx hb dX5_part_25 rfl (lv_at jl 1 rfl) ?_
      obtain ⟨t7, hc8, h⟩ := bd_some h
      refine callP (wc := (sW cI uS aS S_x5 S_x6 S_x7 S_x8 S_x9 S_r0 S_r1 S_r2 S_r3 S_r4)) (wr := (lW uL uE uD uT uV uS uP L_x6 L_x7 ++ (tW cI uT aT T_x1 T_x2 T_x3 T_x4 T_x5 T_x6 T_r0))) (w1 := (sW cI uS aS S_x5 S_x6 S_x7 S_x8 S_x9 S_r0 S_r1 S_r2 S_r3 S_r4)) (ws1 := (lW uL uE uD uT uV uS uP L_x6 L_x7 ++ (tW cI uT aT T_x1 T_x2 T_x3 T_x4 T_x5 T_x6 T_r0 ++ (sW cI uS aS S_x5 S_x6 S_x7 S_x8 S_x9 S_r0 S_r1 S_r2 S_r3 S_r4)))) (As := [.int a1]) (rest := []) (st1 := [.int t7]) 0 [3, 4, 5, 6, 7, 8] [0, 1, 2] [0, 1, 2, 3, 4, 5, 6, 7, 8] F (kX2_failingAtMost l D cI cB cS uS aS S_x5 S_x6 S_x7 S_x8 S_x9 S_r0 S_r1 S_r2 S_r3 S_r4 a1 _ hc8 ) okX2_failingAtMost w_579 (by decide) (by decide) ⟨Nat.zero_le _, Nat.zero_le _⟩ rfl rfl rfl jP jD jS rfl jl.1 rfl rfl (Nat.le_of_ble_eq_true rfl) dX5_part_26 rfl rfl (by decide) (by decide) (by decide) rfl (by decide) (fun H locs jP jD jS => ?_)
      refine lv_istore_n (lv' := [(3, .int t7), (0, .ref uL), (1, .int a1), (2, .int a2)]) hx hb dX5_part_29 rfl jl (by decide) rfl (fun ls jl => ?_)
      refine lv_iload_n hx hb dX5_part_30 rfl (lv_at jl 0 rfl) ?_
      refine lv_if_ne (tgt := 37) hx hb dX5_part_31 (by decide) (fun c9 => ?_) (fun c9 => ?_)
      · have h := itn c9 h
        refine lv_iconst (v := (0 : Int32)) hx hb dX5_part_37 (by decide) ?_
        refine lv_istore (lv' := [(4, .int (0 : Int32)), (3, .int t7), (0, .ref uL), (1, .int a1), (2, .int a2)]) hx hb dX5_part_38 jl (by decide) rfl (fun ls jl => ?_)
        obtain ⟨T10, hT10, hz10⟩ := bd_some h
        clear h
        have hE10 : ∀ (e10 : ((Nat → Int32) × Int32 × Int32 × Int32 × Int32 × Int32 × Int32)), T10 = .inr e10 → ∀ (H : Heap) (locs : List Loc) (ls : Array Slot), va_P D vwCl (lW uL uE uD uT uV uS uP L_x6 L_x7 ++ (tW cI uT aT e10.2.1 e10.2.2.1 e10.2.2.2.1 e10.2.2.2.2.1 e10.2.2.2.2.2.1 e10.2.2.2.2.2.2 e10.1 ++ (sW cI uS aS S_x5 S_x6 S_x7 S_x8 S_x9 S_r0 S_r1 S_r2 S_r3 S_r4))) H → va_D A (lW uL uE uD uT uV uS uP L_x6 L_x7 ++ (tW cI uT aT e10.2.1 e10.2.2.1 e10.2.2.2.1 e10.2.2.2.2.1 e10.2.2.2.2.2.1 e10.2.2.2.2.2.2 e10.1 ++ (sW cI uS aS S_x5 S_x6 S_x7 S_x8 S_x9 S_r0 S_r1 S_r2 S_r3 S_r4))) → va_S A s.heap H locs → lv_has ls 6 [] → W p l e R s m ar below meth c H locs 0 0 QQ (F0 m 123 ls []) := by
          intro e10 ho
          subst ho
          have hz10 := sm_r hz10
          clear jP jD jS jl
          intro H locs ls jP jD jS jl
          refine lv_bipush (v := (-4 : Int32)) hx hb dX5_part_123 (by decide) ?_
          obtain rfl := Option.some.inj hz10
          exact hRet _ _ _ _ jP jD jS dX5_part_125
        have hL10 : ∀ (n : Nat) (v10 : (Int32 × (Nat → Int32) × Int32 × Int32 × Int32 × Int32 × Int32 × Int32)), loopF (fX5_part_b40 a2 t7 S_r1 S_r3 S_x5 S_r0 S_r2 S_r4 S_x6 S_x7 S_x8) n v10 = some T10 → ∀ (H : Heap) (locs : List Loc) (ls : Array Slot), va_P D vwCl (lW uL uE uD uT uV uS uP L_x6 L_x7 ++ (tW cI uT aT v10.2.2.1 v10.2.2.2.1 v10.2.2.2.2.1 v10.2.2.2.2.2.1 v10.2.2.2.2.2.2.1 v10.2.2.2.2.2.2.2 v10.2.1 ++ (sW cI uS aS S_x5 S_x6 S_x7 S_x8 S_x9 S_r0 S_r1 S_r2 S_r3 S_r4))) H → va_D A (lW uL uE uD uT uV uS uP L_x6 L_x7 ++ (tW cI uT aT v10.2.2.1 v10.2.2.2.1 v10.2.2.2.2.1 v10.2.2.2.2.2.1 v10.2.2.2.2.2.2.1 v10.2.2.2.2.2.2.2 v10.2.1 ++ (sW cI uS aS S_x5 S_x6 S_x7 S_x8 S_x9 S_r0 S_r1 S_r2 S_r3 S_r4))) → va_S A s.heap H locs → lv_has ls 6 [(0, .ref uL), (2, .int a2), (3, .int t7), (4, .int v10.1)] → W p l e R s m ar below meth c H locs 0 0 QQ (F0 m 40 ls []) := by
          clear jP jD jS jl hT10
          intro n
          induction n with
          | zero => intro v10 hq; exact (loop_none hq).elim
          | succ n ih =>
            intro v10 hq H locs ls jP jD jS jl
            obtain ⟨o10, hv10, hq10⟩ := loop_some hq
            clear hq
            unfold fX5_part_b40 at hv10
            refine lv_iload hx hb dX5_part_40 (lv_at jl 3 rfl) ?_
            refine lv_bipush (v := (100 : Int32)) hx hb dX5_part_42 (by decide) ?_
            refine lv_icmp_ge (tgt := 123) hx hb dX5_part_44 (by decide) (fun c11 => ?_) (fun c11 => ?_)
            · have hv10 := itp c11 hv10
              obtain rfl := Option.some.inj hv10
              obtain rfl := nxt_r hq10
              exact hE10 _ rfl _ _ _ jP jD jS (lv_sub jl [] rfl)
            · have hv10 := itn c11 hv10
              refine lv_aload_n hx hb dX5_part_47 rfl (lv_at jl 0 rfl) ?_
              refine va_get (D := D) (ci := 5) (v := .ref uS) (C := RX5) (T := TX5) (N := 8) hx hb hts in5 hown jK.1 jP 0 rfl rfl 4 (by decide) (hts _ w_32) (fun _ h9 => h9) rfl dX5_part_48 ?_
              refine lv_iload_n hx hb dX5_part_51 rfl (lv_at jl 2 rfl) ?_
              refine lv_iload hx hb dX5_part_52 (lv_at jl 3 rfl) ?_
              obtain ⟨t12, hc13, hv10⟩ := bd_some hv10
              refine callP (wc := (sW cI uS aS S_x5 S_x6 S_x7 S_x8 S_x9 S_r0 S_r1 S_r2 S_r3 S_r4)) (wr := (lW uL uE uD uT uV uS uP L_x6 L_x7 ++ (tW cI uT aT v10.2.2.1 v10.2.2.2.1 v10.2.2.2.2.1 v10.2.2.2.2.2.1 v10.2.2.2.2.2.2.1 v10.2.2.2.2.2.2.2 v10.2.1))) (w1 := (sW cI uS aS S_x5 S_x6 S_x7 S_x8 S_x9 S_r0 S_r1 S_r2 S_r3 S_r4)) (ws1 := (lW uL uE uD uT uV uS uP L_x6 L_x7 ++ (tW cI uT aT v10.2.2.1 v10.2.2.2.1 v10.2.2.2.2.1 v10.2.2.2.2.2.1 v10.2.2.2.2.2.2.1 v10.2.2.2.2.2.2.2 v10.2.1 ++ (sW cI uS aS S_x5 S_x6 S_x7 S_x8 S_x9 S_r0 S_r1 S_r2 S_r3 S_r4)))) (As := [.int t7, .int v10.1]) (rest := []) (st1 := [.int t12]) 0 [3, 4, 5, 6, 7, 8] [0, 1, 2] [0, 1, 2, 3, 4, 5, 6, 7, 8] F (kX2_leastForWarrant l D cI cB cS uS aS S_x5 S_x6 S_x7 S_x8 S_x9 S_r0 S_r1 S_r2 S_r3 S_r4 t7 v10.1 _ hc13 ) okX2_leastForWarrant w_583 (by decide) (by decide) ⟨Nat.zero_le _, Nat.zero_le _⟩ rfl rfl rfl jP jD jS rfl jl.1 rfl rfl (Nat.le_of_ble_eq_true rfl) dX5_part_54 rfl rfl (by decide) (by decide) (by decide) rfl (by decide) (fun H locs jP jD jS => ?_)
              refine lv_istore (lv' := [(5, .int t12), (0, .ref uL), (2, .int a2), (3, .int t7), (4, .int v10.1)]) hx hb dX5_part_57 jl (by decide) rfl (fun ls jl => ?_)
              refine lv_iload hx hb dX5_part_59 (lv_at jl 0 rfl) ?_
              refine lv_bipush (v := (100 : Int32)) hx hb dX5_part_61 (by decide) ?_
              refine lv_icmp_ge (tgt := 117) hx hb dX5_part_63 (by decide) (fun c14 => ?_) (fun c14 => ?_)
              · have hv10 := itp c14 hv10
                refine lv_iinc (v := (v10.1 + (1 : Int32))) (lv' := [(4, .int (v10.1 + (1 : Int32))), (5, .int t12), (0, .ref uL), (2, .int a2), (3, .int t7)]) hx hb dX5_part_117 jl (k := 4) rfl rfl (by decide) rfl (fun ls jl => ?_)
                refine lv_goto (tgt := 40) hx hb dX5_part_120 (by decide) ?_
                obtain rfl := Option.some.inj hv10
                exact ih _ (nxt_l hq10) _ _ _ jP jD jS (lv_sub jl [2, 3, 4, 0] rfl)
              · have hv10 := itn c14 hv10
                refine lv_aload_n hx hb dX5_part_66 rfl (lv_at jl 1 rfl) ?_
                refine va_get (D := D) (ci := 5) (v := .ref uT) (C := RX5) (T := TX5) (N := 8) hx hb hts in5 hown jK.1 jP 0 rfl rfl 2 (by decide) (hts _ w_24) (fun _ h9 => h9) rfl dX5_part_67 ?_
                refine lv_aload_n hx hb dX5_part_70 rfl (lv_at jl 1 rfl) ?_
                refine va_get (D := D) (ci := 5) (v := .ref uS) (C := RX5) (T := TX5) (N := 8) hx hb hts in5 hown jK.1 jP 0 rfl rfl 4 (by decide) (hts _ w_32) (fun _ h9 => h9) rfl dX5_part_71 ?_
                refine lv_iconst (v := (1 : Int32)) hx hb dX5_part_74 (by decide) ?_
                refine lv_iload hx hb dX5_part_75 (lv_at jl 4 rfl) ?_
                refine lv_iload hx hb dX5_part_77 (lv_at jl 0 rfl) ?_
                obtain ⟨t15, hc16, hv10⟩ := bd_some hv10
                refine callP (wc := (tW cI uT aT v10.2.2.1 v10.2.2.2.1 v10.2.2.2.2.1 v10.2.2.2.2.2.1 v10.2.2.2.2.2.2.1 v10.2.2.2.2.2.2.2 v10.2.1 ++ (sW cI uS aS S_x5 S_x6 S_x7 S_x8 S_x9 S_r0 S_r1 S_r2 S_r3 S_r4))) (wr := (lW uL uE uD uT uV uS uP L_x6 L_x7)) (w1 := (tW cI uT aT t15.2.1 t15.2.2.1 t15.2.2.2.1 t15.2.2.2.2.1 t15.2.2.2.2.2.1 t15.2.2.2.2.2.2 t15.1 ++ (sW cI uS aS S_x5 S_x6 S_x7 S_x8 S_x9 S_r0 S_r1 S_r2 S_r3 S_r4))) (ws1 := (lW uL uE uD uT uV uS uP L_x6 L_x7 ++ (tW cI uT aT t15.2.1 t15.2.2.1 t15.2.2.2.1 t15.2.2.2.2.1 t15.2.2.2.2.2.1 t15.2.2.2.2.2.2 t15.1 ++ (sW cI uS aS S_x5 S_x6 S_x7 S_x8 S_x9 S_r0 S_r1 S_r2 S_r3 S_r4)))) (As := [.ref uS, .int (1 : Int32), .int v10.1, .int t12]) (rest := []) (st1 := []) 0 [1, 2, 3, 4, 5, 6, 7, 8] [0] [0, 1, 2, 3, 4, 5, 6, 7, 8] F (kX4_make l D cI cB cS uT aT v10.2.2.1 v10.2.2.2.1 v10.2.2.2.2.1 v10.2.2.2.2.2.1 v10.2.2.2.2.2.2.1 v10.2.2.2.2.2.2.2 v10.2.1 uS aS S_x5 S_x6 S_x7 S_x8 S_x9 S_r0 S_r1 S_r2 S_r3 S_r4 (1 : Int32) v10.1 t12 _ hc16 ) okX4_make w_367 (by decide) (by decide) ⟨Nat.zero_le _, Nat.zero_le _⟩ rfl rfl rfl jP jD jS rfl jl.1 rfl rfl (Nat.le_of_ble_eq_true rfl) dX5_part_79 rfl rfl (by decide) (by decide) (by decide) rfl (by decide) (fun H locs jP jD jS => ?_)
                refine lv_aload_n hx hb dX5_part_82 rfl (lv_at jl 1 rfl) ?_
                refine va_get (D := D) (ci := 5) (v := .ref uT) (C := RX5) (T := TX5) (N := 8) hx hb hts in5 hown jK.1 jP 0 rfl rfl 2 (by decide) (hts _ w_24) (fun _ h9 => h9) rfl dX5_part_83 ?_
                refine va_get (D := D) (ci := 4) (v := .int t15.2.1) (C := RX4) (T := TX4) (N := 7) hx hb hts in4 hown jK.1 jP 1 rfl rfl 1 (by decide) (hts _ w_358) (fun _ h9 => h9) rfl dX5_part_86 ?_
                refine lv_iload_n hx hb dX5_part_89 rfl (lv_at jl 3 rfl) ?_
                refine lv_icmp_ne (tgt := 117) hx hb dX5_part_90 (by decide) (fun c17 => ?_) (fun c17 => ?_)
                · have hv10 := itn c17 hv10
                  refine lv_iinc (v := (v10.1 + (1 : Int32))) (lv' := [(4, .int (v10.1 + (1 : Int32))), (5, .int t12), (0, .ref uL), (2, .int a2), (3, .int t7)]) hx hb dX5_part_117 jl (k := 4) rfl rfl (by decide) rfl (fun ls jl => ?_)
                  refine lv_goto (tgt := 40) hx hb dX5_part_120 (by decide) ?_
                  obtain rfl := Option.some.inj hv10
                  exact ih _ (nxt_l hq10) _ _ _ jP jD jS (lv_sub jl [2, 3, 4, 0] rfl)
                · have hv10 := itp c17 hv10
                  refine lv_aload_n hx hb dX5_part_93 rfl (lv_at jl 1 rfl) ?_
                  refine va_get (D := D) (ci := 5) (v := .ref uT) (C := RX5) (T := TX5) (N := 8) hx hb hts in5 hown jK.1 jP 0 rfl rfl 2 (by decide) (hts _ w_24) (fun _ h9 => h9) rfl dX5_part_94 ?_
                  refine lv_iload hx hb dX5_part_97 (lv_at jl 0 rfl) ?_
                  obtain ⟨t18, hc19, hv10⟩ := bd_some hv10
                  refine callP (wc := (tW cI uT aT t15.2.1 t15.2.2.1 t15.2.2.2.1 t15.2.2.2.2.1 t15.2.2.2.2.2.1 t15.2.2.2.2.2.2 t15.1)) (wr := (lW uL uE uD uT uV uS uP L_x6 L_x7 ++ (sW cI uS aS S_x5 S_x6 S_x7 S_x8 S_x9 S_r0 S_r1 S_r2 S_r3 S_r4))) (w1 := (tW cI uT aT t15.2.1 t15.2.2.1 t15.2.2.2.1 t15.2.2.2.2.1 t15.2.2.2.2.2.1 t15.2.2.2.2.2.2 t15.1)) (ws1 := (lW uL uE uD uT uV uS uP L_x6 L_x7 ++ (tW cI uT aT t15.2.1 t15.2.2.1 t15.2.2.2.1 t15.2.2.2.2.1 t15.2.2.2.2.2.1 t15.2.2.2.2.2.2 t15.1 ++ (sW cI uS aS S_x5 S_x6 S_x7 S_x8 S_x9 S_r0 S_r1 S_r2 S_r3 S_r4)))) (As := [.int t12]) (rest := []) (st1 := [.int t18]) 0 [1, 2] [0, 3, 4, 5, 6, 7, 8] [0, 7, 8, 1, 2, 3, 4, 5, 6] F (kX4_holdsAt l D cI cB cS uT aT t15.2.1 t15.2.2.1 t15.2.2.2.1 t15.2.2.2.2.1 t15.2.2.2.2.2.1 t15.2.2.2.2.2.2 t15.1 t12 _ hc19 ) okX4_holdsAt w_487 (by decide) (by decide) ⟨Nat.zero_le _, Nat.zero_le _⟩ rfl rfl rfl jP jD jS rfl jl.1 rfl rfl (Nat.le_of_ble_eq_true rfl) dX5_part_99 rfl rfl (by decide) (by decide) (by decide) rfl (by decide) (fun H locs jP jD jS => ?_)
                  refine lv_if_eq (tgt := 117) hx hb dX5_part_102 (by decide) (fun c20 => ?_) (fun c20 => ?_)
                  · have hv10 := itp c20 hv10
                    refine lv_iinc (v := (v10.1 + (1 : Int32))) (lv' := [(4, .int (v10.1 + (1 : Int32))), (5, .int t12), (0, .ref uL), (2, .int a2), (3, .int t7)]) hx hb dX5_part_117 jl (k := 4) rfl rfl (by decide) rfl (fun ls jl => ?_)
                    refine lv_goto (tgt := 40) hx hb dX5_part_120 (by decide) ?_
                    obtain rfl := Option.some.inj hv10
                    exact ih _ (nxt_l hq10) _ _ _ jP jD jS (lv_sub jl [2, 3, 4, 0] rfl)
                  · have hv10 := itn c20 hv10
                    refine lv_iload_n hx hb dX5_part_105 rfl (lv_at jl 2 rfl) ?_
                    refine lv_if_ne (tgt := 114) hx hb dX5_part_106 (by decide) (fun c21 => ?_) (fun c21 => ?_)
                    · have hv10 := itn c21 hv10
                      refine lv_iload hx hb dX5_part_114 (lv_at jl 0 rfl) ?_
                      obtain rfl := Option.some.inj hv10
                      obtain rfl := nxt_r hq10
                      have hz10 := sm_l hz10
                      obtain rfl := Option.some.inj hz10
                      exact hRet _ _ _ _ jP jD jS dX5_part_116
                    · have hv10 := itp c21 hv10
                      refine lv_iload hx hb dX5_part_109 (lv_at jl 4 rfl) ?_
                      refine lv_goto (tgt := 116) hx hb dX5_part_111 (by decide) ?_
                      obtain rfl := Option.some.inj hv10
                      obtain rfl := nxt_r hq10
                      have hz10 := sm_l hz10
                      obtain rfl := Option.some.inj hz10
                      exact hRet _ _ _ _ jP jD jS dX5_part_116
        exact hL10 1000 _ hT10 _ _ _ jP jD jS (lv_sub jl [2, 4, 1, 0] rfl)
      · have h := itp c9 h
        refine lv_bipush (v := (-4 : Int32)) hx hb dX5_part_34 (by decide) ?_
        obtain rfl := Option.some.inj h
        exact hRet _ _ _ _ jP jD jS dX5_part_36
    · have h := itp c6 h
      refine lv_iconst (v := (-1 : Int32)) hx hb dX5_part_19 (by decide) ?_
      obtain rfl := Option.some.inj h
      exact hRet _ _ _ _ jP jD jS dX5_part_20
theorem okX5_days : okV yX5_days cX5_days 7 (some .int) 1 := ⟨w_624, w_625, w_626, w_2, by decide, by decide, by decide +kernel⟩
def fX5_days_b21 (l1 : Int32) (S_r0 : (Nat → Int32)) (S_r1 : (Nat → Int32)) (S_r2 : (Nat → Int32)) (S_r3 : (Nat → Int32)) (S_r4 : (Nat → Int32)) (S_x5 : Int32) (S_x6 : Int32) (S_x7 : Int32) (S_x8 : Int32) (v1 : (Int32 × Int32 × Int32 × (Nat → Int32) × Int32 × Int32 × Int32 × Int32 × Int32 × Int32)) : Option ((Int32 × Int32 × Int32 × (Nat → Int32) × Int32 × Int32 × Int32 × Int32 × Int32 × Int32) ⊕ (Int32 × Int32 × (Nat → Int32) × Int32 × Int32 × Int32 × Int32 × Int32 × Int32)) :=
  if (10 : Int32) < v1.2.2.1 then (some (.inr (v1.1, v1.2.1, v1.2.2.2.1, v1.2.2.2.2.1, v1.2.2.2.2.2.1, v1.2.2.2.2.2.2.1, v1.2.2.2.2.2.2.2.1, v1.2.2.2.2.2.2.2.2.1, v1.2.2.2.2.2.2.2.2.2))) else (bd (fX5_bestPrice (S_r0) (S_r1) (S_r2) (S_r3) (S_r4) (S_x5) (S_x6) (S_x7) (S_x8) v1.2.2.2.1 v1.2.2.2.2.1 v1.2.2.2.2.2.1 v1.2.2.2.2.2.2.1 v1.2.2.2.2.2.2.2.1 v1.2.2.2.2.2.2.2.2.1 v1.2.2.2.2.2.2.2.2.2 (3 : Int32) v1.2.2.1) (fun t1 => bd (if t1.1 = (-4 : Int32) then (some (v1.1, v1.2.1, t1.2.1, t1.2.2.1, t1.2.2.2.1, t1.2.2.2.2.1, t1.2.2.2.2.2.1, t1.2.2.2.2.2.2.1, t1.2.2.2.2.2.2.2)) else (bd (fX5_gainAt (S_r0) (S_r1) (S_r2) (S_r3) (S_r4) (S_x5) (S_x6) (S_x7) (S_x8) t1.2.1 (3 : Int32) v1.2.2.1 t1.1) (fun t2 => if t2.1 ≤ v1.2.1 then (some (v1.1, v1.2.1, t2.2.1, t2.2.2.1, t2.2.2.2.1, t2.2.2.2.2.1, t2.2.2.2.2.2.1, t2.2.2.2.2.2.2.1, t2.2.2.2.2.2.2.2)) else (some (v1.2.2.1, t2.1, t2.2.1, t2.2.2.1, t2.2.2.2.1, t2.2.2.2.2.1, t2.2.2.2.2.2.1, t2.2.2.2.2.2.2.1, t2.2.2.2.2.2.2.2))))) (fun t3 => some (.inl (t3.1, t3.2.1, (v1.2.2.1 + (1 : Int32)), t3.2.2.1, t3.2.2.2.1, t3.2.2.2.2.1, t3.2.2.2.2.2.1, t3.2.2.2.2.2.2.1, t3.2.2.2.2.2.2.2.1, t3.2.2.2.2.2.2.2.2)))))
def fX5_days (S_r0 : (Nat → Int32)) (S_r1 : (Nat → Int32)) (S_r2 : (Nat → Int32)) (S_r3 : (Nat → Int32)) (S_r4 : (Nat → Int32)) (S_x5 : Int32) (S_x6 : Int32) (S_x7 : Int32) (S_x8 : Int32) (T_r0 : (Nat → Int32)) (T_x1 : Int32) (T_x2 : Int32) (T_x3 : Int32) (T_x4 : Int32) (T_x5 : Int32) (T_x6 : Int32) (a1 : Int32) : Option (Int32 × (Nat → Int32) × Int32 × Int32 × Int32 × Int32 × Int32 × Int32) :=
  bd (fX5_isWithin a1 (0 : Int32) (1 : Int32)) (fun t1 => if t1 = (0 : Int32) then (some ((-1000000000 : Int32), T_r0, T_x1, T_x2, T_x3, T_x4, T_x5, T_x6)) else (bd (loopF (fX5_days_b21 a1 S_r0 S_r1 S_r2 S_r3 S_r4 S_x5 S_x6 S_x7 S_x8) 1000 ((-1000000004 : Int32), (-1000000004 : Int32), (0 : Int32), T_r0, T_x1, T_x2, T_x3, T_x4, T_x5, T_x6)) (fun T4 => if a1 = (0 : Int32) then (some (T4.1, T4.2.2.1, T4.2.2.2.1, T4.2.2.2.2.1, T4.2.2.2.2.2.1, T4.2.2.2.2.2.2.1, T4.2.2.2.2.2.2.2.1, T4.2.2.2.2.2.2.2.2)) else (some (T4.2.1, T4.2.2.1, T4.2.2.2.1, T4.2.2.2.2.1, T4.2.2.2.2.2.1, T4.2.2.2.2.2.2.1, T4.2.2.2.2.2.2.2.1, T4.2.2.2.2.2.2.2.2)))))
set_option maxRecDepth 100000 in
set_option maxHeartbeats 4000000 in
theorem kX5_days (l : Launch) (D : va_G) (cI cB cS : ClassId) (uL : Nat) (L_x6 : Int32) (L_x7 : Int32) (uT : Nat) (aT : Nat → Nat) (T_x1 : Int32) (T_x2 : Int32) (T_x3 : Int32) (T_x4 : Int32) (T_x5 : Int32) (T_x6 : Int32) (T_r0 : (Nat → Int32)) (uS : Nat) (aS : Nat → Nat) (S_x5 : Int32) (S_x6 : Int32) (S_x7 : Int32) (S_x8 : Int32) (S_x9 : Int32) (S_r0 : (Nat → Int32)) (S_r1 : (Nat → Int32)) (S_r2 : (Nat → Int32)) (S_r3 : (Nat → Int32)) (S_r4 : (Nat → Int32)) (uE : Nat) (uD : Nat) (uV : Nat) (uP : Nat) (a1 : Int32) (z : (Int32 × (Nat → Int32) × Int32 × Int32 × Int32 × Int32 × Int32 × Int32)) (h : fX5_days S_r0 S_r1 S_r2 S_r3 S_r4 S_x5 S_x6 S_x7 S_x8 T_r0 T_x1 T_x2 T_x3 T_x4 T_x5 T_x6 a1 = some z) : Mt l yX5_days cX5_days 7 (some .int) 4 120 D cI cB cS (lW uL uE uD uT uV uS uP L_x6 L_x7 ++ (tW cI uT aT T_x1 T_x2 T_x3 T_x4 T_x5 T_x6 T_r0 ++ (sW cI uS aS S_x5 S_x6 S_x7 S_x8 S_x9 S_r0 S_r1 S_r2 S_r3 S_r4))) (lW uL uE uD uT uV uS uP L_x6 L_x7 ++ (tW cI uT aT z.2.2.1 z.2.2.2.1 z.2.2.2.2.1 z.2.2.2.2.2.1 z.2.2.2.2.2.2.1 z.2.2.2.2.2.2.2 z.2.1 ++ (sW cI uS aS S_x5 S_x6 S_x7 S_x8 S_x9 S_r0 S_r1 S_r2 S_r3 S_r4))) [.ref uL, .int a1] (some (.int z.1)) := by
  refine entryI (by decide +kernel) rfl (Nat.le_of_ble_eq_true rfl) ?_
  intro p e s m below meth c A ls QQ R ar F hRet jP jD jS jl
  obtain ⟨hx, hb, hml, hown, hts, jK, hA, hf1, hf2⟩ := id F
  have jl : lv_has ls 7 [(0, .ref uL), (1, .int a1)] := jl
  unfold fX5_days at h
  refine lv_iload_n hx hb dX5_days_0 rfl (lv_at jl 1 rfl) ?_
  refine lv_iconst (v := (0 : Int32)) hx hb dX5_days_1 (by decide) ?_
  refine lv_iconst (v := (1 : Int32)) hx hb dX5_days_2 (by decide) ?_
  obtain ⟨t1, hc2, h⟩ := bd_some h
  refine call0 (As := [.int a1, .int (0 : Int32), .int (1 : Int32)]) (rest := []) (st1 := [.int t1]) F (kX5_isWithin l D cI cB cS  a1 (0 : Int32) (1 : Int32) _ hc2 ) okX5_isWithin w_105 (by decide) (by decide) ⟨Nat.zero_le _, Nat.zero_le _⟩ jP jD jS rfl jl.1 rfl rfl (Nat.le_of_ble_eq_true rfl) dX5_days_3 (fun H locs jP jD jS => ?_)
  refine lv_if_ne (tgt := 12) hx hb dX5_days_6 (by decide) (fun c3 => ?_) (fun c3 => ?_)
  · have h := itn c3 h
    refine lv_ldc (v := (-1000000004 : Int32)) hx hb hown (hts _ w_461) dX5_days_12 ?_
    refine lv_istore_n (lv' := [(2, .int (-1000000004 : Int32)), (0, .ref uL), (1, .int a1)]) hx hb dX5_days_14 rfl jl (by decide) rfl (fun ls jl => ?_)
    refine lv_ldc (v := (-1000000004 : Int32)) hx hb hown (hts _ w_461) dX5_days_15 ?_
    refine lv_istore_n (lv' := [(3, .int (-1000000004 : Int32)), (2, .int (-1000000004 : Int32)), (0, .ref uL), (1, .int a1)]) hx hb dX5_days_17 rfl jl (by decide) rfl (fun ls jl => ?_)
    refine lv_iconst (v := (0 : Int32)) hx hb dX5_days_18 (by decide) ?_
    refine lv_istore (lv' := [(4, .int (0 : Int32)), (3, .int (-1000000004 : Int32)), (2, .int (-1000000004 : Int32)), (0, .ref uL), (1, .int a1)]) hx hb dX5_days_19 jl (by decide) rfl (fun ls jl => ?_)
    obtain ⟨T4, hT4, hz4⟩ := bd_some h
    clear h
    have hE4 : ∀ (H : Heap) (locs : List Loc) (ls : Array Slot), va_P D vwCl (lW uL uE uD uT uV uS uP L_x6 L_x7 ++ (tW cI uT aT T4.2.2.2.1 T4.2.2.2.2.1 T4.2.2.2.2.2.1 T4.2.2.2.2.2.2.1 T4.2.2.2.2.2.2.2.1 T4.2.2.2.2.2.2.2.2 T4.2.2.1 ++ (sW cI uS aS S_x5 S_x6 S_x7 S_x8 S_x9 S_r0 S_r1 S_r2 S_r3 S_r4))) H → va_D A (lW uL uE uD uT uV uS uP L_x6 L_x7 ++ (tW cI uT aT T4.2.2.2.1 T4.2.2.2.2.1 T4.2.2.2.2.2.1 T4.2.2.2.2.2.2.1 T4.2.2.2.2.2.2.2.1 T4.2.2.2.2.2.2.2.2 T4.2.2.1 ++ (sW cI uS aS S_x5 S_x6 S_x7 S_x8 S_x9 S_r0 S_r1 S_r2 S_r3 S_r4))) → va_S A s.heap H locs → lv_has ls 7 [(1, .int a1), (2, .int T4.1), (3, .int T4.2.1)] → W p l e R s m ar below meth c H locs 0 0 QQ (F0 m 81 ls []) := by
      clear jP jD jS jl
      intro H locs ls jP jD jS jl
      refine lv_iload_n hx hb dX5_days_81 rfl (lv_at jl 0 rfl) ?_
      refine lv_if_ne (tgt := 89) hx hb dX5_days_82 (by decide) (fun c13 => ?_) (fun c13 => ?_)
      · have hz4 := itn c13 hz4
        refine lv_iload_n hx hb dX5_days_89 rfl (lv_at jl 2 rfl) ?_
        obtain rfl := Option.some.inj hz4
        exact hRet _ _ _ _ jP jD jS dX5_days_90
      · have hz4 := itp c13 hz4
        refine lv_iload_n hx hb dX5_days_85 rfl (lv_at jl 1 rfl) ?_
        refine lv_goto (tgt := 90) hx hb dX5_days_86 (by decide) ?_
        obtain rfl := Option.some.inj hz4
        exact hRet _ _ _ _ jP jD jS dX5_days_90
    have hL4 : ∀ (n : Nat) (v4 : (Int32 × Int32 × Int32 × (Nat → Int32) × Int32 × Int32 × Int32 × Int32 × Int32 × Int32)), loopF (fX5_days_b21 a1 S_r0 S_r1 S_r2 S_r3 S_r4 S_x5 S_x6 S_x7 S_x8) n v4 = some T4 → ∀ (H : Heap) (locs : List Loc) (ls : Array Slot), va_P D vwCl (lW uL uE uD uT uV uS uP L_x6 L_x7 ++ (tW cI uT aT v4.2.2.2.2.1 v4.2.2.2.2.2.1 v4.2.2.2.2.2.2.1 v4.2.2.2.2.2.2.2.1 v4.2.2.2.2.2.2.2.2.1 v4.2.2.2.2.2.2.2.2.2 v4.2.2.2.1 ++ (sW cI uS aS S_x5 S_x6 S_x7 S_x8 S_x9 S_r0 S_r1 S_r2 S_r3 S_r4))) H → va_D A (lW uL uE uD uT uV uS uP L_x6 L_x7 ++ (tW cI uT aT v4.2.2.2.2.1 v4.2.2.2.2.2.1 v4.2.2.2.2.2.2.1 v4.2.2.2.2.2.2.2.1 v4.2.2.2.2.2.2.2.2.1 v4.2.2.2.2.2.2.2.2.2 v4.2.2.2.1 ++ (sW cI uS aS S_x5 S_x6 S_x7 S_x8 S_x9 S_r0 S_r1 S_r2 S_r3 S_r4))) → va_S A s.heap H locs → lv_has ls 7 [(0, .ref uL), (1, .int a1), (2, .int v4.1), (3, .int v4.2.1), (4, .int v4.2.2.1)] → W p l e R s m ar below meth c H locs 0 0 QQ (F0 m 21 ls []) := by
      clear jP jD jS jl hT4
      intro n
      induction n with
      | zero => intro v4 hq; exact (loop_none hq).elim
      | succ n ih =>
        intro v4 hq H locs ls jP jD jS jl
        obtain ⟨o4, hv4, hq4⟩ := loop_some hq
        clear hq
        unfold fX5_days_b21 at hv4
        refine lv_iload hx hb dX5_days_21 (lv_at jl 4 rfl) ?_
        refine lv_bipush (v := (10 : Int32)) hx hb dX5_days_23 (by decide) ?_
        refine lv_icmp_gt (tgt := 81) hx hb dX5_days_25 (by decide) (fun c5 => ?_) (fun c5 => ?_)
        · have hv4 := itp c5 hv4
          obtain rfl := Option.some.inj hv4
          obtain rfl := nxt_r hq4
          exact hE4 _ _ _ jP jD jS (lv_sub jl [1, 2, 3] rfl)
        · have hv4 := itn c5 hv4
          refine lv_aload_n hx hb dX5_days_28 rfl (lv_at jl 0 rfl) ?_
          refine lv_aload_n hx hb dX5_days_29 rfl (lv_at jl 0 rfl) ?_
          refine va_get (D := D) (ci := 5) (v := .ref uS) (C := RX5) (T := TX5) (N := 8) hx hb hts in5 hown jK.1 jP 0 rfl rfl 4 (by decide) (hts _ w_32) (fun _ h9 => h9) rfl dX5_days_30 ?_
          refine lv_iconst (v := (3 : Int32)) hx hb dX5_days_33 (by decide) ?_
          refine lv_iload hx hb dX5_days_34 (lv_at jl 4 rfl) ?_
          obtain ⟨t6, hc7, hv4⟩ := bd_some hv4
          refine callW (w1 := (lW uL uE uD uT uV uS uP L_x6 L_x7 ++ (tW cI uT aT t6.2.2.1 t6.2.2.2.1 t6.2.2.2.2.1 t6.2.2.2.2.2.1 t6.2.2.2.2.2.2.1 t6.2.2.2.2.2.2.2 t6.2.1 ++ (sW cI uS aS S_x5 S_x6 S_x7 S_x8 S_x9 S_r0 S_r1 S_r2 S_r3 S_r4)))) (As := [.ref uS, .int (3 : Int32), .int v4.2.2.1]) (rest := []) (st1 := [.int t6.1]) 0 F (kX5_bestPrice l D cI cB cS uL L_x6 L_x7 uT aT v4.2.2.2.2.1 v4.2.2.2.2.2.1 v4.2.2.2.2.2.2.1 v4.2.2.2.2.2.2.2.1 v4.2.2.2.2.2.2.2.2.1 v4.2.2.2.2.2.2.2.2.2 v4.2.2.2.1 uS aS S_x5 S_x6 S_x7 S_x8 S_x9 S_r0 S_r1 S_r2 S_r3 S_r4 uE uD uV uS uP (3 : Int32) v4.2.2.1 _ hc7 ) okX5_bestPrice w_551 (by decide) (by decide) ⟨Nat.zero_le _, Nat.zero_le _⟩ rfl rfl rfl jP jD jS rfl jl.1 rfl rfl (Nat.le_of_ble_eq_true rfl) dX5_days_36 (fun H locs jP jD jS => ?_)
          refine lv_istore (lv' := [(5, .int t6.1), (0, .ref uL), (1, .int a1), (2, .int v4.1), (3, .int v4.2.1), (4, .int v4.2.2.1)]) hx hb dX5_days_39 jl (by decide) rfl (fun ls jl => ?_)
          refine lv_iload hx hb dX5_days_41 (lv_at jl 0 rfl) ?_
          refine lv_bipush (v := (-4 : Int32)) hx hb dX5_days_43 (by decide) ?_
          obtain ⟨t12, hvt12, hv4⟩ := bd_some hv4
          have hJt12 : ∀ (H : Heap) (locs : List Loc) (ls : Array Slot), va_P D vwCl (lW uL uE uD uT uV uS uP L_x6 L_x7 ++ (tW cI uT aT t12.2.2.2.1 t12.2.2.2.2.1 t12.2.2.2.2.2.1 t12.2.2.2.2.2.2.1 t12.2.2.2.2.2.2.2.1 t12.2.2.2.2.2.2.2.2 t12.2.2.1 ++ (sW cI uS aS S_x5 S_x6 S_x7 S_x8 S_x9 S_r0 S_r1 S_r2 S_r3 S_r4))) H → va_D A (lW uL uE uD uT uV uS uP L_x6 L_x7 ++ (tW cI uT aT t12.2.2.2.1 t12.2.2.2.2.1 t12.2.2.2.2.2.1 t12.2.2.2.2.2.2.1 t12.2.2.2.2.2.2.2.1 t12.2.2.2.2.2.2.2.2 t12.2.2.1 ++ (sW cI uS aS S_x5 S_x6 S_x7 S_x8 S_x9 S_r0 S_r1 S_r2 S_r3 S_r4))) → va_S A s.heap H locs → lv_has ls 7 [(0, .ref uL), (1, .int a1), (2, .int t12.1), (3, .int t12.2.1), (4, .int v4.2.2.1)] → W p l e R s m ar below meth c H locs 0 0 QQ (F0 m 75 ls []) := by
            clear jP jD jS jl
            intro H locs ls jP jD jS jl
            refine lv_iinc (v := (v4.2.2.1 + (1 : Int32))) (lv' := [(4, .int (v4.2.2.1 + (1 : Int32))), (0, .ref uL), (1, .int a1), (2, .int t12.1), (3, .int t12.2.1)]) hx hb dX5_days_75 jl (k := 4) rfl rfl (by decide) rfl (fun ls jl => ?_)
            refine lv_goto (tgt := 21) hx hb dX5_days_78 (by decide) ?_
            obtain rfl := Option.some.inj hv4
            exact ih _ (nxt_l hq4) _ _ _ jP jD jS (lv_sub jl [1, 2, 3, 4, 0] rfl)
          clear hv4
          refine lv_icmp_eq (tgt := 75) hx hb dX5_days_45 (by decide) (fun c8 => ?_) (fun c8 => ?_)
          · have hvt12 := itp c8 hvt12
            obtain rfl := Option.some.inj hvt12
            exact hJt12 _ _ _ jP jD jS (lv_sub jl [1, 2, 3, 4, 5] rfl)
          · have hvt12 := itn c8 hvt12
            refine lv_aload_n hx hb dX5_days_48 rfl (lv_at jl 1 rfl) ?_
            refine lv_aload_n hx hb dX5_days_49 rfl (lv_at jl 1 rfl) ?_
            refine va_get (D := D) (ci := 5) (v := .ref uS) (C := RX5) (T := TX5) (N := 8) hx hb hts in5 hown jK.1 jP 0 rfl rfl 4 (by decide) (hts _ w_32) (fun _ h9 => h9) rfl dX5_days_50 ?_
            refine lv_iconst (v := (3 : Int32)) hx hb dX5_days_53 (by decide) ?_
            refine lv_iload hx hb dX5_days_54 (lv_at jl 5 rfl) ?_
            refine lv_iload hx hb dX5_days_56 (lv_at jl 0 rfl) ?_
            obtain ⟨t9, hc10, hvt12⟩ := bd_some hvt12
            refine callW (w1 := (lW uL uE uD uT uV uS uP L_x6 L_x7 ++ (tW cI uT aT t9.2.2.1 t9.2.2.2.1 t9.2.2.2.2.1 t9.2.2.2.2.2.1 t9.2.2.2.2.2.2.1 t9.2.2.2.2.2.2.2 t9.2.1 ++ (sW cI uS aS S_x5 S_x6 S_x7 S_x8 S_x9 S_r0 S_r1 S_r2 S_r3 S_r4)))) (As := [.ref uS, .int (3 : Int32), .int v4.2.2.1, .int t6.1]) (rest := []) (st1 := [.int t9.1]) 0 F (kX5_gainAt l D cI cB cS uL L_x6 L_x7 uT aT t6.2.2.1 t6.2.2.2.1 t6.2.2.2.2.1 t6.2.2.2.2.2.1 t6.2.2.2.2.2.2.1 t6.2.2.2.2.2.2.2 t6.2.1 uS aS S_x5 S_x6 S_x7 S_x8 S_x9 S_r0 S_r1 S_r2 S_r3 S_r4 uE uD uV uS uP (3 : Int32) v4.2.2.1 t6.1 _ hc10 ) okX5_gainAt w_529 (by decide) (by decide) ⟨Nat.zero_le _, Nat.zero_le _⟩ rfl rfl rfl jP jD jS rfl jl.1 rfl rfl (Nat.le_of_ble_eq_true rfl) dX5_days_58 (fun H locs jP jD jS => ?_)
            refine lv_istore (lv' := [(6, .int t9.1), (5, .int t6.1), (0, .ref uL), (1, .int a1), (2, .int v4.1), (3, .int v4.2.1), (4, .int v4.2.2.1)]) hx hb dX5_days_61 jl (by decide) rfl (fun ls jl => ?_)
            refine lv_iload hx hb dX5_days_63 (lv_at jl 0 rfl) ?_
            refine lv_iload_n hx hb dX5_days_65 rfl (lv_at jl 5 rfl) ?_
            refine lv_icmp_le (tgt := 75) hx hb dX5_days_66 (by decide) (fun c11 => ?_) (fun c11 => ?_)
            · have hvt12 := itp c11 hvt12
              obtain rfl := Option.some.inj hvt12
              exact hJt12 _ _ _ jP jD jS (lv_sub jl [2, 3, 4, 5, 6] rfl)
            · have hvt12 := itn c11 hvt12
              refine lv_iload hx hb dX5_days_69 (lv_at jl 6 rfl) ?_
              refine lv_istore_n (lv' := [(2, .int v4.2.2.1), (6, .int t9.1), (5, .int t6.1), (0, .ref uL), (1, .int a1), (3, .int v4.2.1), (4, .int v4.2.2.1)]) hx hb dX5_days_71 rfl jl (by decide) rfl (fun ls jl => ?_)
              refine lv_iload hx hb dX5_days_72 (lv_at jl 1 rfl) ?_
              refine lv_istore_n (lv' := [(3, .int t9.1), (2, .int v4.2.2.1), (6, .int t9.1), (5, .int t6.1), (0, .ref uL), (1, .int a1), (4, .int v4.2.2.1)]) hx hb dX5_days_74 rfl jl (by decide) rfl (fun ls jl => ?_)
              obtain rfl := Option.some.inj hvt12
              exact hJt12 _ _ _ jP jD jS (lv_sub jl [4, 5, 1, 0, 6] rfl)
    exact hL4 1000 _ hT4 _ _ _ jP jD jS (lv_sub jl [3, 4, 2, 1, 0] rfl)
  · have h := itp c3 h
    refine lv_ldc (v := (-1000000000 : Int32)) hx hb hown (hts _ w_460) dX5_days_9 ?_
    obtain rfl := Option.some.inj h
    exact hRet _ _ _ _ jP jD jS dX5_days_11
theorem okX5_priceLearned : okV yX5_priceLearned cX5_priceLearned 2 (some .int) 1 := ⟨w_733, w_734, w_735, w_2, by decide, by decide, by decide +kernel⟩
def fX5_priceLearned (S_r0 : (Nat → Int32)) (S_r1 : (Nat → Int32)) (S_r2 : (Nat → Int32)) (S_r3 : (Nat → Int32)) (S_r4 : (Nat → Int32)) (S_x5 : Int32) (S_x6 : Int32) (S_x7 : Int32) (S_x8 : Int32) (S_x9 : Int32) (T_r0 : (Nat → Int32)) (a1 : Int32) : Option (Int32 × (Nat → Int32) × Int32 × Int32 × Int32 × Int32 × Int32 × Int32) :=
  bd (fX4_make (S_r0) (S_r1) (S_r2) (S_r3) (S_r4) (S_x5) (S_x6) (S_x7) (S_x8) (T_r0) (0 : Int32) (0 : Int32) a1) (fun t1 => bd (fX4_thoughtDown t1.2.2.2.1 t1.2.2.2.2.1) (fun t3 => bd (fJ9_floorDiv_7cf53 ((S_x9 * t3) + (((10 : Int32) - S_x9) * a1)) (10 : Int32)) (fun t5 => some (t5, t1.1, t1.2.1, t1.2.2.1, t1.2.2.2.1, t1.2.2.2.2.1, t1.2.2.2.2.2.1, t1.2.2.2.2.2.2))))
set_option maxRecDepth 100000 in
set_option maxHeartbeats 4000000 in
theorem kX5_priceLearned (l : Launch) (D : va_G) (cI cB cS : ClassId) (uL : Nat) (L_x6 : Int32) (L_x7 : Int32) (uT : Nat) (aT : Nat → Nat) (T_x1 : Int32) (T_x2 : Int32) (T_x3 : Int32) (T_x4 : Int32) (T_x5 : Int32) (T_x6 : Int32) (T_r0 : (Nat → Int32)) (uS : Nat) (aS : Nat → Nat) (S_x5 : Int32) (S_x6 : Int32) (S_x7 : Int32) (S_x8 : Int32) (S_x9 : Int32) (S_r0 : (Nat → Int32)) (S_r1 : (Nat → Int32)) (S_r2 : (Nat → Int32)) (S_r3 : (Nat → Int32)) (S_r4 : (Nat → Int32)) (uE : Nat) (uD : Nat) (uV : Nat) (uP : Nat) (a1 : Int32) (z : (Int32 × (Nat → Int32) × Int32 × Int32 × Int32 × Int32 × Int32 × Int32)) (h : fX5_priceLearned S_r0 S_r1 S_r2 S_r3 S_r4 S_x5 S_x6 S_x7 S_x8 S_x9 T_r0 a1 = some z) : Mt l yX5_priceLearned cX5_priceLearned 2 (some .int) 3 94 D cI cB cS (lW uL uE uD uT uV uS uP L_x6 L_x7 ++ (tW cI uT aT T_x1 T_x2 T_x3 T_x4 T_x5 T_x6 T_r0 ++ (sW cI uS aS S_x5 S_x6 S_x7 S_x8 S_x9 S_r0 S_r1 S_r2 S_r3 S_r4))) (lW uL uE uD uT uV uS uP L_x6 L_x7 ++ (tW cI uT aT z.2.2.1 z.2.2.2.1 z.2.2.2.2.1 z.2.2.2.2.2.1 z.2.2.2.2.2.2.1 z.2.2.2.2.2.2.2 z.2.1 ++ (sW cI uS aS S_x5 S_x6 S_x7 S_x8 S_x9 S_r0 S_r1 S_r2 S_r3 S_r4))) [.ref uL, .int a1] (some (.int z.1)) := by
  refine entryI (by decide +kernel) rfl (Nat.le_of_ble_eq_true rfl) ?_
  intro p e s m below meth c A ls QQ R ar F hRet jP jD jS jl
  obtain ⟨hx, hb, hml, hown, hts, jK, hA, hf1, hf2⟩ := id F
  have jl : lv_has ls 2 [(0, .ref uL), (1, .int a1)] := jl
  unfold fX5_priceLearned at h
  refine lv_aload_n hx hb dX5_priceLearned_0 rfl (lv_at jl 0 rfl) ?_
  refine va_get (D := D) (ci := 5) (v := .ref uT) (C := RX5) (T := TX5) (N := 8) hx hb hts in5 hown jK.1 jP 0 rfl rfl 2 (by decide) (hts _ w_24) (fun _ h9 => h9) rfl dX5_priceLearned_1 ?_
  refine lv_aload_n hx hb dX5_priceLearned_4 rfl (lv_at jl 0 rfl) ?_
  refine va_get (D := D) (ci := 5) (v := .ref uS) (C := RX5) (T := TX5) (N := 8) hx hb hts in5 hown jK.1 jP 0 rfl rfl 4 (by decide) (hts _ w_32) (fun _ h9 => h9) rfl dX5_priceLearned_5 ?_
  refine lv_iconst (v := (0 : Int32)) hx hb dX5_priceLearned_8 (by decide) ?_
  refine lv_iconst (v := (0 : Int32)) hx hb dX5_priceLearned_9 (by decide) ?_
  refine lv_iload_n hx hb dX5_priceLearned_10 rfl (lv_at jl 1 rfl) ?_
  obtain ⟨t1, hc2, h⟩ := bd_some h
  refine callP (wc := (tW cI uT aT T_x1 T_x2 T_x3 T_x4 T_x5 T_x6 T_r0 ++ (sW cI uS aS S_x5 S_x6 S_x7 S_x8 S_x9 S_r0 S_r1 S_r2 S_r3 S_r4))) (wr := (lW uL uE uD uT uV uS uP L_x6 L_x7)) (w1 := (tW cI uT aT t1.2.1 t1.2.2.1 t1.2.2.2.1 t1.2.2.2.2.1 t1.2.2.2.2.2.1 t1.2.2.2.2.2.2 t1.1 ++ (sW cI uS aS S_x5 S_x6 S_x7 S_x8 S_x9 S_r0 S_r1 S_r2 S_r3 S_r4))) (ws1 := (lW uL uE uD uT uV uS uP L_x6 L_x7 ++ (tW cI uT aT t1.2.1 t1.2.2.1 t1.2.2.2.1 t1.2.2.2.2.1 t1.2.2.2.2.2.1 t1.2.2.2.2.2.2 t1.1 ++ (sW cI uS aS S_x5 S_x6 S_x7 S_x8 S_x9 S_r0 S_r1 S_r2 S_r3 S_r4)))) (As := [.ref uS, .int (0 : Int32), .int (0 : Int32), .int a1]) (rest := []) (st1 := []) 0 [1, 2, 3, 4, 5, 6, 7, 8] [0] [0, 1, 2, 3, 4, 5, 6, 7, 8] F (kX4_make l D cI cB cS uT aT T_x1 T_x2 T_x3 T_x4 T_x5 T_x6 T_r0 uS aS S_x5 S_x6 S_x7 S_x8 S_x9 S_r0 S_r1 S_r2 S_r3 S_r4 (0 : Int32) (0 : Int32) a1 _ hc2 ) okX4_make w_367 (by decide) (by decide) ⟨Nat.zero_le _, Nat.zero_le _⟩ rfl rfl rfl jP jD jS rfl jl.1 rfl rfl (Nat.le_of_ble_eq_true rfl) dX5_priceLearned_11 rfl rfl (by decide) (by decide) (by decide) rfl (by decide) (fun H locs jP jD jS => ?_)
  refine lv_aload_n hx hb dX5_priceLearned_14 rfl (lv_at jl 0 rfl) ?_
  refine va_get (D := D) (ci := 5) (v := .ref uS) (C := RX5) (T := TX5) (N := 8) hx hb hts in5 hown jK.1 jP 0 rfl rfl 4 (by decide) (hts _ w_32) (fun _ h9 => h9) rfl dX5_priceLearned_15 ?_
  refine va_get (D := D) (ci := 2) (v := .int S_x9) (C := RX2) (T := TX2) (N := 10) hx hb hts in2 hown jK.1 jP 3 rfl rfl 9 (by decide) (hts _ w_348) (fun _ h9 => h9) rfl dX5_priceLearned_18 ?_
  refine lv_aload_n hx hb dX5_priceLearned_21 rfl (lv_at jl 0 rfl) ?_
  refine va_get (D := D) (ci := 5) (v := .ref uT) (C := RX5) (T := TX5) (N := 8) hx hb hts in5 hown jK.1 jP 0 rfl rfl 2 (by decide) (hts _ w_24) (fun _ h9 => h9) rfl dX5_priceLearned_22 ?_
  obtain ⟨t3, hc4, h⟩ := bd_some h
  refine callP (wc := (tW cI uT aT t1.2.1 t1.2.2.1 t1.2.2.2.1 t1.2.2.2.2.1 t1.2.2.2.2.2.1 t1.2.2.2.2.2.2 t1.1)) (wr := (lW uL uE uD uT uV uS uP L_x6 L_x7 ++ (sW cI uS aS S_x5 S_x6 S_x7 S_x8 S_x9 S_r0 S_r1 S_r2 S_r3 S_r4))) (w1 := (tW cI uT aT t1.2.1 t1.2.2.1 t1.2.2.2.1 t1.2.2.2.2.1 t1.2.2.2.2.2.1 t1.2.2.2.2.2.2 t1.1)) (ws1 := (lW uL uE uD uT uV uS uP L_x6 L_x7 ++ (tW cI uT aT t1.2.1 t1.2.2.1 t1.2.2.2.1 t1.2.2.2.2.1 t1.2.2.2.2.2.1 t1.2.2.2.2.2.2 t1.1 ++ (sW cI uS aS S_x5 S_x6 S_x7 S_x8 S_x9 S_r0 S_r1 S_r2 S_r3 S_r4)))) (As := []) (rest := [.int S_x9]) (st1 := [.int t3, .int S_x9]) 0 [1, 2] [0, 3, 4, 5, 6, 7, 8] [0, 7, 8, 1, 2, 3, 4, 5, 6] F (kX4_thoughtDown l D cI cB cS uT aT t1.2.1 t1.2.2.1 t1.2.2.2.1 t1.2.2.2.2.1 t1.2.2.2.2.2.1 t1.2.2.2.2.2.2 t1.1  _ hc4 ) okX4_thoughtDown w_736 (by decide) (by decide) ⟨Nat.zero_le _, Nat.zero_le _⟩ rfl rfl rfl jP jD jS rfl jl.1 rfl rfl (Nat.le_of_ble_eq_true rfl) dX5_priceLearned_25 rfl rfl (by decide) (by decide) (by decide) rfl (by decide) (fun H locs jP jD jS => ?_)
  refine lv_imul hx hb dX5_priceLearned_28 ?_
  refine lv_bipush (v := (10 : Int32)) hx hb dX5_priceLearned_29 (by decide) ?_
  refine lv_aload_n hx hb dX5_priceLearned_31 rfl (lv_at jl 0 rfl) ?_
  refine va_get (D := D) (ci := 5) (v := .ref uS) (C := RX5) (T := TX5) (N := 8) hx hb hts in5 hown jK.1 jP 0 rfl rfl 4 (by decide) (hts _ w_32) (fun _ h9 => h9) rfl dX5_priceLearned_32 ?_
  refine va_get (D := D) (ci := 2) (v := .int S_x9) (C := RX2) (T := TX2) (N := 10) hx hb hts in2 hown jK.1 jP 3 rfl rfl 9 (by decide) (hts _ w_348) (fun _ h9 => h9) rfl dX5_priceLearned_35 ?_
  refine lv_isub hx hb dX5_priceLearned_38 ?_
  refine lv_iload_n hx hb dX5_priceLearned_39 rfl (lv_at jl 1 rfl) ?_
  refine lv_imul hx hb dX5_priceLearned_40 ?_
  refine lv_iadd hx hb dX5_priceLearned_41 ?_
  refine lv_bipush (v := (10 : Int32)) hx hb dX5_priceLearned_42 (by decide) ?_
  obtain ⟨t5, hc6, h⟩ := bd_some h
  refine call0 (As := [.int ((S_x9 * t3) + (((10 : Int32) - S_x9) * a1)), .int (10 : Int32)]) (rest := []) (st1 := [.int t5]) F (kJ9_floorDiv_7cf53 l D cI cB cS  ((S_x9 * t3) + (((10 : Int32) - S_x9) * a1)) (10 : Int32) _ hc6 ) okJ9_floorDiv_7cf53 w_737 (by decide) (by decide) ⟨Nat.zero_le _, Nat.zero_le _⟩ jP jD jS rfl jl.1 rfl rfl (Nat.le_of_ble_eq_true rfl) dX5_priceLearned_44 (fun H locs jP jD jS => ?_)
  obtain rfl := Option.some.inj h
  exact hRet _ _ _ _ jP jD jS dX5_priceLearned_47
theorem okX5_learn : okV yX5_learn cX5_learn 7 (some .int) 3 := ⟨w_729, w_730, w_731, w_2, by decide, by decide, by decide +kernel⟩
def fX5_learn_b34 (l2 : Int32) (l3 : Int32) (S_r0 : (Nat → Int32)) (S_r1 : (Nat → Int32)) (S_r2 : (Nat → Int32)) (S_r3 : (Nat → Int32)) (S_r4 : (Nat → Int32)) (S_x5 : Int32) (S_x6 : Int32) (S_x7 : Int32) (S_x8 : Int32) (S_x9 : Int32) (v1 : (Int32 × Int32 × (Nat → Int32) × Int32 × Int32 × Int32 × Int32 × Int32 × Int32)) : Option ((Int32 × Int32 × (Nat → Int32) × Int32 × Int32 × Int32 × Int32 × Int32 × Int32) ⊕ ((Int32 × (Nat → Int32) × Int32 × Int32 × Int32 × Int32 × Int32 × Int32) ⊕ ((Nat → Int32) × Int32 × Int32 × Int32 × Int32 × Int32 × Int32))) :=
  if (99 : Int32) < v1.2.1 then (some (.inr (.inr (v1.2.2.1, v1.2.2.2.1, v1.2.2.2.2.1, v1.2.2.2.2.2.1, v1.2.2.2.2.2.2.1, v1.2.2.2.2.2.2.2.1, v1.2.2.2.2.2.2.2.2)))) else (bd ((if l3 = (0 : Int32) then (if v1.2.1 = l2 then (some (.inl (v1.1, v1.2.2.1, v1.2.2.2.1, v1.2.2.2.2.1, v1.2.2.2.2.2.1, v1.2.2.2.2.2.2.1, v1.2.2.2.2.2.2.2.1, v1.2.2.2.2.2.2.2.2))) else (some (.inr ()))) else (some (.inr ())) : Option ((Int32 × (Nat → Int32) × Int32 × Int32 × Int32 × Int32 × Int32 × Int32) ⊕ Unit))) (fun ot1 => sm ot1 (fun z => some (.inr (.inl z))) (fun t1 => bd (fX5_priceLearned (S_r0) (S_r1) (S_r2) (S_r3) (S_r4) (S_x5) (S_x6) (S_x7) (S_x8) (S_x9) v1.2.2.1 v1.1) (fun t2 => if l3 = (1 : Int32) then (if t2.1 = v1.1 then (some (.inr (.inl (v1.2.1, t2.2.1, t2.2.2.1, t2.2.2.2.1, t2.2.2.2.2.1, t2.2.2.2.2.2.1, t2.2.2.2.2.2.2.1, t2.2.2.2.2.2.2.2)))) else (some (.inl (t2.1, (v1.2.1 + (1 : Int32)), t2.2.1, t2.2.2.1, t2.2.2.2.1, t2.2.2.2.2.1, t2.2.2.2.2.2.1, t2.2.2.2.2.2.2.1, t2.2.2.2.2.2.2.2)))) else (some (.inl (t2.1, (v1.2.1 + (1 : Int32)), t2.2.1, t2.2.2.1, t2.2.2.2.1, t2.2.2.2.2.1, t2.2.2.2.2.2.1, t2.2.2.2.2.2.2.1, t2.2.2.2.2.2.2.2)))))))
def fX5_learn (S_r0 : (Nat → Int32)) (S_r1 : (Nat → Int32)) (S_r2 : (Nat → Int32)) (S_r3 : (Nat → Int32)) (S_r4 : (Nat → Int32)) (S_x5 : Int32) (S_x6 : Int32) (S_x7 : Int32) (S_x8 : Int32) (S_x9 : Int32) (T_r0 : (Nat → Int32)) (T_x1 : Int32) (T_x2 : Int32) (T_x3 : Int32) (T_x4 : Int32) (T_x5 : Int32) (T_x6 : Int32) (a1 : Int32) (a2 : Int32) (a3 : Int32) : Option (Int32 × (Nat → Int32) × Int32 × Int32 × Int32 × Int32 × Int32 × Int32) :=
  bd (fX5_isPrice a1) (fun t1 => if t1 = (0 : Int32) then (some ((-1 : Int32), T_r0, T_x1, T_x2, T_x3, T_x4, T_x5, T_x6)) else (bd (fX5_isWithin a2 (0 : Int32) (99 : Int32)) (fun t4 => if t4 = (0 : Int32) then (some ((-1 : Int32), T_r0, T_x1, T_x2, T_x3, T_x4, T_x5, T_x6)) else (bd (fX5_isWithin a3 (0 : Int32) (1 : Int32)) (fun t7 => if t7 = (0 : Int32) then (some ((-1 : Int32), T_r0, T_x1, T_x2, T_x3, T_x4, T_x5, T_x6)) else (bd (loopF (fX5_learn_b34 a2 a3 S_r0 S_r1 S_r2 S_r3 S_r4 S_x5 S_x6 S_x7 S_x8 S_x9) 1000 (a1, (0 : Int32), T_r0, T_x1, T_x2, T_x3, T_x4, T_x5, T_x6)) (fun T10 => sm T10 (fun z => some z) (fun e10 => some ((-4 : Int32), e10.1, e10.2.1, e10.2.2.1, e10.2.2.2.1, e10.2.2.2.2.1, e10.2.2.2.2.2.1, e10.2.2.2.2.2.2)))))))))
set_option maxRecDepth 100000 in
set_option maxHeartbeats 4000000 in
theorem kX5_learn (l : Launch) (D : va_G) (cI cB cS : ClassId) (uL : Nat) (L_x6 : Int32) (L_x7 : Int32) (uT : Nat) (aT : Nat → Nat) (T_x1 : Int32) (T_x2 : Int32) (T_x3 : Int32) (T_x4 : Int32) (T_x5 : Int32) (T_x6 : Int32) (T_r0 : (Nat → Int32)) (uS : Nat) (aS : Nat → Nat) (S_x5 : Int32) (S_x6 : Int32) (S_x7 : Int32) (S_x8 : Int32) (S_x9 : Int32) (S_r0 : (Nat → Int32)) (S_r1 : (Nat → Int32)) (S_r2 : (Nat → Int32)) (S_r3 : (Nat → Int32)) (S_r4 : (Nat → Int32)) (uE : Nat) (uD : Nat) (uV : Nat) (uP : Nat) (a1 : Int32) (a2 : Int32) (a3 : Int32) (z : (Int32 × (Nat → Int32) × Int32 × Int32 × Int32 × Int32 × Int32 × Int32)) (h : fX5_learn S_r0 S_r1 S_r2 S_r3 S_r4 S_x5 S_x6 S_x7 S_x8 S_x9 T_r0 T_x1 T_x2 T_x3 T_x4 T_x5 T_x6 a1 a2 a3 = some z) : Mt l yX5_learn cX5_learn 7 (some .int) 4 115 D cI cB cS (lW uL uE uD uT uV uS uP L_x6 L_x7 ++ (tW cI uT aT T_x1 T_x2 T_x3 T_x4 T_x5 T_x6 T_r0 ++ (sW cI uS aS S_x5 S_x6 S_x7 S_x8 S_x9 S_r0 S_r1 S_r2 S_r3 S_r4))) (lW uL uE uD uT uV uS uP L_x6 L_x7 ++ (tW cI uT aT z.2.2.1 z.2.2.2.1 z.2.2.2.2.1 z.2.2.2.2.2.1 z.2.2.2.2.2.2.1 z.2.2.2.2.2.2.2 z.2.1 ++ (sW cI uS aS S_x5 S_x6 S_x7 S_x8 S_x9 S_r0 S_r1 S_r2 S_r3 S_r4))) [.ref uL, .int a1, .int a2, .int a3] (some (.int z.1)) := by
  refine entryI (by decide +kernel) rfl (Nat.le_of_ble_eq_true rfl) ?_
  intro p e s m below meth c A ls QQ R ar F hRet jP jD jS jl
  obtain ⟨hx, hb, hml, hown, hts, jK, hA, hf1, hf2⟩ := id F
  have jl : lv_has ls 7 [(0, .ref uL), (1, .int a1), (2, .int a2), (3, .int a3)] := jl
  unfold fX5_learn at h
  refine lv_iload_n hx hb dX5_learn_0 rfl (lv_at jl 1 rfl) ?_
  obtain ⟨t1, hc2, h⟩ := bd_some h
  refine call0 (As := [.int a1]) (rest := []) (st1 := [.int t1]) F (kX5_isPrice l D cI cB cS  a1 _ hc2 ) okX5_isPrice w_364 (by decide) (by decide) ⟨Nat.zero_le _, Nat.zero_le _⟩ jP jD jS rfl jl.1 rfl rfl (Nat.le_of_ble_eq_true rfl) dX5_learn_1 (fun H locs jP jD jS => ?_)
  refine lv_if_eq (tgt := 26) hx hb dX5_learn_4 (by decide) (fun c3 => ?_) (fun c3 => ?_)
  · have h := itp c3 h
    refine lv_iconst (v := (-1 : Int32)) hx hb dX5_learn_26 (by decide) ?_
    obtain rfl := Option.some.inj h
    exact hRet _ _ _ _ jP jD jS dX5_learn_27
  · have h := itn c3 h
    refine lv_iload_n hx hb dX5_learn_7 rfl (lv_at jl 2 rfl) ?_
    refine lv_iconst (v := (0 : Int32)) hx hb dX5_learn_8 (by decide) ?_
    refine lv_bipush (v := (99 : Int32)) hx hb dX5_learn_9 (by decide) ?_
    obtain ⟨t4, hc5, h⟩ := bd_some h
    refine call0 (As := [.int a2, .int (0 : Int32), .int (99 : Int32)]) (rest := []) (st1 := [.int t4]) F (kX5_isWithin l D cI cB cS  a2 (0 : Int32) (99 : Int32) _ hc5 ) okX5_isWithin w_105 (by decide) (by decide) ⟨Nat.zero_le _, Nat.zero_le _⟩ jP jD jS rfl jl.1 rfl rfl (Nat.le_of_ble_eq_true rfl) dX5_learn_11 (fun H locs jP jD jS => ?_)
    refine lv_if_eq (tgt := 26) hx hb dX5_learn_14 (by decide) (fun c6 => ?_) (fun c6 => ?_)
    · have h := itp c6 h
      refine lv_iconst (v := (-1 : Int32)) hx hb dX5_learn_26 (by decide) ?_
      obtain rfl := Option.some.inj h
      exact hRet _ _ _ _ jP jD jS dX5_learn_27
    · have h := itn c6 h
      refine lv_iload_n hx hb dX5_learn_17 rfl (lv_at jl 3 rfl) ?_
      refine lv_iconst (v := (0 : Int32)) hx hb dX5_learn_18 (by decide) ?_
      refine lv_iconst (v := (1 : Int32)) hx hb dX5_learn_19 (by decide) ?_
      obtain ⟨t7, hc8, h⟩ := bd_some h
      refine call0 (As := [.int a3, .int (0 : Int32), .int (1 : Int32)]) (rest := []) (st1 := [.int t7]) F (kX5_isWithin l D cI cB cS  a3 (0 : Int32) (1 : Int32) _ hc8 ) okX5_isWithin w_105 (by decide) (by decide) ⟨Nat.zero_le _, Nat.zero_le _⟩ jP jD jS rfl jl.1 rfl rfl (Nat.le_of_ble_eq_true rfl) dX5_learn_20 (fun H locs jP jD jS => ?_)
      refine lv_if_ne (tgt := 28) hx hb dX5_learn_23 (by decide) (fun c9 => ?_) (fun c9 => ?_)
      · have h := itn c9 h
        refine lv_iload_n hx hb dX5_learn_28 rfl (lv_at jl 1 rfl) ?_
        refine lv_istore (lv' := [(4, .int a1), (0, .ref uL), (1, .int a1), (2, .int a2), (3, .int a3)]) hx hb dX5_learn_29 jl (by decide) rfl (fun ls jl => ?_)
        refine lv_iconst (v := (0 : Int32)) hx hb dX5_learn_31 (by decide) ?_
        refine lv_istore (lv' := [(5, .int (0 : Int32)), (4, .int a1), (0, .ref uL), (1, .int a1), (2, .int a2), (3, .int a3)]) hx hb dX5_learn_32 jl (by decide) rfl (fun ls jl => ?_)
        obtain ⟨T10, hT10, hz10⟩ := bd_some h
        clear h
        have hE10 : ∀ (e10 : ((Nat → Int32) × Int32 × Int32 × Int32 × Int32 × Int32 × Int32)), T10 = .inr e10 → ∀ (H : Heap) (locs : List Loc) (ls : Array Slot), va_P D vwCl (lW uL uE uD uT uV uS uP L_x6 L_x7 ++ (tW cI uT aT e10.2.1 e10.2.2.1 e10.2.2.2.1 e10.2.2.2.2.1 e10.2.2.2.2.2.1 e10.2.2.2.2.2.2 e10.1 ++ (sW cI uS aS S_x5 S_x6 S_x7 S_x8 S_x9 S_r0 S_r1 S_r2 S_r3 S_r4))) H → va_D A (lW uL uE uD uT uV uS uP L_x6 L_x7 ++ (tW cI uT aT e10.2.1 e10.2.2.1 e10.2.2.2.1 e10.2.2.2.2.1 e10.2.2.2.2.2.1 e10.2.2.2.2.2.2 e10.1 ++ (sW cI uS aS S_x5 S_x6 S_x7 S_x8 S_x9 S_r0 S_r1 S_r2 S_r3 S_r4))) → va_S A s.heap H locs → lv_has ls 7 [] → W p l e R s m ar below meth c H locs 0 0 QQ (F0 m 87 ls []) := by
          intro e10 ho
          subst ho
          have hz10 := sm_r hz10
          clear jP jD jS jl
          intro H locs ls jP jD jS jl
          refine lv_bipush (v := (-4 : Int32)) hx hb dX5_learn_87 (by decide) ?_
          obtain rfl := Option.some.inj hz10
          exact hRet _ _ _ _ jP jD jS dX5_learn_89
        have hL10 : ∀ (n : Nat) (v10 : (Int32 × Int32 × (Nat → Int32) × Int32 × Int32 × Int32 × Int32 × Int32 × Int32)), loopF (fX5_learn_b34 a2 a3 S_r0 S_r1 S_r2 S_r3 S_r4 S_x5 S_x6 S_x7 S_x8 S_x9) n v10 = some T10 → ∀ (H : Heap) (locs : List Loc) (ls : Array Slot), va_P D vwCl (lW uL uE uD uT uV uS uP L_x6 L_x7 ++ (tW cI uT aT v10.2.2.2.1 v10.2.2.2.2.1 v10.2.2.2.2.2.1 v10.2.2.2.2.2.2.1 v10.2.2.2.2.2.2.2.1 v10.2.2.2.2.2.2.2.2 v10.2.2.1 ++ (sW cI uS aS S_x5 S_x6 S_x7 S_x8 S_x9 S_r0 S_r1 S_r2 S_r3 S_r4))) H → va_D A (lW uL uE uD uT uV uS uP L_x6 L_x7 ++ (tW cI uT aT v10.2.2.2.1 v10.2.2.2.2.1 v10.2.2.2.2.2.1 v10.2.2.2.2.2.2.1 v10.2.2.2.2.2.2.2.1 v10.2.2.2.2.2.2.2.2 v10.2.2.1 ++ (sW cI uS aS S_x5 S_x6 S_x7 S_x8 S_x9 S_r0 S_r1 S_r2 S_r3 S_r4))) → va_S A s.heap H locs → lv_has ls 7 [(0, .ref uL), (2, .int a2), (3, .int a3), (4, .int v10.1), (5, .int v10.2.1)] → W p l e R s m ar below meth c H locs 0 0 QQ (F0 m 34 ls []) := by
          clear jP jD jS jl hT10
          intro n
          induction n with
          | zero => intro v10 hq; exact (loop_none hq).elim
          | succ n ih =>
            intro v10 hq H locs ls jP jD jS jl
            obtain ⟨o10, hv10, hq10⟩ := loop_some hq
            clear hq
            unfold fX5_learn_b34 at hv10
            refine lv_iload hx hb dX5_learn_34 (lv_at jl 4 rfl) ?_
            refine lv_bipush (v := (99 : Int32)) hx hb dX5_learn_36 (by decide) ?_
            refine lv_icmp_gt (tgt := 87) hx hb dX5_learn_38 (by decide) (fun c11 => ?_) (fun c11 => ?_)
            · have hv10 := itp c11 hv10
              obtain rfl := Option.some.inj hv10
              obtain rfl := nxt_r hq10
              exact hE10 _ rfl _ _ _ jP jD jS (lv_sub jl [] rfl)
            · have hv10 := itn c11 hv10
              refine lv_iload_n hx hb dX5_learn_41 rfl (lv_at jl 2 rfl) ?_
              obtain ⟨ot14, hvt14, hzt14⟩ := bd_some hv10
              clear hv10
              have hJt14 : ∀ (t14 : Unit), ot14 = .inr t14 → ∀ (H : Heap) (locs : List Loc) (ls : Array Slot), va_P D vwCl (lW uL uE uD uT uV uS uP L_x6 L_x7 ++ (tW cI uT aT v10.2.2.2.1 v10.2.2.2.2.1 v10.2.2.2.2.2.1 v10.2.2.2.2.2.2.1 v10.2.2.2.2.2.2.2.1 v10.2.2.2.2.2.2.2.2 v10.2.2.1 ++ (sW cI uS aS S_x5 S_x6 S_x7 S_x8 S_x9 S_r0 S_r1 S_r2 S_r3 S_r4))) H → va_D A (lW uL uE uD uT uV uS uP L_x6 L_x7 ++ (tW cI uT aT v10.2.2.2.1 v10.2.2.2.2.1 v10.2.2.2.2.2.1 v10.2.2.2.2.2.2.1 v10.2.2.2.2.2.2.2.1 v10.2.2.2.2.2.2.2.2 v10.2.2.1 ++ (sW cI uS aS S_x5 S_x6 S_x7 S_x8 S_x9 S_r0 S_r1 S_r2 S_r3 S_r4))) → va_S A s.heap H locs → lv_has ls 7 [(0, .ref uL), (2, .int a2), (3, .int a3), (4, .int v10.1), (5, .int v10.2.1)] → W p l e R s m ar below meth c H locs 0 0 QQ (F0 m 54 ls []) := by
                clear jP jD jS jl
                intro t14 ho H locs ls jP jD jS jl
                subst ho
                have hv10 := sm_r hzt14
                refine lv_aload_n hx hb dX5_learn_54 rfl (lv_at jl 0 rfl) ?_
                refine lv_iload hx hb dX5_learn_55 (lv_at jl 3 rfl) ?_
                obtain ⟨t15, hc16, hv10⟩ := bd_some hv10
                refine callW (w1 := (lW uL uE uD uT uV uS uP L_x6 L_x7 ++ (tW cI uT aT t15.2.2.1 t15.2.2.2.1 t15.2.2.2.2.1 t15.2.2.2.2.2.1 t15.2.2.2.2.2.2.1 t15.2.2.2.2.2.2.2 t15.2.1 ++ (sW cI uS aS S_x5 S_x6 S_x7 S_x8 S_x9 S_r0 S_r1 S_r2 S_r3 S_r4)))) (As := [.int v10.1]) (rest := []) (st1 := [.int t15.1]) 0 F (kX5_priceLearned l D cI cB cS uL L_x6 L_x7 uT aT v10.2.2.2.1 v10.2.2.2.2.1 v10.2.2.2.2.2.1 v10.2.2.2.2.2.2.1 v10.2.2.2.2.2.2.2.1 v10.2.2.2.2.2.2.2.2 v10.2.2.1 uS aS S_x5 S_x6 S_x7 S_x8 S_x9 S_r0 S_r1 S_r2 S_r3 S_r4 uE uD uV uP v10.1 _ hc16 ) okX5_priceLearned w_732 (by decide) (by decide) ⟨Nat.zero_le _, Nat.zero_le _⟩ rfl rfl rfl jP jD jS rfl jl.1 rfl rfl (Nat.le_of_ble_eq_true rfl) dX5_learn_57 (fun H locs jP jD jS => ?_)
                refine lv_istore (lv' := [(6, .int t15.1), (0, .ref uL), (2, .int a2), (3, .int a3), (4, .int v10.1), (5, .int v10.2.1)]) hx hb dX5_learn_60 jl (by decide) rfl (fun ls jl => ?_)
                refine lv_iload_n hx hb dX5_learn_62 rfl (lv_at jl 3 rfl) ?_
                refine lv_iconst (v := (1 : Int32)) hx hb dX5_learn_63 (by decide) ?_
                refine lv_icmp_ne (tgt := 77) hx hb dX5_learn_64 (by decide) (fun c17 => ?_) (fun c17 => ?_)
                · have hv10 := itn c17 hv10
                  refine lv_iload hx hb dX5_learn_77 (lv_at jl 0 rfl) ?_
                  refine lv_istore (lv' := [(4, .int t15.1), (6, .int t15.1), (0, .ref uL), (2, .int a2), (3, .int a3), (5, .int v10.2.1)]) hx hb dX5_learn_79 jl (by decide) rfl (fun ls jl => ?_)
                  refine lv_iinc (v := (v10.2.1 + (1 : Int32))) (lv' := [(5, .int (v10.2.1 + (1 : Int32))), (4, .int t15.1), (6, .int t15.1), (0, .ref uL), (2, .int a2), (3, .int a3)]) hx hb dX5_learn_81 jl (k := 5) rfl rfl (by decide) rfl (fun ls jl => ?_)
                  refine lv_goto (tgt := 34) hx hb dX5_learn_84 (by decide) ?_
                  obtain rfl := Option.some.inj hv10
                  exact ih _ (nxt_l hq10) _ _ _ jP jD jS (lv_sub jl [3, 4, 5, 1, 0] rfl)
                · have hv10 := itp c17 hv10
                  refine lv_iload hx hb dX5_learn_67 (lv_at jl 0 rfl) ?_
                  refine lv_iload hx hb dX5_learn_69 (lv_at jl 4 rfl) ?_
                  refine lv_icmp_ne (tgt := 77) hx hb dX5_learn_71 (by decide) (fun c18 => ?_) (fun c18 => ?_)
                  · have hv10 := itn c18 hv10
                    refine lv_iload hx hb dX5_learn_77 (lv_at jl 0 rfl) ?_
                    refine lv_istore (lv' := [(4, .int t15.1), (6, .int t15.1), (0, .ref uL), (2, .int a2), (3, .int a3), (5, .int v10.2.1)]) hx hb dX5_learn_79 jl (by decide) rfl (fun ls jl => ?_)
                    refine lv_iinc (v := (v10.2.1 + (1 : Int32))) (lv' := [(5, .int (v10.2.1 + (1 : Int32))), (4, .int t15.1), (6, .int t15.1), (0, .ref uL), (2, .int a2), (3, .int a3)]) hx hb dX5_learn_81 jl (k := 5) rfl rfl (by decide) rfl (fun ls jl => ?_)
                    refine lv_goto (tgt := 34) hx hb dX5_learn_84 (by decide) ?_
                    obtain rfl := Option.some.inj hv10
                    exact ih _ (nxt_l hq10) _ _ _ jP jD jS (lv_sub jl [3, 4, 5, 1, 0] rfl)
                  · have hv10 := itp c18 hv10
                    refine lv_iload hx hb dX5_learn_74 (lv_at jl 5 rfl) ?_
                    obtain rfl := Option.some.inj hv10
                    obtain rfl := nxt_r hq10
                    have hz10 := sm_l hz10
                    obtain rfl := Option.some.inj hz10
                    exact hRet _ _ _ _ jP jD jS dX5_learn_76
              refine lv_if_ne (tgt := 54) hx hb dX5_learn_42 (by decide) (fun c12 => ?_) (fun c12 => ?_)
              · have hvt14 := itn c12 hvt14
                obtain rfl := Option.some.inj hvt14
                exact hJt14 _ rfl _ _ _ jP jD jS (lv_sub jl [0, 1, 2, 3, 4] rfl)
              · have hvt14 := itp c12 hvt14
                refine lv_iload hx hb dX5_learn_45 (lv_at jl 4 rfl) ?_
                refine lv_iload_n hx hb dX5_learn_47 rfl (lv_at jl 1 rfl) ?_
                refine lv_icmp_ne (tgt := 54) hx hb dX5_learn_48 (by decide) (fun c13 => ?_) (fun c13 => ?_)
                · have hvt14 := itn c13 hvt14
                  obtain rfl := Option.some.inj hvt14
                  exact hJt14 _ rfl _ _ _ jP jD jS (lv_sub jl [0, 1, 2, 3, 4] rfl)
                · have hvt14 := itp c13 hvt14
                  refine lv_iload hx hb dX5_learn_51 (lv_at jl 3 rfl) ?_
                  obtain rfl := Option.some.inj hvt14
                  have hzt14 := sm_l hzt14
                  obtain rfl := Option.some.inj hzt14
                  obtain rfl := nxt_r hq10
                  have hz10 := sm_l hz10
                  obtain rfl := Option.some.inj hz10
                  exact hRet _ _ _ _ jP jD jS dX5_learn_53
        exact hL10 1000 _ hT10 _ _ _ jP jD jS (lv_sub jl [2, 4, 5, 1, 0] rfl)
      · have h := itp c9 h
        refine lv_iconst (v := (-1 : Int32)) hx hb dX5_learn_26 (by decide) ?_
        obtain rfl := Option.some.inj h
        exact hRet _ _ _ _ jP jD jS dX5_learn_27
