theorem okX5_sharp : okV yX5_sharp cX5_sharp 4 (some .int) 0 := ⟨w_594, w_595, w_596, w_2, by decide, by decide, by decide +kernel⟩
def fX5_sharp_b44 (l1 : Int32) (l2 : Int32) (P_r0 : (Nat → Int32)) (P_r1 : (Nat → Int32)) (P_r2 : (Nat → Int32)) (P_r3 : (Nat → Int32)) (P_r4 : (Nat → Int32)) (P_x5 : Int32) (P_x6 : Int32) (P_x7 : Int32) (P_x8 : Int32) (P_x9 : Int32) (v1 : (Int32 × (Nat → Int32) × Int32 × Int32 × Int32 × Int32 × Int32 × Int32)) : Option ((Int32 × (Nat → Int32) × Int32 × Int32 × Int32 × Int32 × Int32 × Int32) ⊕ ((Int32 × (Nat → Int32) × (Nat → Int32) × (Nat → Int32) × (Nat → Int32) × (Nat → Int32) × Int32 × Int32 × Int32 × Int32 × Int32 × (Nat → Int32) × Int32 × Int32 × Int32 × Int32 × Int32 × Int32) ⊕ ((Nat → Int32) × Int32 × Int32 × Int32 × Int32 × Int32 × Int32))) :=
  if (100 : Int32) ≤ v1.1 then (some (.inr (.inr (v1.2.1, v1.2.2.1, v1.2.2.2.1, v1.2.2.2.2.1, v1.2.2.2.2.2.1, v1.2.2.2.2.2.2.1, v1.2.2.2.2.2.2.2)))) else (bd (fX4_make (P_r0) (P_r1) (P_r2) (P_r3) (P_r4) (P_x5) (P_x6) (P_x7) (P_x8) v1.2.1 (2 : Int32) (0 : Int32) v1.1) (fun t1 => bd (fX4_bringsAll t1.2.1 (l1)) (fun t2 => if t2 = (0 : Int32) then (some (.inl ((v1.1 + (1 : Int32)), t1.1, t1.2.1, t1.2.2.1, t1.2.2.2.1, t1.2.2.2.2.1, t1.2.2.2.2.2.1, t1.2.2.2.2.2.2))) else (bd (fX4_holdsAt t1.2.2.2.1 t1.2.2.2.2.1 v1.1) (fun t3 => if t3 = (0 : Int32) then (some (.inl ((v1.1 + (1 : Int32)), t1.1, t1.2.1, t1.2.2.1, t1.2.2.2.1, t1.2.2.2.2.1, t1.2.2.2.2.2.1, t1.2.2.2.2.2.2))) else (some (.inr (.inl (l2, P_r0, P_r1, P_r2, P_r3, P_r4, P_x5, P_x6, P_x7, P_x8, P_x9, t1.1, t1.2.1, t1.2.2.1, t1.2.2.2.1, t1.2.2.2.2.1, t1.2.2.2.2.2.1, t1.2.2.2.2.2.2)))))))))
def fX5_sharp_b28 (l1 : Int32) (P_r0 : (Nat → Int32)) (P_r1 : (Nat → Int32)) (P_r2 : (Nat → Int32)) (P_r3 : (Nat → Int32)) (P_r4 : (Nat → Int32)) (P_x5 : Int32) (P_x6 : Int32) (P_x8 : Int32) (P_x9 : Int32) (v1 : (Int32 × Int32 × (Nat → Int32) × Int32 × Int32 × Int32 × Int32 × Int32 × Int32)) : Option ((Int32 × Int32 × (Nat → Int32) × Int32 × Int32 × Int32 × Int32 × Int32 × Int32) ⊕ ((Int32 × (Nat → Int32) × (Nat → Int32) × (Nat → Int32) × (Nat → Int32) × (Nat → Int32) × Int32 × Int32 × Int32 × Int32 × Int32 × (Nat → Int32) × Int32 × Int32 × Int32 × Int32 × Int32 × Int32) ⊕ (Int32 × (Nat → Int32) × Int32 × Int32 × Int32 × Int32 × Int32 × Int32))) :=
  if (8 : Int32) < v1.1 then (some (.inr (.inr (v1.2.1, v1.2.2.1, v1.2.2.2.1, v1.2.2.2.2.1, v1.2.2.2.2.2.1, v1.2.2.2.2.2.2.1, v1.2.2.2.2.2.2.2.1, v1.2.2.2.2.2.2.2.2)))) else (bd (loopF (fX5_sharp_b44 l1 v1.1 P_r0 P_r1 P_r2 P_r3 P_r4 P_x5 P_x6 v1.1 P_x8 P_x9) 1000 ((0 : Int32), v1.2.2.1, v1.2.2.2.1, v1.2.2.2.2.1, v1.2.2.2.2.2.1, v1.2.2.2.2.2.2.1, v1.2.2.2.2.2.2.2.1, v1.2.2.2.2.2.2.2.2)) (fun T1 => sm T1 (fun z => some (.inr (.inl z))) (fun e1 => some (.inl ((v1.1 + (1 : Int32)), v1.1, e1.1, e1.2.1, e1.2.2.1, e1.2.2.2.1, e1.2.2.2.2.1, e1.2.2.2.2.2.1, e1.2.2.2.2.2.2)))))
def fX5_sharp (P_r0 : (Nat → Int32)) (P_r1 : (Nat → Int32)) (P_r2 : (Nat → Int32)) (P_r3 : (Nat → Int32)) (P_r4 : (Nat → Int32)) (P_x5 : Int32) (P_x6 : Int32) (P_x7 : Int32) (P_x8 : Int32) (P_x9 : Int32) (S_r0 : (Nat → Int32)) (S_r1 : (Nat → Int32)) (S_r2 : (Nat → Int32)) (S_r3 : (Nat → Int32)) (S_r4 : (Nat → Int32)) (S_x5 : Int32) (S_x6 : Int32) (S_x7 : Int32) (S_x8 : Int32) (S_x9 : Int32) (T_r0 : (Nat → Int32)) (T_x1 : Int32) (T_x2 : Int32) (T_x3 : Int32) (T_x4 : Int32) (T_x5 : Int32) (T_x6 : Int32) : Option (Int32 × (Nat → Int32) × (Nat → Int32) × (Nat → Int32) × (Nat → Int32) × (Nat → Int32) × Int32 × Int32 × Int32 × Int32 × Int32 × (Nat → Int32) × Int32 × Int32 × Int32 × Int32 × Int32 × Int32) :=
  bd (fX2_goodOnes (S_r2) (S_x5) (S_x6)) (fun t1 => if t1 = (0 : Int32) then (some ((-4 : Int32), P_r0, P_r1, P_r2, P_r3, P_r4, P_x5, P_x6, P_x7, P_x8, P_x9, T_r0, T_x1, T_x2, T_x3, T_x4, T_x5, T_x6)) else (bd (fX2_copy (S_r0) (S_r1) (S_r2) (S_r3) (S_r4) (S_x5) (S_x6) (S_x7) (S_x8) (S_x9) (P_r0) (P_r1) (P_r2) (P_r3) (P_r4)) (fun t4 => bd (loopF (fX5_sharp_b28 t1 t4.1 t4.2.1 t4.2.2.1 t4.2.2.2.1 t4.2.2.2.2.1 t4.2.2.2.2.2.1 t4.2.2.2.2.2.2.1 t4.2.2.2.2.2.2.2.2.1 t4.2.2.2.2.2.2.2.2.2) 1000 ((4 : Int32), t4.2.2.2.2.2.2.2.1, T_r0, T_x1, T_x2, T_x3, T_x4, T_x5, T_x6)) (fun T6 => sm T6 (fun z => some z) (fun e6 => some ((-4 : Int32), t4.1, t4.2.1, t4.2.2.1, t4.2.2.2.1, t4.2.2.2.2.1, t4.2.2.2.2.2.1, t4.2.2.2.2.2.2.1, e6.1, t4.2.2.2.2.2.2.2.2.1, t4.2.2.2.2.2.2.2.2.2, e6.2.1, e6.2.2.1, e6.2.2.2.1, e6.2.2.2.2.1, e6.2.2.2.2.2.1, e6.2.2.2.2.2.2.1, e6.2.2.2.2.2.2.2))))))
set_option maxRecDepth 100000 in
set_option maxHeartbeats 4000000 in
theorem kX5_sharp (l : Launch) (D : va_G) (cI cB cS : ClassId) (uL : Nat) (L_x6 : Int32) (L_x7 : Int32) (uT : Nat) (aT : Nat → Nat) (T_x1 : Int32) (T_x2 : Int32) (T_x3 : Int32) (T_x4 : Int32) (T_x5 : Int32) (T_x6 : Int32) (T_r0 : (Nat → Int32)) (uS : Nat) (aS : Nat → Nat) (S_x5 : Int32) (S_x6 : Int32) (S_x7 : Int32) (S_x8 : Int32) (S_x9 : Int32) (S_r0 : (Nat → Int32)) (S_r1 : (Nat → Int32)) (S_r2 : (Nat → Int32)) (S_r3 : (Nat → Int32)) (S_r4 : (Nat → Int32)) (uP : Nat) (aP : Nat → Nat) (P_x5 : Int32) (P_x6 : Int32) (P_x7 : Int32) (P_x8 : Int32) (P_x9 : Int32) (P_r0 : (Nat → Int32)) (P_r1 : (Nat → Int32)) (P_r2 : (Nat → Int32)) (P_r3 : (Nat → Int32)) (P_r4 : (Nat → Int32)) (uE : Nat) (uD : Nat) (uV : Nat) (z : (Int32 × (Nat → Int32) × (Nat → Int32) × (Nat → Int32) × (Nat → Int32) × (Nat → Int32) × Int32 × Int32 × Int32 × Int32 × Int32 × (Nat → Int32) × Int32 × Int32 × Int32 × Int32 × Int32 × Int32)) (h : fX5_sharp P_r0 P_r1 P_r2 P_r3 P_r4 P_x5 P_x6 P_x7 P_x8 P_x9 S_r0 S_r1 S_r2 S_r3 S_r4 S_x5 S_x6 S_x7 S_x8 S_x9 T_r0 T_x1 T_x2 T_x3 T_x4 T_x5 T_x6 = some z) : Mt l yX5_sharp cX5_sharp 4 (some .int) 3 94 D cI cB cS (lW uL uE uD uT uV uS uP L_x6 L_x7 ++ (tW cI uT aT T_x1 T_x2 T_x3 T_x4 T_x5 T_x6 T_r0 ++ (sW cI uS aS S_x5 S_x6 S_x7 S_x8 S_x9 S_r0 S_r1 S_r2 S_r3 S_r4 ++ (sW cI uP aP P_x5 P_x6 P_x7 P_x8 P_x9 P_r0 P_r1 P_r2 P_r3 P_r4)))) (lW uL uE uD uT uV uS uP L_x6 L_x7 ++ (tW cI uT aT z.2.2.2.2.2.2.2.2.2.2.2.2.1 z.2.2.2.2.2.2.2.2.2.2.2.2.2.1 z.2.2.2.2.2.2.2.2.2.2.2.2.2.2.1 z.2.2.2.2.2.2.2.2.2.2.2.2.2.2.2.1 z.2.2.2.2.2.2.2.2.2.2.2.2.2.2.2.2.1 z.2.2.2.2.2.2.2.2.2.2.2.2.2.2.2.2.2 z.2.2.2.2.2.2.2.2.2.2.2.1 ++ (sW cI uS aS S_x5 S_x6 S_x7 S_x8 S_x9 S_r0 S_r1 S_r2 S_r3 S_r4 ++ (sW cI uP aP z.2.2.2.2.2.2.1 z.2.2.2.2.2.2.2.1 z.2.2.2.2.2.2.2.2.1 z.2.2.2.2.2.2.2.2.2.1 z.2.2.2.2.2.2.2.2.2.2.1 z.2.1 z.2.2.1 z.2.2.2.1 z.2.2.2.2.1 z.2.2.2.2.2.1)))) [.ref uL] (some (.int z.1)) := by
  refine entryI (by decide +kernel) rfl (Nat.le_of_ble_eq_true rfl) ?_
  intro p e s m below meth c A ls QQ R ar F hRet jP jD jS jl
  obtain ⟨hx, hb, hml, hown, hts, jK, hA, hf1, hf2⟩ := id F
  have jl : lv_has ls 4 [(0, .ref uL)] := jl
  unfold fX5_sharp at h
  refine lv_aload_n hx hb dX5_sharp_0 rfl (lv_at jl 0 rfl) ?_
  refine va_get (D := D) (ci := 5) (v := .ref uS) (C := RX5) (T := TX5) (N := 8) hx hb hts in5 hown jK.1 jP 0 rfl rfl 4 (by decide) (hts _ w_32) (fun _ h9 => h9) rfl dX5_sharp_1 ?_
  obtain ⟨t1, hc2, h⟩ := bd_some h
  refine callP (wc := (sW cI uS aS S_x5 S_x6 S_x7 S_x8 S_x9 S_r0 S_r1 S_r2 S_r3 S_r4)) (wr := (lW uL uE uD uT uV uS uP L_x6 L_x7 ++ (tW cI uT aT T_x1 T_x2 T_x3 T_x4 T_x5 T_x6 T_r0 ++ (sW cI uP aP P_x5 P_x6 P_x7 P_x8 P_x9 P_r0 P_r1 P_r2 P_r3 P_r4)))) (w1 := (sW cI uS aS S_x5 S_x6 S_x7 S_x8 S_x9 S_r0 S_r1 S_r2 S_r3 S_r4)) (ws1 := (lW uL uE uD uT uV uS uP L_x6 L_x7 ++ (tW cI uT aT T_x1 T_x2 T_x3 T_x4 T_x5 T_x6 T_r0 ++ (sW cI uS aS S_x5 S_x6 S_x7 S_x8 S_x9 S_r0 S_r1 S_r2 S_r3 S_r4 ++ (sW cI uP aP P_x5 P_x6 P_x7 P_x8 P_x9 P_r0 P_r1 P_r2 P_r3 P_r4))))) (As := []) (rest := []) (st1 := [.int t1]) 0 [3, 4, 5, 6, 7, 8] [0, 1, 2, 9, 10, 11, 12, 13, 14] [0, 1, 2, 9, 10, 11, 12, 13, 14, 3, 4, 5, 6, 7, 8] F (kX2_goodOnes l D cI cB cS uS aS S_x5 S_x6 S_x7 S_x8 S_x9 S_r0 S_r1 S_r2 S_r3 S_r4  _ hc2 ) okX2_goodOnes w_597 (by decide) (by decide) ⟨Nat.zero_le _, Nat.zero_le _⟩ rfl rfl rfl jP jD jS rfl jl.1 rfl rfl (Nat.le_of_ble_eq_true rfl) dX5_sharp_4 rfl rfl (by decide) (by decide) (by decide) rfl (by decide) (fun H locs jP jD jS => ?_)
  refine lv_istore_n (lv' := [(1, .int t1), (0, .ref uL)]) hx hb dX5_sharp_7 rfl jl (by decide) rfl (fun ls jl => ?_)
  refine lv_iload_n hx hb dX5_sharp_8 rfl (lv_at jl 0 rfl) ?_
  refine lv_if_ne (tgt := 15) hx hb dX5_sharp_9 (by decide) (fun c3 => ?_) (fun c3 => ?_)
  · have h := itn c3 h
    refine lv_aload_n hx hb dX5_sharp_15 rfl (lv_at jl 1 rfl) ?_
    refine va_get (D := D) (ci := 5) (v := .ref uP) (C := RX5) (T := TX5) (N := 8) hx hb hts in5 hown jK.1 jP 0 rfl rfl 5 (by decide) (hts _ w_33) (fun _ h9 => h9) rfl dX5_sharp_16 ?_
    refine lv_aload_n hx hb dX5_sharp_19 rfl (lv_at jl 1 rfl) ?_
    refine va_get (D := D) (ci := 5) (v := .ref uS) (C := RX5) (T := TX5) (N := 8) hx hb hts in5 hown jK.1 jP 0 rfl rfl 4 (by decide) (hts _ w_32) (fun _ h9 => h9) rfl dX5_sharp_20 ?_
    obtain ⟨t4, hc5, h⟩ := bd_some h
    refine callP (wc := (sW cI uP aP P_x5 P_x6 P_x7 P_x8 P_x9 P_r0 P_r1 P_r2 P_r3 P_r4 ++ (sW cI uS aS S_x5 S_x6 S_x7 S_x8 S_x9 S_r0 S_r1 S_r2 S_r3 S_r4))) (wr := (lW uL uE uD uT uV uS uP L_x6 L_x7 ++ (tW cI uT aT T_x1 T_x2 T_x3 T_x4 T_x5 T_x6 T_r0))) (w1 := (sW cI uP aP t4.2.2.2.2.2.1 t4.2.2.2.2.2.2.1 t4.2.2.2.2.2.2.2.1 t4.2.2.2.2.2.2.2.2.1 t4.2.2.2.2.2.2.2.2.2 t4.1 t4.2.1 t4.2.2.1 t4.2.2.2.1 t4.2.2.2.2.1 ++ (sW cI uS aS S_x5 S_x6 S_x7 S_x8 S_x9 S_r0 S_r1 S_r2 S_r3 S_r4))) (ws1 := (lW uL uE uD uT uV uS uP L_x6 L_x7 ++ (tW cI uT aT T_x1 T_x2 T_x3 T_x4 T_x5 T_x6 T_r0 ++ (sW cI uS aS S_x5 S_x6 S_x7 S_x8 S_x9 S_r0 S_r1 S_r2 S_r3 S_r4 ++ (sW cI uP aP t4.2.2.2.2.2.1 t4.2.2.2.2.2.2.1 t4.2.2.2.2.2.2.2.1 t4.2.2.2.2.2.2.2.2.1 t4.2.2.2.2.2.2.2.2.2 t4.1 t4.2.1 t4.2.2.1 t4.2.2.2.1 t4.2.2.2.2.1))))) (As := [.ref uS]) (rest := []) (st1 := []) 0 [9, 10, 11, 12, 13, 14, 3, 4, 5, 6, 7, 8] [0, 1, 2] [0, 1, 2, 9, 10, 11, 12, 13, 14, 3, 4, 5, 6, 7, 8] F (kX2_copy l D cI cB cS uP aP P_x5 P_x6 P_x7 P_x8 P_x9 P_r0 P_r1 P_r2 P_r3 P_r4 uS aS S_x5 S_x6 S_x7 S_x8 S_x9 S_r0 S_r1 S_r2 S_r3 S_r4  _ hc5 ) okX2_copy w_602 (by decide) (by decide) ⟨Nat.zero_le _, Nat.zero_le _⟩ rfl rfl rfl jP jD jS rfl jl.1 rfl rfl (Nat.le_of_ble_eq_true rfl) dX5_sharp_23 rfl rfl (by decide) (by decide) (by decide) rfl (by decide) (fun H locs jP jD jS => ?_)
    refine lv_iconst (v := (4 : Int32)) hx hb dX5_sharp_26 (by decide) ?_
    refine lv_istore_n (lv' := [(2, .int (4 : Int32)), (1, .int t1), (0, .ref uL)]) hx hb dX5_sharp_27 rfl jl (by decide) rfl (fun ls jl => ?_)
    obtain ⟨T6, hT6, hz6⟩ := bd_some h
    clear h
    have hE6 : ∀ (e6 : (Int32 × (Nat → Int32) × Int32 × Int32 × Int32 × Int32 × Int32 × Int32)), T6 = .inr e6 → ∀ (H : Heap) (locs : List Loc) (ls : Array Slot), va_P D vwCl (lW uL uE uD uT uV uS uP L_x6 L_x7 ++ (tW cI uT aT e6.2.2.1 e6.2.2.2.1 e6.2.2.2.2.1 e6.2.2.2.2.2.1 e6.2.2.2.2.2.2.1 e6.2.2.2.2.2.2.2 e6.2.1 ++ (sW cI uS aS S_x5 S_x6 S_x7 S_x8 S_x9 S_r0 S_r1 S_r2 S_r3 S_r4 ++ (sW cI uP aP t4.2.2.2.2.2.1 t4.2.2.2.2.2.2.1 e6.1 t4.2.2.2.2.2.2.2.2.1 t4.2.2.2.2.2.2.2.2.2 t4.1 t4.2.1 t4.2.2.1 t4.2.2.2.1 t4.2.2.2.2.1)))) H → va_D A (lW uL uE uD uT uV uS uP L_x6 L_x7 ++ (tW cI uT aT e6.2.2.1 e6.2.2.2.1 e6.2.2.2.2.1 e6.2.2.2.2.2.1 e6.2.2.2.2.2.2.1 e6.2.2.2.2.2.2.2 e6.2.1 ++ (sW cI uS aS S_x5 S_x6 S_x7 S_x8 S_x9 S_r0 S_r1 S_r2 S_r3 S_r4 ++ (sW cI uP aP t4.2.2.2.2.2.1 t4.2.2.2.2.2.2.1 e6.1 t4.2.2.2.2.2.2.2.2.1 t4.2.2.2.2.2.2.2.2.2 t4.1 t4.2.1 t4.2.2.1 t4.2.2.2.1 t4.2.2.2.2.1)))) → va_S A s.heap H locs → lv_has ls 4 [] → W p l e R s m ar below meth c H locs 0 0 QQ (F0 m 100 ls []) := by
      intro e6 ho
      subst ho
      have hz6 := sm_r hz6
      clear jP jD jS jl
      intro H locs ls jP jD jS jl
      refine lv_bipush (v := (-4 : Int32)) hx hb dX5_sharp_100 (by decide) ?_
      obtain rfl := Option.some.inj hz6
      exact hRet _ _ _ _ jP jD jS dX5_sharp_102
    have hL6 : ∀ (n : Nat) (v6 : (Int32 × Int32 × (Nat → Int32) × Int32 × Int32 × Int32 × Int32 × Int32 × Int32)), loopF (fX5_sharp_b28 t1 t4.1 t4.2.1 t4.2.2.1 t4.2.2.2.1 t4.2.2.2.2.1 t4.2.2.2.2.2.1 t4.2.2.2.2.2.2.1 t4.2.2.2.2.2.2.2.2.1 t4.2.2.2.2.2.2.2.2.2) n v6 = some T6 → ∀ (H : Heap) (locs : List Loc) (ls : Array Slot), va_P D vwCl (lW uL uE uD uT uV uS uP L_x6 L_x7 ++ (tW cI uT aT v6.2.2.2.1 v6.2.2.2.2.1 v6.2.2.2.2.2.1 v6.2.2.2.2.2.2.1 v6.2.2.2.2.2.2.2.1 v6.2.2.2.2.2.2.2.2 v6.2.2.1 ++ (sW cI uS aS S_x5 S_x6 S_x7 S_x8 S_x9 S_r0 S_r1 S_r2 S_r3 S_r4 ++ (sW cI uP aP t4.2.2.2.2.2.1 t4.2.2.2.2.2.2.1 v6.2.1 t4.2.2.2.2.2.2.2.2.1 t4.2.2.2.2.2.2.2.2.2 t4.1 t4.2.1 t4.2.2.1 t4.2.2.2.1 t4.2.2.2.2.1)))) H → va_D A (lW uL uE uD uT uV uS uP L_x6 L_x7 ++ (tW cI uT aT v6.2.2.2.1 v6.2.2.2.2.1 v6.2.2.2.2.2.1 v6.2.2.2.2.2.2.1 v6.2.2.2.2.2.2.2.1 v6.2.2.2.2.2.2.2.2 v6.2.2.1 ++ (sW cI uS aS S_x5 S_x6 S_x7 S_x8 S_x9 S_r0 S_r1 S_r2 S_r3 S_r4 ++ (sW cI uP aP t4.2.2.2.2.2.1 t4.2.2.2.2.2.2.1 v6.2.1 t4.2.2.2.2.2.2.2.2.1 t4.2.2.2.2.2.2.2.2.2 t4.1 t4.2.1 t4.2.2.1 t4.2.2.2.1 t4.2.2.2.2.1)))) → va_S A s.heap H locs → lv_has ls 4 [(0, .ref uL), (1, .int t1), (2, .int v6.1)] → W p l e R s m ar below meth c H locs 0 0 QQ (F0 m 28 ls []) := by
      clear jP jD jS jl hT6
      intro n
      induction n with
      | zero => intro v6 hq; exact (loop_none hq).elim
      | succ n ih =>
        intro v6 hq H locs ls jP jD jS jl
        obtain ⟨o6, hv6, hq6⟩ := loop_some hq
        clear hq
        unfold fX5_sharp_b28 at hv6
        refine lv_iload_n hx hb dX5_sharp_28 rfl (lv_at jl 2 rfl) ?_
        refine lv_bipush (v := (8 : Int32)) hx hb dX5_sharp_29 (by decide) ?_
        refine lv_icmp_gt (tgt := 100) hx hb dX5_sharp_31 (by decide) (fun c7 => ?_) (fun c7 => ?_)
        · have hv6 := itp c7 hv6
          obtain rfl := Option.some.inj hv6
          obtain rfl := nxt_r hq6
          exact hE6 _ rfl _ _ _ jP jD jS (lv_sub jl [] rfl)
        · have hv6 := itn c7 hv6
          refine lv_aload_n hx hb dX5_sharp_34 rfl (lv_at jl 0 rfl) ?_
          refine va_get (D := D) (ci := 5) (v := .ref uP) (C := RX5) (T := TX5) (N := 8) hx hb hts in5 hown jK.1 jP 0 rfl rfl 5 (by decide) (hts _ w_33) (fun _ h9 => h9) rfl dX5_sharp_35 ?_
          refine lv_iload_n hx hb dX5_sharp_38 rfl (lv_at jl 2 rfl) ?_
          refine va_put (D := D) (ci := 2) (v := .int v6.1) (ty := .int) (C := RX2) (T := TX2) (N := 10) hx hb hts in2 tyX2 tyX2_ok nmX2 hown jK.1 jP jD jS 9 rfl rfl 7 (by decide) (hts _ w_346) (fun _ h9 => h9) rfl (by decide +kernel) rfl rfl (Nat.le_of_ble_eq_true rfl) dX5_sharp_39 (fun H locs jP jD jS => ?_)
          have jP : va_P D vwCl (lW uL uE uD uT uV uS uP L_x6 L_x7 ++ (tW cI uT aT v6.2.2.2.1 v6.2.2.2.2.1 v6.2.2.2.2.2.1 v6.2.2.2.2.2.2.1 v6.2.2.2.2.2.2.2.1 v6.2.2.2.2.2.2.2.2 v6.2.2.1 ++ (sW cI uS aS S_x5 S_x6 S_x7 S_x8 S_x9 S_r0 S_r1 S_r2 S_r3 S_r4 ++ (sW cI uP aP t4.2.2.2.2.2.1 t4.2.2.2.2.2.2.1 v6.1 t4.2.2.2.2.2.2.2.2.1 t4.2.2.2.2.2.2.2.2.2 t4.1 t4.2.1 t4.2.2.1 t4.2.2.2.1 t4.2.2.2.2.1)))) H := jP
          have jD : va_D A (lW uL uE uD uT uV uS uP L_x6 L_x7 ++ (tW cI uT aT v6.2.2.2.1 v6.2.2.2.2.1 v6.2.2.2.2.2.1 v6.2.2.2.2.2.2.1 v6.2.2.2.2.2.2.2.1 v6.2.2.2.2.2.2.2.2 v6.2.2.1 ++ (sW cI uS aS S_x5 S_x6 S_x7 S_x8 S_x9 S_r0 S_r1 S_r2 S_r3 S_r4 ++ (sW cI uP aP t4.2.2.2.2.2.1 t4.2.2.2.2.2.2.1 v6.1 t4.2.2.2.2.2.2.2.2.1 t4.2.2.2.2.2.2.2.2.2 t4.1 t4.2.1 t4.2.2.1 t4.2.2.2.1 t4.2.2.2.2.1)))) := jD
          refine lv_iconst (v := (0 : Int32)) hx hb dX5_sharp_42 (by decide) ?_
          refine lv_istore_n (lv' := [(3, .int (0 : Int32)), (0, .ref uL), (1, .int t1), (2, .int v6.1)]) hx hb dX5_sharp_43 rfl jl (by decide) rfl (fun ls jl => ?_)
          obtain ⟨T8, hT8, hz8⟩ := bd_some hv6
          clear hv6
          have hE8 : ∀ (e8 : ((Nat → Int32) × Int32 × Int32 × Int32 × Int32 × Int32 × Int32)), T8 = .inr e8 → ∀ (H : Heap) (locs : List Loc) (ls : Array Slot), va_P D vwCl (lW uL uE uD uT uV uS uP L_x6 L_x7 ++ (tW cI uT aT e8.2.1 e8.2.2.1 e8.2.2.2.1 e8.2.2.2.2.1 e8.2.2.2.2.2.1 e8.2.2.2.2.2.2 e8.1 ++ (sW cI uS aS S_x5 S_x6 S_x7 S_x8 S_x9 S_r0 S_r1 S_r2 S_r3 S_r4 ++ (sW cI uP aP t4.2.2.2.2.2.1 t4.2.2.2.2.2.2.1 v6.1 t4.2.2.2.2.2.2.2.2.1 t4.2.2.2.2.2.2.2.2.2 t4.1 t4.2.1 t4.2.2.1 t4.2.2.2.1 t4.2.2.2.2.1)))) H → va_D A (lW uL uE uD uT uV uS uP L_x6 L_x7 ++ (tW cI uT aT e8.2.1 e8.2.2.1 e8.2.2.2.1 e8.2.2.2.2.1 e8.2.2.2.2.2.1 e8.2.2.2.2.2.2 e8.1 ++ (sW cI uS aS S_x5 S_x6 S_x7 S_x8 S_x9 S_r0 S_r1 S_r2 S_r3 S_r4 ++ (sW cI uP aP t4.2.2.2.2.2.1 t4.2.2.2.2.2.2.1 v6.1 t4.2.2.2.2.2.2.2.2.1 t4.2.2.2.2.2.2.2.2.2 t4.1 t4.2.1 t4.2.2.1 t4.2.2.2.1 t4.2.2.2.2.1)))) → va_S A s.heap H locs → lv_has ls 4 [(0, .ref uL), (1, .int t1), (2, .int v6.1)] → W p l e R s m ar below meth c H locs 0 0 QQ (F0 m 94 ls []) := by
            intro e8 ho
            subst ho
            have hz8 := sm_r hz8
            clear jP jD jS jl
            intro H locs ls jP jD jS jl
            refine lv_iinc (v := (v6.1 + (1 : Int32))) (lv' := [(2, .int (v6.1 + (1 : Int32))), (0, .ref uL), (1, .int t1)]) hx hb dX5_sharp_94 jl (k := 2) rfl rfl (by decide) rfl (fun ls jl => ?_)
            refine lv_goto (tgt := 28) hx hb dX5_sharp_97 (by decide) ?_
            obtain rfl := Option.some.inj hz8
            exact ih _ (nxt_l hq6) _ _ _ jP jD jS (lv_sub jl [1, 2, 0] rfl)
          have hL8 : ∀ (n : Nat) (v8 : (Int32 × (Nat → Int32) × Int32 × Int32 × Int32 × Int32 × Int32 × Int32)), loopF (fX5_sharp_b44 t1 v6.1 t4.1 t4.2.1 t4.2.2.1 t4.2.2.2.1 t4.2.2.2.2.1 t4.2.2.2.2.2.1 t4.2.2.2.2.2.2.1 v6.1 t4.2.2.2.2.2.2.2.2.1 t4.2.2.2.2.2.2.2.2.2) n v8 = some T8 → ∀ (H : Heap) (locs : List Loc) (ls : Array Slot), va_P D vwCl (lW uL uE uD uT uV uS uP L_x6 L_x7 ++ (tW cI uT aT v8.2.2.1 v8.2.2.2.1 v8.2.2.2.2.1 v8.2.2.2.2.2.1 v8.2.2.2.2.2.2.1 v8.2.2.2.2.2.2.2 v8.2.1 ++ (sW cI uS aS S_x5 S_x6 S_x7 S_x8 S_x9 S_r0 S_r1 S_r2 S_r3 S_r4 ++ (sW cI uP aP t4.2.2.2.2.2.1 t4.2.2.2.2.2.2.1 v6.1 t4.2.2.2.2.2.2.2.2.1 t4.2.2.2.2.2.2.2.2.2 t4.1 t4.2.1 t4.2.2.1 t4.2.2.2.1 t4.2.2.2.2.1)))) H → va_D A (lW uL uE uD uT uV uS uP L_x6 L_x7 ++ (tW cI uT aT v8.2.2.1 v8.2.2.2.1 v8.2.2.2.2.1 v8.2.2.2.2.2.1 v8.2.2.2.2.2.2.1 v8.2.2.2.2.2.2.2 v8.2.1 ++ (sW cI uS aS S_x5 S_x6 S_x7 S_x8 S_x9 S_r0 S_r1 S_r2 S_r3 S_r4 ++ (sW cI uP aP t4.2.2.2.2.2.1 t4.2.2.2.2.2.2.1 v6.1 t4.2.2.2.2.2.2.2.2.1 t4.2.2.2.2.2.2.2.2.2 t4.1 t4.2.1 t4.2.2.1 t4.2.2.2.1 t4.2.2.2.2.1)))) → va_S A s.heap H locs → lv_has ls 4 [(0, .ref uL), (1, .int t1), (2, .int v6.1), (3, .int v8.1)] → W p l e R s m ar below meth c H locs 0 0 QQ (F0 m 44 ls []) := by
            clear jP jD jS jl hT8
            intro n
            induction n with
            | zero => intro v8 hq; exact (loop_none hq).elim
            | succ n ih =>
              intro v8 hq H locs ls jP jD jS jl
              obtain ⟨o8, hv8, hq8⟩ := loop_some hq
              clear hq
              unfold fX5_sharp_b44 at hv8
              refine lv_iload_n hx hb dX5_sharp_44 rfl (lv_at jl 3 rfl) ?_
              refine lv_bipush (v := (100 : Int32)) hx hb dX5_sharp_45 (by decide) ?_
              refine lv_icmp_ge (tgt := 94) hx hb dX5_sharp_47 (by decide) (fun c9 => ?_) (fun c9 => ?_)
              · have hv8 := itp c9 hv8
                obtain rfl := Option.some.inj hv8
                obtain rfl := nxt_r hq8
                exact hE8 _ rfl _ _ _ jP jD jS (lv_sub jl [0, 1, 2] rfl)
              · have hv8 := itn c9 hv8
                refine lv_aload_n hx hb dX5_sharp_50 rfl (lv_at jl 0 rfl) ?_
                refine va_get (D := D) (ci := 5) (v := .ref uT) (C := RX5) (T := TX5) (N := 8) hx hb hts in5 hown jK.1 jP 0 rfl rfl 2 (by decide) (hts _ w_24) (fun _ h9 => h9) rfl dX5_sharp_51 ?_
                refine lv_aload_n hx hb dX5_sharp_54 rfl (lv_at jl 0 rfl) ?_
                refine va_get (D := D) (ci := 5) (v := .ref uP) (C := RX5) (T := TX5) (N := 8) hx hb hts in5 hown jK.1 jP 0 rfl rfl 5 (by decide) (hts _ w_33) (fun _ h9 => h9) rfl dX5_sharp_55 ?_
                refine lv_iconst (v := (2 : Int32)) hx hb dX5_sharp_58 (by decide) ?_
                refine lv_iconst (v := (0 : Int32)) hx hb dX5_sharp_59 (by decide) ?_
                refine lv_iload_n hx hb dX5_sharp_60 rfl (lv_at jl 3 rfl) ?_
                obtain ⟨t10, hc11, hv8⟩ := bd_some hv8
                refine callP (wc := (tW cI uT aT v8.2.2.1 v8.2.2.2.1 v8.2.2.2.2.1 v8.2.2.2.2.2.1 v8.2.2.2.2.2.2.1 v8.2.2.2.2.2.2.2 v8.2.1 ++ (sW cI uP aP t4.2.2.2.2.2.1 t4.2.2.2.2.2.2.1 v6.1 t4.2.2.2.2.2.2.2.2.1 t4.2.2.2.2.2.2.2.2.2 t4.1 t4.2.1 t4.2.2.1 t4.2.2.2.1 t4.2.2.2.2.1))) (wr := (lW uL uE uD uT uV uS uP L_x6 L_x7 ++ (sW cI uS aS S_x5 S_x6 S_x7 S_x8 S_x9 S_r0 S_r1 S_r2 S_r3 S_r4))) (w1 := (tW cI uT aT t10.2.1 t10.2.2.1 t10.2.2.2.1 t10.2.2.2.2.1 t10.2.2.2.2.2.1 t10.2.2.2.2.2.2 t10.1 ++ (sW cI uP aP t4.2.2.2.2.2.1 t4.2.2.2.2.2.2.1 v6.1 t4.2.2.2.2.2.2.2.2.1 t4.2.2.2.2.2.2.2.2.2 t4.1 t4.2.1 t4.2.2.1 t4.2.2.2.1 t4.2.2.2.2.1))) (ws1 := (lW uL uE uD uT uV uS uP L_x6 L_x7 ++ (tW cI uT aT t10.2.1 t10.2.2.1 t10.2.2.2.1 t10.2.2.2.2.1 t10.2.2.2.2.2.1 t10.2.2.2.2.2.2 t10.1 ++ (sW cI uS aS S_x5 S_x6 S_x7 S_x8 S_x9 S_r0 S_r1 S_r2 S_r3 S_r4 ++ (sW cI uP aP t4.2.2.2.2.2.1 t4.2.2.2.2.2.2.1 v6.1 t4.2.2.2.2.2.2.2.2.1 t4.2.2.2.2.2.2.2.2.2 t4.1 t4.2.1 t4.2.2.1 t4.2.2.2.1 t4.2.2.2.2.1))))) (As := [.ref uP, .int (2 : Int32), .int (0 : Int32), .int v8.1]) (rest := []) (st1 := []) 0 [1, 2, 9, 10, 11, 12, 13, 14] [0, 3, 4, 5, 6, 7, 8] [0, 7, 8, 1, 2, 3, 4, 5, 6, 9, 10, 11, 12, 13, 14] F (kX4_make l D cI cB cS uT aT v8.2.2.1 v8.2.2.2.1 v8.2.2.2.2.1 v8.2.2.2.2.2.1 v8.2.2.2.2.2.2.1 v8.2.2.2.2.2.2.2 v8.2.1 uP aP t4.2.2.2.2.2.1 t4.2.2.2.2.2.2.1 v6.1 t4.2.2.2.2.2.2.2.2.1 t4.2.2.2.2.2.2.2.2.2 t4.1 t4.2.1 t4.2.2.1 t4.2.2.2.1 t4.2.2.2.2.1 (2 : Int32) (0 : Int32) v8.1 _ hc11 ) okX4_make w_367 (by decide) (by decide) ⟨Nat.zero_le _, Nat.zero_le _⟩ rfl rfl rfl jP jD jS rfl jl.1 rfl rfl (Nat.le_of_ble_eq_true rfl) dX5_sharp_61 rfl rfl (by decide) (by decide) (by decide) rfl (by decide) (fun H locs jP jD jS => ?_)
                refine lv_aload_n hx hb dX5_sharp_64 rfl (lv_at jl 0 rfl) ?_
                refine va_get (D := D) (ci := 5) (v := .ref uT) (C := RX5) (T := TX5) (N := 8) hx hb hts in5 hown jK.1 jP 0 rfl rfl 2 (by decide) (hts _ w_24) (fun _ h9 => h9) rfl dX5_sharp_65 ?_
                refine lv_iload_n hx hb dX5_sharp_68 rfl (lv_at jl 1 rfl) ?_
                obtain ⟨t12, hc13, hv8⟩ := bd_some hv8
                refine callP (wc := (tW cI uT aT t10.2.1 t10.2.2.1 t10.2.2.2.1 t10.2.2.2.2.1 t10.2.2.2.2.2.1 t10.2.2.2.2.2.2 t10.1)) (wr := (lW uL uE uD uT uV uS uP L_x6 L_x7 ++ (sW cI uS aS S_x5 S_x6 S_x7 S_x8 S_x9 S_r0 S_r1 S_r2 S_r3 S_r4 ++ (sW cI uP aP t4.2.2.2.2.2.1 t4.2.2.2.2.2.2.1 v6.1 t4.2.2.2.2.2.2.2.2.1 t4.2.2.2.2.2.2.2.2.2 t4.1 t4.2.1 t4.2.2.1 t4.2.2.2.1 t4.2.2.2.2.1)))) (w1 := (tW cI uT aT t10.2.1 t10.2.2.1 t10.2.2.2.1 t10.2.2.2.2.1 t10.2.2.2.2.2.1 t10.2.2.2.2.2.2 t10.1)) (ws1 := (lW uL uE uD uT uV uS uP L_x6 L_x7 ++ (tW cI uT aT t10.2.1 t10.2.2.1 t10.2.2.2.1 t10.2.2.2.2.1 t10.2.2.2.2.2.1 t10.2.2.2.2.2.2 t10.1 ++ (sW cI uS aS S_x5 S_x6 S_x7 S_x8 S_x9 S_r0 S_r1 S_r2 S_r3 S_r4 ++ (sW cI uP aP t4.2.2.2.2.2.1 t4.2.2.2.2.2.2.1 v6.1 t4.2.2.2.2.2.2.2.2.1 t4.2.2.2.2.2.2.2.2.2 t4.1 t4.2.1 t4.2.2.1 t4.2.2.2.1 t4.2.2.2.2.1))))) (As := [.int t1]) (rest := []) (st1 := [.int t12]) 0 [1, 2] [0, 3, 4, 5, 6, 7, 8, 9, 10, 11, 12, 13, 14] [0, 13, 14, 1, 2, 3, 4, 5, 6, 7, 8, 9, 10, 11, 12] F (kX4_bringsAll l D cI cB cS uT aT t10.2.1 t10.2.2.1 t10.2.2.2.1 t10.2.2.2.2.1 t10.2.2.2.2.2.1 t10.2.2.2.2.2.2 t10.1 t1 _ hc13 ) okX4_bringsAll w_611 (by decide) (by decide) ⟨Nat.zero_le _, Nat.zero_le _⟩ rfl rfl rfl jP jD jS rfl jl.1 rfl rfl (Nat.le_of_ble_eq_true rfl) dX5_sharp_69 rfl rfl (by decide) (by decide) (by decide) rfl (by decide) (fun H locs jP jD jS => ?_)
                refine lv_if_eq (tgt := 88) hx hb dX5_sharp_72 (by decide) (fun c14 => ?_) (fun c14 => ?_)
                · have hv8 := itp c14 hv8
                  refine lv_iinc (v := (v8.1 + (1 : Int32))) (lv' := [(3, .int (v8.1 + (1 : Int32))), (0, .ref uL), (1, .int t1), (2, .int v6.1)]) hx hb dX5_sharp_88 jl (k := 3) rfl rfl (by decide) rfl (fun ls jl => ?_)
                  refine lv_goto (tgt := 44) hx hb dX5_sharp_91 (by decide) ?_
                  obtain rfl := Option.some.inj hv8
                  exact ih _ (nxt_l hq8) _ _ _ jP jD jS (lv_sub jl [1, 2, 3, 0] rfl)
                · have hv8 := itn c14 hv8
                  refine lv_aload_n hx hb dX5_sharp_75 rfl (lv_at jl 0 rfl) ?_
                  refine va_get (D := D) (ci := 5) (v := .ref uT) (C := RX5) (T := TX5) (N := 8) hx hb hts in5 hown jK.1 jP 0 rfl rfl 2 (by decide) (hts _ w_24) (fun _ h9 => h9) rfl dX5_sharp_76 ?_
                  refine lv_iload_n hx hb dX5_sharp_79 rfl (lv_at jl 3 rfl) ?_
                  obtain ⟨t15, hc16, hv8⟩ := bd_some hv8
                  refine callP (wc := (tW cI uT aT t10.2.1 t10.2.2.1 t10.2.2.2.1 t10.2.2.2.2.1 t10.2.2.2.2.2.1 t10.2.2.2.2.2.2 t10.1)) (wr := (lW uL uE uD uT uV uS uP L_x6 L_x7 ++ (sW cI uS aS S_x5 S_x6 S_x7 S_x8 S_x9 S_r0 S_r1 S_r2 S_r3 S_r4 ++ (sW cI uP aP t4.2.2.2.2.2.1 t4.2.2.2.2.2.2.1 v6.1 t4.2.2.2.2.2.2.2.2.1 t4.2.2.2.2.2.2.2.2.2 t4.1 t4.2.1 t4.2.2.1 t4.2.2.2.1 t4.2.2.2.2.1)))) (w1 := (tW cI uT aT t10.2.1 t10.2.2.1 t10.2.2.2.1 t10.2.2.2.2.1 t10.2.2.2.2.2.1 t10.2.2.2.2.2.2 t10.1)) (ws1 := (lW uL uE uD uT uV uS uP L_x6 L_x7 ++ (tW cI uT aT t10.2.1 t10.2.2.1 t10.2.2.2.1 t10.2.2.2.2.1 t10.2.2.2.2.2.1 t10.2.2.2.2.2.2 t10.1 ++ (sW cI uS aS S_x5 S_x6 S_x7 S_x8 S_x9 S_r0 S_r1 S_r2 S_r3 S_r4 ++ (sW cI uP aP t4.2.2.2.2.2.1 t4.2.2.2.2.2.2.1 v6.1 t4.2.2.2.2.2.2.2.2.1 t4.2.2.2.2.2.2.2.2.2 t4.1 t4.2.1 t4.2.2.1 t4.2.2.2.1 t4.2.2.2.2.1))))) (As := [.int v8.1]) (rest := []) (st1 := [.int t15]) 0 [1, 2] [0, 3, 4, 5, 6, 7, 8, 9, 10, 11, 12, 13, 14] [0, 13, 14, 1, 2, 3, 4, 5, 6, 7, 8, 9, 10, 11, 12] F (kX4_holdsAt l D cI cB cS uT aT t10.2.1 t10.2.2.1 t10.2.2.2.1 t10.2.2.2.2.1 t10.2.2.2.2.2.1 t10.2.2.2.2.2.2 t10.1 v8.1 _ hc16 ) okX4_holdsAt w_487 (by decide) (by decide) ⟨Nat.zero_le _, Nat.zero_le _⟩ rfl rfl rfl jP jD jS rfl jl.1 rfl rfl (Nat.le_of_ble_eq_true rfl) dX5_sharp_80 rfl rfl (by decide) (by decide) (by decide) rfl (by decide) (fun H locs jP jD jS => ?_)
                  refine lv_if_eq (tgt := 88) hx hb dX5_sharp_83 (by decide) (fun c17 => ?_) (fun c17 => ?_)
                  · have hv8 := itp c17 hv8
                    refine lv_iinc (v := (v8.1 + (1 : Int32))) (lv' := [(3, .int (v8.1 + (1 : Int32))), (0, .ref uL), (1, .int t1), (2, .int v6.1)]) hx hb dX5_sharp_88 jl (k := 3) rfl rfl (by decide) rfl (fun ls jl => ?_)
                    refine lv_goto (tgt := 44) hx hb dX5_sharp_91 (by decide) ?_
                    obtain rfl := Option.some.inj hv8
                    exact ih _ (nxt_l hq8) _ _ _ jP jD jS (lv_sub jl [1, 2, 3, 0] rfl)
                  · have hv8 := itn c17 hv8
                    refine lv_iload_n hx hb dX5_sharp_86 rfl (lv_at jl 2 rfl) ?_
                    obtain rfl := Option.some.inj hv8
                    obtain rfl := nxt_r hq8
                    have hz8 := sm_l hz8
                    obtain rfl := Option.some.inj hz8
                    obtain rfl := nxt_r hq6
                    have hz6 := sm_l hz6
                    obtain rfl := Option.some.inj hz6
                    exact hRet _ _ _ _ jP jD jS dX5_sharp_87
          exact hL8 1000 _ hT8 _ _ _ jP jD jS (lv_sub jl [1, 2, 3, 0] rfl)
    exact hL6 1000 _ hT6 _ _ _ jP jD jS (lv_sub jl [2, 1, 0] rfl)
  · have h := itp c3 h
    refine lv_bipush (v := (-4 : Int32)) hx hb dX5_sharp_12 (by decide) ?_
    obtain rfl := Option.some.inj h
    exact hRet _ _ _ _ jP jD jS dX5_sharp_14
theorem okX5_edge : okV yX5_edge cX5_edge 4 (some .int) 1 := ⟨w_645, w_646, w_647, w_2, by decide, by decide, by decide +kernel⟩
def fX5_edge_b48 (l1 : Int32) (P_r0 : (Nat → Int32)) (P_r1 : (Nat → Int32)) (P_r2 : (Nat → Int32)) (P_r3 : (Nat → Int32)) (P_r4 : (Nat → Int32)) (P_x5 : Int32) (P_x6 : Int32) (P_x7 : Int32) (P_x8 : Int32) (v1 : (Int32 × Int32 × (Nat → Int32) × Int32 × Int32 × Int32 × Int32 × Int32 × Int32)) : Option ((Int32 × Int32 × (Nat → Int32) × Int32 × Int32 × Int32 × Int32 × Int32 × Int32) ⊕ (Int32 × (Nat → Int32) × Int32 × Int32 × Int32 × Int32 × Int32 × Int32)) :=
  if (100 : Int32) ≤ v1.2.1 then (some (.inr (v1.1, v1.2.2.1, v1.2.2.2.1, v1.2.2.2.2.1, v1.2.2.2.2.2.1, v1.2.2.2.2.2.2.1, v1.2.2.2.2.2.2.2.1, v1.2.2.2.2.2.2.2.2))) else (bd (fX4_make (P_r0) (P_r1) (P_r2) (P_r3) (P_r4) (P_x5) (P_x6) (P_x7) (P_x8) v1.2.2.1 (0 : Int32) (0 : Int32) v1.2.1) (fun t1 => bd (fX4_lackAt t1.2.2.2.1 t1.2.2.2.2.1 v1.2.1) (fun t2 => ckI l1 8 (bd (fX5_fewestSteps t2 ((10 : Int32) * (t1.1 (l1).toNatClampNeg))) (fun t3 => some (.inl ((if t3 < v1.1 then t3 else v1.1), (v1.2.1 + (1 : Int32)), t1.1, t1.2.1, t1.2.2.1, t1.2.2.2.1, t1.2.2.2.2.1, t1.2.2.2.2.2.1, t1.2.2.2.2.2.2)))))))
def fX5_edge (P_r0 : (Nat → Int32)) (P_r1 : (Nat → Int32)) (P_r2 : (Nat → Int32)) (P_r3 : (Nat → Int32)) (P_r4 : (Nat → Int32)) (P_x5 : Int32) (P_x6 : Int32) (P_x7 : Int32) (P_x8 : Int32) (P_x9 : Int32) (S_r0 : (Nat → Int32)) (S_r1 : (Nat → Int32)) (S_r2 : (Nat → Int32)) (S_r3 : (Nat → Int32)) (S_r4 : (Nat → Int32)) (S_x5 : Int32) (S_x6 : Int32) (S_x7 : Int32) (S_x8 : Int32) (S_x9 : Int32) (T_r0 : (Nat → Int32)) (T_x1 : Int32) (T_x2 : Int32) (T_x3 : Int32) (T_x4 : Int32) (T_x5 : Int32) (T_x6 : Int32) (a1 : Int32) : Option (Int32 × (Nat → Int32) × (Nat → Int32) × (Nat → Int32) × (Nat → Int32) × (Nat → Int32) × Int32 × Int32 × Int32 × Int32 × Int32 × (Nat → Int32) × Int32 × Int32 × Int32 × Int32 × Int32 × Int32) :=
  bd (fX5_isSort (S_x5) a1) (fun t1 => if t1 = (0 : Int32) then (some ((-1 : Int32), P_r0, P_r1, P_r2, P_r3, P_r4, P_x5, P_x6, P_x7, P_x8, P_x9, T_r0, T_x1, T_x2, T_x3, T_x4, T_x5, T_x6)) else (bd (fX2_copy (S_r0) (S_r1) (S_r2) (S_r3) (S_r4) (S_x5) (S_x6) (S_x7) (S_x8) (S_x9) (P_r0) (P_r1) (P_r2) (P_r3) (P_r4)) (fun t4 => ckI a1 8 (ckI a1 8 (bd (loopF (fX5_edge_b48 a1 t4.1 t4.2.1 (upd t4.2.2.1 a1.toNatClampNeg (0 : Int32)) t4.2.2.2.1 t4.2.2.2.2.1 t4.2.2.2.2.2.1 t4.2.2.2.2.2.2.1 t4.2.2.2.2.2.2.2.1 t4.2.2.2.2.2.2.2.2.1) 1000 ((1000000 : Int32), (if (1 : Int32) < (S_r1 a1.toNatClampNeg) then (S_r1 a1.toNatClampNeg) else (1 : Int32)), T_r0, T_x1, T_x2, T_x3, T_x4, T_x5, T_x6)) (fun T6 => if T6.1 ≤ (99 : Int32) then (some (T6.1, t4.1, t4.2.1, (upd t4.2.2.1 a1.toNatClampNeg (0 : Int32)), t4.2.2.2.1, t4.2.2.2.2.1, t4.2.2.2.2.2.1, t4.2.2.2.2.2.2.1, t4.2.2.2.2.2.2.2.1, t4.2.2.2.2.2.2.2.2.1, t4.2.2.2.2.2.2.2.2.2, T6.2.1, T6.2.2.1, T6.2.2.2.1, T6.2.2.2.2.1, T6.2.2.2.2.2.1, T6.2.2.2.2.2.2.1, T6.2.2.2.2.2.2.2)) else (some ((-4 : Int32), t4.1, t4.2.1, (upd t4.2.2.1 a1.toNatClampNeg (0 : Int32)), t4.2.2.2.1, t4.2.2.2.2.1, t4.2.2.2.2.2.1, t4.2.2.2.2.2.2.1, t4.2.2.2.2.2.2.2.1, t4.2.2.2.2.2.2.2.2.1, t4.2.2.2.2.2.2.2.2.2, T6.2.1, T6.2.2.1, T6.2.2.2.1, T6.2.2.2.2.1, T6.2.2.2.2.2.1, T6.2.2.2.2.2.2.1, T6.2.2.2.2.2.2.2))))))))
set_option maxRecDepth 100000 in
set_option maxHeartbeats 4000000 in
theorem kX5_edge (l : Launch) (D : va_G) (cI cB cS : ClassId) (uL : Nat) (L_x6 : Int32) (L_x7 : Int32) (uT : Nat) (aT : Nat → Nat) (T_x1 : Int32) (T_x2 : Int32) (T_x3 : Int32) (T_x4 : Int32) (T_x5 : Int32) (T_x6 : Int32) (T_r0 : (Nat → Int32)) (uS : Nat) (aS : Nat → Nat) (S_x5 : Int32) (S_x6 : Int32) (S_x7 : Int32) (S_x8 : Int32) (S_x9 : Int32) (S_r0 : (Nat → Int32)) (S_r1 : (Nat → Int32)) (S_r2 : (Nat → Int32)) (S_r3 : (Nat → Int32)) (S_r4 : (Nat → Int32)) (uP : Nat) (aP : Nat → Nat) (P_x5 : Int32) (P_x6 : Int32) (P_x7 : Int32) (P_x8 : Int32) (P_x9 : Int32) (P_r0 : (Nat → Int32)) (P_r1 : (Nat → Int32)) (P_r2 : (Nat → Int32)) (P_r3 : (Nat → Int32)) (P_r4 : (Nat → Int32)) (uE : Nat) (uD : Nat) (uV : Nat) (a1 : Int32) (z : (Int32 × (Nat → Int32) × (Nat → Int32) × (Nat → Int32) × (Nat → Int32) × (Nat → Int32) × Int32 × Int32 × Int32 × Int32 × Int32 × (Nat → Int32) × Int32 × Int32 × Int32 × Int32 × Int32 × Int32)) (h : fX5_edge P_r0 P_r1 P_r2 P_r3 P_r4 P_x5 P_x6 P_x7 P_x8 P_x9 S_r0 S_r1 S_r2 S_r3 S_r4 S_x5 S_x6 S_x7 S_x8 S_x9 T_r0 T_x1 T_x2 T_x3 T_x4 T_x5 T_x6 a1 = some z) : Mt l yX5_edge cX5_edge 4 (some .int) 3 94 D cI cB cS (lW uL uE uD uT uV uS uP L_x6 L_x7 ++ (tW cI uT aT T_x1 T_x2 T_x3 T_x4 T_x5 T_x6 T_r0 ++ (sW cI uS aS S_x5 S_x6 S_x7 S_x8 S_x9 S_r0 S_r1 S_r2 S_r3 S_r4 ++ (sW cI uP aP P_x5 P_x6 P_x7 P_x8 P_x9 P_r0 P_r1 P_r2 P_r3 P_r4)))) (lW uL uE uD uT uV uS uP L_x6 L_x7 ++ (tW cI uT aT z.2.2.2.2.2.2.2.2.2.2.2.2.1 z.2.2.2.2.2.2.2.2.2.2.2.2.2.1 z.2.2.2.2.2.2.2.2.2.2.2.2.2.2.1 z.2.2.2.2.2.2.2.2.2.2.2.2.2.2.2.1 z.2.2.2.2.2.2.2.2.2.2.2.2.2.2.2.2.1 z.2.2.2.2.2.2.2.2.2.2.2.2.2.2.2.2.2 z.2.2.2.2.2.2.2.2.2.2.2.1 ++ (sW cI uS aS S_x5 S_x6 S_x7 S_x8 S_x9 S_r0 S_r1 S_r2 S_r3 S_r4 ++ (sW cI uP aP z.2.2.2.2.2.2.1 z.2.2.2.2.2.2.2.1 z.2.2.2.2.2.2.2.2.1 z.2.2.2.2.2.2.2.2.2.1 z.2.2.2.2.2.2.2.2.2.2.1 z.2.1 z.2.2.1 z.2.2.2.1 z.2.2.2.2.1 z.2.2.2.2.2.1)))) [.ref uL, .int a1] (some (.int z.1)) := by
  refine entryI (by decide +kernel) rfl (Nat.le_of_ble_eq_true rfl) ?_
  intro p e s m below meth c A ls QQ R ar F hRet jP jD jS jl
  obtain ⟨hx, hb, hml, hown, hts, jK, hA, hf1, hf2⟩ := id F
  have jl : lv_has ls 4 [(0, .ref uL), (1, .int a1)] := jl
  unfold fX5_edge at h
  refine lv_aload_n hx hb dX5_edge_0 rfl (lv_at jl 0 rfl) ?_
  refine lv_iload_n hx hb dX5_edge_1 rfl (lv_at jl 1 rfl) ?_
  obtain ⟨t1, hc2, h⟩ := bd_some h
  refine callP (wc := (lW uL uE uD uT uV uS uP L_x6 L_x7 ++ (sW cI uS aS S_x5 S_x6 S_x7 S_x8 S_x9 S_r0 S_r1 S_r2 S_r3 S_r4))) (wr := (tW cI uT aT T_x1 T_x2 T_x3 T_x4 T_x5 T_x6 T_r0 ++ (sW cI uP aP P_x5 P_x6 P_x7 P_x8 P_x9 P_r0 P_r1 P_r2 P_r3 P_r4))) (w1 := (lW uL uE uD uT uV uS uP L_x6 L_x7 ++ (sW cI uS aS S_x5 S_x6 S_x7 S_x8 S_x9 S_r0 S_r1 S_r2 S_r3 S_r4))) (ws1 := (lW uL uE uD uT uV uS uP L_x6 L_x7 ++ (tW cI uT aT T_x1 T_x2 T_x3 T_x4 T_x5 T_x6 T_r0 ++ (sW cI uS aS S_x5 S_x6 S_x7 S_x8 S_x9 S_r0 S_r1 S_r2 S_r3 S_r4 ++ (sW cI uP aP P_x5 P_x6 P_x7 P_x8 P_x9 P_r0 P_r1 P_r2 P_r3 P_r4))))) (As := [.int a1]) (rest := []) (st1 := [.int t1]) 0 [0, 3, 4, 5, 6, 7, 8] [1, 2, 9, 10, 11, 12, 13, 14] [8, 0, 1, 9, 10, 11, 12, 13, 14, 2, 3, 4, 5, 6, 7] F (kX5_isSort l D cI cB cS uL L_x6 L_x7 uS aS S_x5 S_x6 S_x7 S_x8 S_x9 S_r0 S_r1 S_r2 S_r3 S_r4 uE uD uT uV uP a1 _ hc2 ) okX5_isSort w_295 (by decide) (by decide) ⟨Nat.zero_le _, Nat.zero_le _⟩ rfl rfl rfl jP jD jS rfl jl.1 rfl rfl (Nat.le_of_ble_eq_true rfl) dX5_edge_2 rfl rfl (by decide) (by decide) (by decide) rfl (by decide) (fun H locs jP jD jS => ?_)
  refine lv_if_ne (tgt := 10) hx hb dX5_edge_5 (by decide) (fun c3 => ?_) (fun c3 => ?_)
  · have h := itn c3 h
    refine lv_aload_n hx hb dX5_edge_10 rfl (lv_at jl 0 rfl) ?_
    refine va_get (D := D) (ci := 5) (v := .ref uP) (C := RX5) (T := TX5) (N := 8) hx hb hts in5 hown jK.1 jP 0 rfl rfl 5 (by decide) (hts _ w_33) (fun _ h9 => h9) rfl dX5_edge_11 ?_
    refine lv_aload_n hx hb dX5_edge_14 rfl (lv_at jl 0 rfl) ?_
    refine va_get (D := D) (ci := 5) (v := .ref uS) (C := RX5) (T := TX5) (N := 8) hx hb hts in5 hown jK.1 jP 0 rfl rfl 4 (by decide) (hts _ w_32) (fun _ h9 => h9) rfl dX5_edge_15 ?_
    obtain ⟨t4, hc5, h⟩ := bd_some h
    refine callP (wc := (sW cI uP aP P_x5 P_x6 P_x7 P_x8 P_x9 P_r0 P_r1 P_r2 P_r3 P_r4 ++ (sW cI uS aS S_x5 S_x6 S_x7 S_x8 S_x9 S_r0 S_r1 S_r2 S_r3 S_r4))) (wr := (lW uL uE uD uT uV uS uP L_x6 L_x7 ++ (tW cI uT aT T_x1 T_x2 T_x3 T_x4 T_x5 T_x6 T_r0))) (w1 := (sW cI uP aP t4.2.2.2.2.2.1 t4.2.2.2.2.2.2.1 t4.2.2.2.2.2.2.2.1 t4.2.2.2.2.2.2.2.2.1 t4.2.2.2.2.2.2.2.2.2 t4.1 t4.2.1 t4.2.2.1 t4.2.2.2.1 t4.2.2.2.2.1 ++ (sW cI uS aS S_x5 S_x6 S_x7 S_x8 S_x9 S_r0 S_r1 S_r2 S_r3 S_r4))) (ws1 := (lW uL uE uD uT uV uS uP L_x6 L_x7 ++ (tW cI uT aT T_x1 T_x2 T_x3 T_x4 T_x5 T_x6 T_r0 ++ (sW cI uS aS S_x5 S_x6 S_x7 S_x8 S_x9 S_r0 S_r1 S_r2 S_r3 S_r4 ++ (sW cI uP aP t4.2.2.2.2.2.1 t4.2.2.2.2.2.2.1 t4.2.2.2.2.2.2.2.1 t4.2.2.2.2.2.2.2.2.1 t4.2.2.2.2.2.2.2.2.2 t4.1 t4.2.1 t4.2.2.1 t4.2.2.2.1 t4.2.2.2.2.1))))) (As := [.ref uS]) (rest := []) (st1 := []) 0 [9, 10, 11, 12, 13, 14, 3, 4, 5, 6, 7, 8] [0, 1, 2] [0, 1, 2, 9, 10, 11, 12, 13, 14, 3, 4, 5, 6, 7, 8] F (kX2_copy l D cI cB cS uP aP P_x5 P_x6 P_x7 P_x8 P_x9 P_r0 P_r1 P_r2 P_r3 P_r4 uS aS S_x5 S_x6 S_x7 S_x8 S_x9 S_r0 S_r1 S_r2 S_r3 S_r4  _ hc5 ) okX2_copy w_602 (by decide) (by decide) ⟨Nat.zero_le _, Nat.zero_le _⟩ rfl rfl rfl jP jD jS rfl jl.1 rfl rfl (Nat.le_of_ble_eq_true rfl) dX5_edge_18 rfl rfl (by decide) (by decide) (by decide) rfl (by decide) (fun H locs jP jD jS => ?_)
    refine lv_aload_n hx hb dX5_edge_21 rfl (lv_at jl 0 rfl) ?_
    refine va_get (D := D) (ci := 5) (v := .ref uP) (C := RX5) (T := TX5) (N := 8) hx hb hts in5 hown jK.1 jP 0 rfl rfl 5 (by decide) (hts _ w_33) (fun _ h9 => h9) rfl dX5_edge_22 ?_
    refine va_get (D := D) (ci := 2) (v := .ref (aP 2)) (C := RX2) (T := TX2) (N := 10) hx hb hts in2 hown jK.1 jP 9 rfl rfl 2 (by decide) (hts _ w_648) (fun _ h9 => h9) rfl dX5_edge_25 ?_
    refine lv_iload_n hx hb dX5_edge_28 rfl (lv_at jl 1 rfl) ?_
    refine lv_iconst (v := (0 : Int32)) hx hb dX5_edge_29 (by decide) ?_
    obtain ⟨hin, h⟩ := ckI_some h
    refine va_iast (f := t4.2.2.1) hx hb jK.1 jP jD jS 12 0 rfl rfl hin dX5_edge_30 (fun H locs jP jD jS => ?_)
    have jP : va_P D vwCl (lW uL uE uD uT uV uS uP L_x6 L_x7 ++ (tW cI uT aT T_x1 T_x2 T_x3 T_x4 T_x5 T_x6 T_r0 ++ (sW cI uS aS S_x5 S_x6 S_x7 S_x8 S_x9 S_r0 S_r1 S_r2 S_r3 S_r4 ++ (sW cI uP aP t4.2.2.2.2.2.1 t4.2.2.2.2.2.2.1 t4.2.2.2.2.2.2.2.1 t4.2.2.2.2.2.2.2.2.1 t4.2.2.2.2.2.2.2.2.2 t4.1 t4.2.1 (upd t4.2.2.1 a1.toNatClampNeg (0 : Int32)) t4.2.2.2.1 t4.2.2.2.2.1)))) H := jP
    have jD : va_D A (lW uL uE uD uT uV uS uP L_x6 L_x7 ++ (tW cI uT aT T_x1 T_x2 T_x3 T_x4 T_x5 T_x6 T_r0 ++ (sW cI uS aS S_x5 S_x6 S_x7 S_x8 S_x9 S_r0 S_r1 S_r2 S_r3 S_r4 ++ (sW cI uP aP t4.2.2.2.2.2.1 t4.2.2.2.2.2.2.1 t4.2.2.2.2.2.2.2.1 t4.2.2.2.2.2.2.2.2.1 t4.2.2.2.2.2.2.2.2.2 t4.1 t4.2.1 (upd t4.2.2.1 a1.toNatClampNeg (0 : Int32)) t4.2.2.2.1 t4.2.2.2.2.1)))) := jD
    refine lv_ldc (v := (1000000 : Int32)) hx hb hown (hts _ w_638) dX5_edge_31 ?_
    refine lv_istore_n (lv' := [(2, .int (1000000 : Int32)), (0, .ref uL), (1, .int a1)]) hx hb dX5_edge_33 rfl jl (by decide) rfl (fun ls jl => ?_)
    refine lv_iconst (v := (1 : Int32)) hx hb dX5_edge_34 (by decide) ?_
    refine lv_aload_n hx hb dX5_edge_35 rfl (lv_at jl 1 rfl) ?_
    refine va_get (D := D) (ci := 5) (v := .ref uS) (C := RX5) (T := TX5) (N := 8) hx hb hts in5 hown jK.1 jP 0 rfl rfl 4 (by decide) (hts _ w_32) (fun _ h9 => h9) rfl dX5_edge_36 ?_
    refine va_get (D := D) (ci := 2) (v := .ref (aS 1)) (C := RX2) (T := TX2) (N := 10) hx hb hts in2 hown jK.1 jP 3 rfl rfl 1 (by decide) (hts _ w_649) (fun _ h9 => h9) rfl dX5_edge_39 ?_
    refine lv_iload_n hx hb dX5_edge_42 rfl (lv_at jl 2 rfl) ?_
    obtain ⟨hin, h⟩ := ckI_some h
    refine va_iald (f := S_r1) hx hb jK.1 jP 5 0 rfl rfl hin dX5_edge_43 ?_
    refine va_mmax hx hb (hml.trans jl.1.symm) hown (hts _ w_473) (hts _ w_304) (hts _ w_305) (hts _ w_306) (Nat.le_trans (by decide) hf1) (Nat.le_trans (Nat.le_of_ble_eq_true rfl) hf2) (Nat.zero_le _) (Nat.zero_le _) dX5_edge_44 ?_
    refine lv_istore_n (lv' := [(3, .int (if (1 : Int32) < (S_r1 a1.toNatClampNeg) then (S_r1 a1.toNatClampNeg) else (1 : Int32))), (2, .int (1000000 : Int32)), (0, .ref uL), (1, .int a1)]) hx hb dX5_edge_47 rfl jl (by decide) rfl (fun ls jl => ?_)
    obtain ⟨T6, hT6, hz6⟩ := bd_some h
    clear h
    have hE6 : ∀ (H : Heap) (locs : List Loc) (ls : Array Slot), va_P D vwCl (lW uL uE uD uT uV uS uP L_x6 L_x7 ++ (tW cI uT aT T6.2.2.1 T6.2.2.2.1 T6.2.2.2.2.1 T6.2.2.2.2.2.1 T6.2.2.2.2.2.2.1 T6.2.2.2.2.2.2.2 T6.2.1 ++ (sW cI uS aS S_x5 S_x6 S_x7 S_x8 S_x9 S_r0 S_r1 S_r2 S_r3 S_r4 ++ (sW cI uP aP t4.2.2.2.2.2.1 t4.2.2.2.2.2.2.1 t4.2.2.2.2.2.2.2.1 t4.2.2.2.2.2.2.2.2.1 t4.2.2.2.2.2.2.2.2.2 t4.1 t4.2.1 (upd t4.2.2.1 a1.toNatClampNeg (0 : Int32)) t4.2.2.2.1 t4.2.2.2.2.1)))) H → va_D A (lW uL uE uD uT uV uS uP L_x6 L_x7 ++ (tW cI uT aT T6.2.2.1 T6.2.2.2.1 T6.2.2.2.2.1 T6.2.2.2.2.2.1 T6.2.2.2.2.2.2.1 T6.2.2.2.2.2.2.2 T6.2.1 ++ (sW cI uS aS S_x5 S_x6 S_x7 S_x8 S_x9 S_r0 S_r1 S_r2 S_r3 S_r4 ++ (sW cI uP aP t4.2.2.2.2.2.1 t4.2.2.2.2.2.2.1 t4.2.2.2.2.2.2.2.1 t4.2.2.2.2.2.2.2.2.1 t4.2.2.2.2.2.2.2.2.2 t4.1 t4.2.1 (upd t4.2.2.1 a1.toNatClampNeg (0 : Int32)) t4.2.2.2.1 t4.2.2.2.2.1)))) → va_S A s.heap H locs → lv_has ls 4 [(2, .int T6.1)] → W p l e R s m ar below meth c H locs 0 0 QQ (F0 m 102 ls []) := by
      clear jP jD jS jl
      intro H locs ls jP jD jS jl
      refine lv_iload_n hx hb dX5_edge_102 rfl (lv_at jl 0 rfl) ?_
      refine lv_bipush (v := (99 : Int32)) hx hb dX5_edge_103 (by decide) ?_
      refine lv_icmp_le (tgt := 113) hx hb dX5_edge_105 (by decide) (fun c14 => ?_) (fun c14 => ?_)
      · have hz6 := itp c14 hz6
        refine lv_iload_n hx hb dX5_edge_113 rfl (lv_at jl 0 rfl) ?_
        obtain rfl := Option.some.inj hz6
        exact hRet _ _ _ _ jP jD jS dX5_edge_114
      · have hz6 := itn c14 hz6
        refine lv_bipush (v := (-4 : Int32)) hx hb dX5_edge_108 (by decide) ?_
        refine lv_goto (tgt := 114) hx hb dX5_edge_110 (by decide) ?_
        obtain rfl := Option.some.inj hz6
        exact hRet _ _ _ _ jP jD jS dX5_edge_114
    have hL6 : ∀ (n : Nat) (v6 : (Int32 × Int32 × (Nat → Int32) × Int32 × Int32 × Int32 × Int32 × Int32 × Int32)), loopF (fX5_edge_b48 a1 t4.1 t4.2.1 (upd t4.2.2.1 a1.toNatClampNeg (0 : Int32)) t4.2.2.2.1 t4.2.2.2.2.1 t4.2.2.2.2.2.1 t4.2.2.2.2.2.2.1 t4.2.2.2.2.2.2.2.1 t4.2.2.2.2.2.2.2.2.1) n v6 = some T6 → ∀ (H : Heap) (locs : List Loc) (ls : Array Slot), va_P D vwCl (lW uL uE uD uT uV uS uP L_x6 L_x7 ++ (tW cI uT aT v6.2.2.2.1 v6.2.2.2.2.1 v6.2.2.2.2.2.1 v6.2.2.2.2.2.2.1 v6.2.2.2.2.2.2.2.1 v6.2.2.2.2.2.2.2.2 v6.2.2.1 ++ (sW cI uS aS S_x5 S_x6 S_x7 S_x8 S_x9 S_r0 S_r1 S_r2 S_r3 S_r4 ++ (sW cI uP aP t4.2.2.2.2.2.1 t4.2.2.2.2.2.2.1 t4.2.2.2.2.2.2.2.1 t4.2.2.2.2.2.2.2.2.1 t4.2.2.2.2.2.2.2.2.2 t4.1 t4.2.1 (upd t4.2.2.1 a1.toNatClampNeg (0 : Int32)) t4.2.2.2.1 t4.2.2.2.2.1)))) H → va_D A (lW uL uE uD uT uV uS uP L_x6 L_x7 ++ (tW cI uT aT v6.2.2.2.1 v6.2.2.2.2.1 v6.2.2.2.2.2.1 v6.2.2.2.2.2.2.1 v6.2.2.2.2.2.2.2.1 v6.2.2.2.2.2.2.2.2 v6.2.2.1 ++ (sW cI uS aS S_x5 S_x6 S_x7 S_x8 S_x9 S_r0 S_r1 S_r2 S_r3 S_r4 ++ (sW cI uP aP t4.2.2.2.2.2.1 t4.2.2.2.2.2.2.1 t4.2.2.2.2.2.2.2.1 t4.2.2.2.2.2.2.2.2.1 t4.2.2.2.2.2.2.2.2.2 t4.1 t4.2.1 (upd t4.2.2.1 a1.toNatClampNeg (0 : Int32)) t4.2.2.2.1 t4.2.2.2.2.1)))) → va_S A s.heap H locs → lv_has ls 4 [(0, .ref uL), (1, .int a1), (2, .int v6.1), (3, .int v6.2.1)] → W p l e R s m ar below meth c H locs 0 0 QQ (F0 m 48 ls []) := by
      clear jP jD jS jl hT6
      intro n
      induction n with
      | zero => intro v6 hq; exact (loop_none hq).elim
      | succ n ih =>
        intro v6 hq H locs ls jP jD jS jl
        obtain ⟨o6, hv6, hq6⟩ := loop_some hq
        clear hq
        unfold fX5_edge_b48 at hv6
        refine lv_iload_n hx hb dX5_edge_48 rfl (lv_at jl 3 rfl) ?_
        refine lv_bipush (v := (100 : Int32)) hx hb dX5_edge_49 (by decide) ?_
        refine lv_icmp_ge (tgt := 102) hx hb dX5_edge_51 (by decide) (fun c7 => ?_) (fun c7 => ?_)
        · have hv6 := itp c7 hv6
          obtain rfl := Option.some.inj hv6
          obtain rfl := nxt_r hq6
          exact hE6 _ _ _ jP jD jS (lv_sub jl [2] rfl)
        · have hv6 := itn c7 hv6
          refine lv_aload_n hx hb dX5_edge_54 rfl (lv_at jl 0 rfl) ?_
          refine va_get (D := D) (ci := 5) (v := .ref uT) (C := RX5) (T := TX5) (N := 8) hx hb hts in5 hown jK.1 jP 0 rfl rfl 2 (by decide) (hts _ w_24) (fun _ h9 => h9) rfl dX5_edge_55 ?_
          refine lv_aload_n hx hb dX5_edge_58 rfl (lv_at jl 0 rfl) ?_
          refine va_get (D := D) (ci := 5) (v := .ref uP) (C := RX5) (T := TX5) (N := 8) hx hb hts in5 hown jK.1 jP 0 rfl rfl 5 (by decide) (hts _ w_33) (fun _ h9 => h9) rfl dX5_edge_59 ?_
          refine lv_iconst (v := (0 : Int32)) hx hb dX5_edge_62 (by decide) ?_
          refine lv_iconst (v := (0 : Int32)) hx hb dX5_edge_63 (by decide) ?_
          refine lv_iload_n hx hb dX5_edge_64 rfl (lv_at jl 3 rfl) ?_
          obtain ⟨t8, hc9, hv6⟩ := bd_some hv6
          refine callP (wc := (tW cI uT aT v6.2.2.2.1 v6.2.2.2.2.1 v6.2.2.2.2.2.1 v6.2.2.2.2.2.2.1 v6.2.2.2.2.2.2.2.1 v6.2.2.2.2.2.2.2.2 v6.2.2.1 ++ (sW cI uP aP t4.2.2.2.2.2.1 t4.2.2.2.2.2.2.1 t4.2.2.2.2.2.2.2.1 t4.2.2.2.2.2.2.2.2.1 t4.2.2.2.2.2.2.2.2.2 t4.1 t4.2.1 (upd t4.2.2.1 a1.toNatClampNeg (0 : Int32)) t4.2.2.2.1 t4.2.2.2.2.1))) (wr := (lW uL uE uD uT uV uS uP L_x6 L_x7 ++ (sW cI uS aS S_x5 S_x6 S_x7 S_x8 S_x9 S_r0 S_r1 S_r2 S_r3 S_r4))) (w1 := (tW cI uT aT t8.2.1 t8.2.2.1 t8.2.2.2.1 t8.2.2.2.2.1 t8.2.2.2.2.2.1 t8.2.2.2.2.2.2 t8.1 ++ (sW cI uP aP t4.2.2.2.2.2.1 t4.2.2.2.2.2.2.1 t4.2.2.2.2.2.2.2.1 t4.2.2.2.2.2.2.2.2.1 t4.2.2.2.2.2.2.2.2.2 t4.1 t4.2.1 (upd t4.2.2.1 a1.toNatClampNeg (0 : Int32)) t4.2.2.2.1 t4.2.2.2.2.1))) (ws1 := (lW uL uE uD uT uV uS uP L_x6 L_x7 ++ (tW cI uT aT t8.2.1 t8.2.2.1 t8.2.2.2.1 t8.2.2.2.2.1 t8.2.2.2.2.2.1 t8.2.2.2.2.2.2 t8.1 ++ (sW cI uS aS S_x5 S_x6 S_x7 S_x8 S_x9 S_r0 S_r1 S_r2 S_r3 S_r4 ++ (sW cI uP aP t4.2.2.2.2.2.1 t4.2.2.2.2.2.2.1 t4.2.2.2.2.2.2.2.1 t4.2.2.2.2.2.2.2.2.1 t4.2.2.2.2.2.2.2.2.2 t4.1 t4.2.1 (upd t4.2.2.1 a1.toNatClampNeg (0 : Int32)) t4.2.2.2.1 t4.2.2.2.2.1))))) (As := [.ref uP, .int (0 : Int32), .int (0 : Int32), .int v6.2.1]) (rest := []) (st1 := []) 0 [1, 2, 9, 10, 11, 12, 13, 14] [0, 3, 4, 5, 6, 7, 8] [0, 7, 8, 1, 2, 3, 4, 5, 6, 9, 10, 11, 12, 13, 14] F (kX4_make l D cI cB cS uT aT v6.2.2.2.1 v6.2.2.2.2.1 v6.2.2.2.2.2.1 v6.2.2.2.2.2.2.1 v6.2.2.2.2.2.2.2.1 v6.2.2.2.2.2.2.2.2 v6.2.2.1 uP aP t4.2.2.2.2.2.1 t4.2.2.2.2.2.2.1 t4.2.2.2.2.2.2.2.1 t4.2.2.2.2.2.2.2.2.1 t4.2.2.2.2.2.2.2.2.2 t4.1 t4.2.1 (upd t4.2.2.1 a1.toNatClampNeg (0 : Int32)) t4.2.2.2.1 t4.2.2.2.2.1 (0 : Int32) (0 : Int32) v6.2.1 _ hc9 ) okX4_make w_367 (by decide) (by decide) ⟨Nat.zero_le _, Nat.zero_le _⟩ rfl rfl rfl jP jD jS rfl jl.1 rfl rfl (Nat.le_of_ble_eq_true rfl) dX5_edge_65 rfl rfl (by decide) (by decide) (by decide) rfl (by decide) (fun H locs jP jD jS => ?_)
          refine lv_iload_n hx hb dX5_edge_68 rfl (lv_at jl 2 rfl) ?_
          refine lv_aload_n hx hb dX5_edge_69 rfl (lv_at jl 0 rfl) ?_
          refine va_get (D := D) (ci := 5) (v := .ref uT) (C := RX5) (T := TX5) (N := 8) hx hb hts in5 hown jK.1 jP 0 rfl rfl 2 (by decide) (hts _ w_24) (fun _ h9 => h9) rfl dX5_edge_70 ?_
          refine lv_iload_n hx hb dX5_edge_73 rfl (lv_at jl 3 rfl) ?_
          obtain ⟨t10, hc11, hv6⟩ := bd_some hv6
          refine callP (wc := (tW cI uT aT t8.2.1 t8.2.2.1 t8.2.2.2.1 t8.2.2.2.2.1 t8.2.2.2.2.2.1 t8.2.2.2.2.2.2 t8.1)) (wr := (lW uL uE uD uT uV uS uP L_x6 L_x7 ++ (sW cI uS aS S_x5 S_x6 S_x7 S_x8 S_x9 S_r0 S_r1 S_r2 S_r3 S_r4 ++ (sW cI uP aP t4.2.2.2.2.2.1 t4.2.2.2.2.2.2.1 t4.2.2.2.2.2.2.2.1 t4.2.2.2.2.2.2.2.2.1 t4.2.2.2.2.2.2.2.2.2 t4.1 t4.2.1 (upd t4.2.2.1 a1.toNatClampNeg (0 : Int32)) t4.2.2.2.1 t4.2.2.2.2.1)))) (w1 := (tW cI uT aT t8.2.1 t8.2.2.1 t8.2.2.2.1 t8.2.2.2.2.1 t8.2.2.2.2.2.1 t8.2.2.2.2.2.2 t8.1)) (ws1 := (lW uL uE uD uT uV uS uP L_x6 L_x7 ++ (tW cI uT aT t8.2.1 t8.2.2.1 t8.2.2.2.1 t8.2.2.2.2.1 t8.2.2.2.2.2.1 t8.2.2.2.2.2.2 t8.1 ++ (sW cI uS aS S_x5 S_x6 S_x7 S_x8 S_x9 S_r0 S_r1 S_r2 S_r3 S_r4 ++ (sW cI uP aP t4.2.2.2.2.2.1 t4.2.2.2.2.2.2.1 t4.2.2.2.2.2.2.2.1 t4.2.2.2.2.2.2.2.2.1 t4.2.2.2.2.2.2.2.2.2 t4.1 t4.2.1 (upd t4.2.2.1 a1.toNatClampNeg (0 : Int32)) t4.2.2.2.1 t4.2.2.2.2.1))))) (As := [.int v6.2.1]) (rest := [.int v6.1]) (st1 := [.int t10, .int v6.1]) 0 [1, 2] [0, 3, 4, 5, 6, 7, 8, 9, 10, 11, 12, 13, 14] [0, 13, 14, 1, 2, 3, 4, 5, 6, 7, 8, 9, 10, 11, 12] F (kX4_lackAt l D cI cB cS uT aT t8.2.1 t8.2.2.1 t8.2.2.2.1 t8.2.2.2.2.1 t8.2.2.2.2.2.1 t8.2.2.2.2.2.2 t8.1 v6.2.1 _ hc11 ) okX4_lackAt w_653 (by decide) (by decide) ⟨Nat.zero_le _, Nat.zero_le _⟩ rfl rfl rfl jP jD jS rfl jl.1 rfl rfl (Nat.le_of_ble_eq_true rfl) dX5_edge_74 rfl rfl (by decide) (by decide) (by decide) rfl (by decide) (fun H locs jP jD jS => ?_)
          refine lv_bipush (v := (10 : Int32)) hx hb dX5_edge_77 (by decide) ?_
          refine lv_aload_n hx hb dX5_edge_79 rfl (lv_at jl 0 rfl) ?_
          refine va_get (D := D) (ci := 5) (v := .ref uT) (C := RX5) (T := TX5) (N := 8) hx hb hts in5 hown jK.1 jP 0 rfl rfl 2 (by decide) (hts _ w_24) (fun _ h9 => h9) rfl dX5_edge_80 ?_
          refine va_get (D := D) (ci := 4) (v := .ref (aT 0)) (C := RX4) (T := TX4) (N := 7) hx hb hts in4 hown jK.1 jP 1 rfl rfl 0 (by decide) (hts _ w_451) (fun _ h9 => h9) rfl dX5_edge_83 ?_
          refine lv_iload_n hx hb dX5_edge_86 rfl (lv_at jl 1 rfl) ?_
          obtain ⟨hin, hv6⟩ := ckI_some hv6
          refine va_iald (f := t8.1) hx hb jK.1 jP 2 0 rfl rfl hin dX5_edge_87 ?_
          refine lv_imul hx hb dX5_edge_88 ?_
          obtain ⟨t12, hc13, hv6⟩ := bd_some hv6
          refine call0 (As := [.int t10, .int ((10 : Int32) * (t8.1 (a1).toNatClampNeg))]) (rest := [.int v6.1]) (st1 := [.int t12, .int v6.1]) F (kX5_fewestSteps l D cI cB cS  t10 ((10 : Int32) * (t8.1 (a1).toNatClampNeg)) _ hc13 ) okX5_fewestSteps w_635 (by decide) (by decide) ⟨Nat.zero_le _, Nat.zero_le _⟩ jP jD jS rfl jl.1 rfl rfl (Nat.le_of_ble_eq_true rfl) dX5_edge_89 (fun H locs jP jD jS => ?_)
          refine va_mmin hx hb (hml.trans jl.1.symm) hown (hts _ w_650) (hts _ w_651) (hts _ w_305) (hts _ w_652) (Nat.le_trans (by decide) hf1) (Nat.le_trans (Nat.le_of_ble_eq_true rfl) hf2) (Nat.zero_le _) (Nat.zero_le _) dX5_edge_92 ?_
          refine lv_istore_n (lv' := [(2, .int (if t12 < v6.1 then t12 else v6.1)), (0, .ref uL), (1, .int a1), (3, .int v6.2.1)]) hx hb dX5_edge_95 rfl jl (by decide) rfl (fun ls jl => ?_)
          refine lv_iinc (v := (v6.2.1 + (1 : Int32))) (lv' := [(3, .int (v6.2.1 + (1 : Int32))), (2, .int (if t12 < v6.1 then t12 else v6.1)), (0, .ref uL), (1, .int a1)]) hx hb dX5_edge_96 jl (k := 3) rfl rfl (by decide) rfl (fun ls jl => ?_)
          refine lv_goto (tgt := 48) hx hb dX5_edge_99 (by decide) ?_
          obtain rfl := Option.some.inj hv6
          exact ih _ (nxt_l hq6) _ _ _ jP jD jS (lv_sub jl [2, 3, 1, 0] rfl)
    exact hL6 1000 _ hT6 _ _ _ jP jD jS (lv_sub jl [2, 3, 1, 0] rfl)
  · have h := itp c3 h
    refine lv_iconst (v := (-1 : Int32)) hx hb dX5_edge_8 (by decide) ?_
    obtain rfl := Option.some.inj h
    exact hRet _ _ _ _ jP jD jS dX5_edge_9
theorem okX5_spur : okV yX5_spur cX5_spur 6 (some .int) 1 := ⟨w_659, w_660, w_661, w_2, by decide, by decide, by decide +kernel⟩
def fX5_spur_b52 (l1 : Int32) (l2 : Int32) (P_r0 : (Nat → Int32)) (P_r1 : (Nat → Int32)) (P_r2 : (Nat → Int32)) (P_r3 : (Nat → Int32)) (P_r4 : (Nat → Int32)) (P_x5 : Int32) (P_x6 : Int32) (P_x7 : Int32) (P_x8 : Int32) (v1 : (Int32 × Int32 × (Nat → Int32) × Int32 × Int32 × Int32 × Int32 × Int32 × Int32)) : Option ((Int32 × Int32 × (Nat → Int32) × Int32 × Int32 × Int32 × Int32 × Int32 × Int32) ⊕ (Int32 × (Nat → Int32) × Int32 × Int32 × Int32 × Int32 × Int32 × Int32)) :=
  if (100 : Int32) ≤ v1.2.1 then (some (.inr (v1.1, v1.2.2.1, v1.2.2.2.1, v1.2.2.2.2.1, v1.2.2.2.2.2.1, v1.2.2.2.2.2.2.1, v1.2.2.2.2.2.2.2.1, v1.2.2.2.2.2.2.2.2))) else (bd (fX4_make (P_r0) (P_r1) (P_r2) (P_r3) (P_r4) (P_x5) (P_x6) (P_x7) (P_x8) v1.2.2.1 (0 : Int32) (0 : Int32) v1.2.1) (fun t1 => bd (fX4_bringsAll t1.2.1 (l2)) (fun t2 => bd (if t2 = (0 : Int32) then some v1.1 else (bd (fX4_bringsAll t1.2.1 ((1 : Int32) <<< (l1 &&& 31))) (fun t3 => bd (if t3 = (0 : Int32) then (ckI l1 8 (some ((8000 : Int32) * ((P_r2 (l1).toNatClampNeg) - v1.2.1)))) else (some (0 : Int32))) (fun t4 => bd (fX4_lackAt t1.2.2.2.1 t1.2.2.2.2.1 v1.2.1) (fun t5 => bd (fX5_fewestSteps t5 t4) (fun t6 => some (if t6 < v1.1 then t6 else v1.1))))))) (fun t7 => some (.inl (t7, (v1.2.1 + (1 : Int32)), t1.1, t1.2.1, t1.2.2.1, t1.2.2.2.1, t1.2.2.2.2.1, t1.2.2.2.2.2.1, t1.2.2.2.2.2.2))))))
def fX5_spur (P_r0 : (Nat → Int32)) (P_r1 : (Nat → Int32)) (P_r2 : (Nat → Int32)) (P_r3 : (Nat → Int32)) (P_r4 : (Nat → Int32)) (P_x5 : Int32) (P_x6 : Int32) (P_x7 : Int32) (P_x8 : Int32) (P_x9 : Int32) (S_r0 : (Nat → Int32)) (S_r1 : (Nat → Int32)) (S_r2 : (Nat → Int32)) (S_r3 : (Nat → Int32)) (S_r4 : (Nat → Int32)) (S_x5 : Int32) (S_x6 : Int32) (S_x7 : Int32) (S_x8 : Int32) (S_x9 : Int32) (T_r0 : (Nat → Int32)) (T_x1 : Int32) (T_x2 : Int32) (T_x3 : Int32) (T_x4 : Int32) (T_x5 : Int32) (T_x6 : Int32) (a1 : Int32) : Option (Int32 × (Nat → Int32) × (Nat → Int32) × (Nat → Int32) × (Nat → Int32) × (Nat → Int32) × Int32 × Int32 × Int32 × Int32 × Int32 × (Nat → Int32) × Int32 × Int32 × Int32 × Int32 × Int32 × Int32) :=
  bd (fX5_isSort (S_x5) a1) (fun t1 => if t1 = (0 : Int32) then (some ((-1 : Int32), P_r0, P_r1, P_r2, P_r3, P_r4, P_x5, P_x6, P_x7, P_x8, P_x9, T_r0, T_x1, T_x2, T_x3, T_x4, T_x5, T_x6)) else (bd (fX2_worthTrading (S_r1) (S_r2) (S_x5)) (fun t4 => if t4 = (0 : Int32) then (some ((-4 : Int32), P_r0, P_r1, P_r2, P_r3, P_r4, P_x5, P_x6, P_x7, P_x8, P_x9, T_r0, T_x1, T_x2, T_x3, T_x4, T_x5, T_x6)) else (bd (fX2_copy (S_r0) (S_r1) (S_r2) (S_r3) (S_r4) (S_x5) (S_x6) (S_x7) (S_x8) (S_x9) (P_r0) (P_r1) (P_r2) (P_r3) (P_r4)) (fun t7 => ckI a1 8 (bd (loopF (fX5_spur_b52 a1 t4 t7.1 t7.2.1 t7.2.2.1 t7.2.2.2.1 (upd t7.2.2.2.2.1 a1.toNatClampNeg (0 : Int32)) t7.2.2.2.2.2.1 t7.2.2.2.2.2.2.1 t7.2.2.2.2.2.2.2.1 t7.2.2.2.2.2.2.2.2.1) 1000 ((1000000 : Int32), (0 : Int32), T_r0, T_x1, T_x2, T_x3, T_x4, T_x5, T_x6)) (fun T9 => ckI a1 8 (if T9.1 ≤ (S_r0 a1.toNatClampNeg) then (some (T9.1, t7.1, t7.2.1, t7.2.2.1, t7.2.2.2.1, (upd t7.2.2.2.2.1 a1.toNatClampNeg (0 : Int32)), t7.2.2.2.2.2.1, t7.2.2.2.2.2.2.1, t7.2.2.2.2.2.2.2.1, t7.2.2.2.2.2.2.2.2.1, t7.2.2.2.2.2.2.2.2.2, T9.2.1, T9.2.2.1, T9.2.2.2.1, T9.2.2.2.2.1, T9.2.2.2.2.2.1, T9.2.2.2.2.2.2.1, T9.2.2.2.2.2.2.2)) else (some ((-4 : Int32), t7.1, t7.2.1, t7.2.2.1, t7.2.2.2.1, (upd t7.2.2.2.2.1 a1.toNatClampNeg (0 : Int32)), t7.2.2.2.2.2.1, t7.2.2.2.2.2.2.1, t7.2.2.2.2.2.2.2.1, t7.2.2.2.2.2.2.2.2.1, t7.2.2.2.2.2.2.2.2.2, T9.2.1, T9.2.2.1, T9.2.2.2.1, T9.2.2.2.2.1, T9.2.2.2.2.2.1, T9.2.2.2.2.2.2.1, T9.2.2.2.2.2.2.2))))))))))
set_option maxRecDepth 100000 in
set_option maxHeartbeats 4000000 in
theorem kX5_spur (l : Launch) (D : va_G) (cI cB cS : ClassId) (uL : Nat) (L_x6 : Int32) (L_x7 : Int32) (uT : Nat) (aT : Nat → Nat) (T_x1 : Int32) (T_x2 : Int32) (T_x3 : Int32) (T_x4 : Int32) (T_x5 : Int32) (T_x6 : Int32) (T_r0 : (Nat → Int32)) (uS : Nat) (aS : Nat → Nat) (S_x5 : Int32) (S_x6 : Int32) (S_x7 : Int32) (S_x8 : Int32) (S_x9 : Int32) (S_r0 : (Nat → Int32)) (S_r1 : (Nat → Int32)) (S_r2 : (Nat → Int32)) (S_r3 : (Nat → Int32)) (S_r4 : (Nat → Int32)) (uP : Nat) (aP : Nat → Nat) (P_x5 : Int32) (P_x6 : Int32) (P_x7 : Int32) (P_x8 : Int32) (P_x9 : Int32) (P_r0 : (Nat → Int32)) (P_r1 : (Nat → Int32)) (P_r2 : (Nat → Int32)) (P_r3 : (Nat → Int32)) (P_r4 : (Nat → Int32)) (uE : Nat) (uD : Nat) (uV : Nat) (a1 : Int32) (z : (Int32 × (Nat → Int32) × (Nat → Int32) × (Nat → Int32) × (Nat → Int32) × (Nat → Int32) × Int32 × Int32 × Int32 × Int32 × Int32 × (Nat → Int32) × Int32 × Int32 × Int32 × Int32 × Int32 × Int32)) (h : fX5_spur P_r0 P_r1 P_r2 P_r3 P_r4 P_x5 P_x6 P_x7 P_x8 P_x9 S_r0 S_r1 S_r2 S_r3 S_r4 S_x5 S_x6 S_x7 S_x8 S_x9 T_r0 T_x1 T_x2 T_x3 T_x4 T_x5 T_x6 a1 = some z) : Mt l yX5_spur cX5_spur 6 (some .int) 3 94 D cI cB cS (lW uL uE uD uT uV uS uP L_x6 L_x7 ++ (tW cI uT aT T_x1 T_x2 T_x3 T_x4 T_x5 T_x6 T_r0 ++ (sW cI uS aS S_x5 S_x6 S_x7 S_x8 S_x9 S_r0 S_r1 S_r2 S_r3 S_r4 ++ (sW cI uP aP P_x5 P_x6 P_x7 P_x8 P_x9 P_r0 P_r1 P_r2 P_r3 P_r4)))) (lW uL uE uD uT uV uS uP L_x6 L_x7 ++ (tW cI uT aT z.2.2.2.2.2.2.2.2.2.2.2.2.1 z.2.2.2.2.2.2.2.2.2.2.2.2.2.1 z.2.2.2.2.2.2.2.2.2.2.2.2.2.2.1 z.2.2.2.2.2.2.2.2.2.2.2.2.2.2.2.1 z.2.2.2.2.2.2.2.2.2.2.2.2.2.2.2.2.1 z.2.2.2.2.2.2.2.2.2.2.2.2.2.2.2.2.2 z.2.2.2.2.2.2.2.2.2.2.2.1 ++ (sW cI uS aS S_x5 S_x6 S_x7 S_x8 S_x9 S_r0 S_r1 S_r2 S_r3 S_r4 ++ (sW cI uP aP z.2.2.2.2.2.2.1 z.2.2.2.2.2.2.2.1 z.2.2.2.2.2.2.2.2.1 z.2.2.2.2.2.2.2.2.2.1 z.2.2.2.2.2.2.2.2.2.2.1 z.2.1 z.2.2.1 z.2.2.2.1 z.2.2.2.2.1 z.2.2.2.2.2.1)))) [.ref uL, .int a1] (some (.int z.1)) := by
  refine entryI (by decide +kernel) rfl (Nat.le_of_ble_eq_true rfl) ?_
  intro p e s m below meth c A ls QQ R ar F hRet jP jD jS jl
  obtain ⟨hx, hb, hml, hown, hts, jK, hA, hf1, hf2⟩ := id F
  have jl : lv_has ls 6 [(0, .ref uL), (1, .int a1)] := jl
  unfold fX5_spur at h
  refine lv_aload_n hx hb dX5_spur_0 rfl (lv_at jl 0 rfl) ?_
  refine lv_iload_n hx hb dX5_spur_1 rfl (lv_at jl 1 rfl) ?_
  obtain ⟨t1, hc2, h⟩ := bd_some h
  refine callP (wc := (lW uL uE uD uT uV uS uP L_x6 L_x7 ++ (sW cI uS aS S_x5 S_x6 S_x7 S_x8 S_x9 S_r0 S_r1 S_r2 S_r3 S_r4))) (wr := (tW cI uT aT T_x1 T_x2 T_x3 T_x4 T_x5 T_x6 T_r0 ++ (sW cI uP aP P_x5 P_x6 P_x7 P_x8 P_x9 P_r0 P_r1 P_r2 P_r3 P_r4))) (w1 := (lW uL uE uD uT uV uS uP L_x6 L_x7 ++ (sW cI uS aS S_x5 S_x6 S_x7 S_x8 S_x9 S_r0 S_r1 S_r2 S_r3 S_r4))) (ws1 := (lW uL uE uD uT uV uS uP L_x6 L_x7 ++ (tW cI uT aT T_x1 T_x2 T_x3 T_x4 T_x5 T_x6 T_r0 ++ (sW cI uS aS S_x5 S_x6 S_x7 S_x8 S_x9 S_r0 S_r1 S_r2 S_r3 S_r4 ++ (sW cI uP aP P_x5 P_x6 P_x7 P_x8 P_x9 P_r0 P_r1 P_r2 P_r3 P_r4))))) (As := [.int a1]) (rest := []) (st1 := [.int t1]) 0 [0, 3, 4, 5, 6, 7, 8] [1, 2, 9, 10, 11, 12, 13, 14] [8, 0, 1, 9, 10, 11, 12, 13, 14, 2, 3, 4, 5, 6, 7] F (kX5_isSort l D cI cB cS uL L_x6 L_x7 uS aS S_x5 S_x6 S_x7 S_x8 S_x9 S_r0 S_r1 S_r2 S_r3 S_r4 uE uD uT uV uP a1 _ hc2 ) okX5_isSort w_295 (by decide) (by decide) ⟨Nat.zero_le _, Nat.zero_le _⟩ rfl rfl rfl jP jD jS rfl jl.1 rfl rfl (Nat.le_of_ble_eq_true rfl) dX5_spur_2 rfl rfl (by decide) (by decide) (by decide) rfl (by decide) (fun H locs jP jD jS => ?_)
  refine lv_if_ne (tgt := 10) hx hb dX5_spur_5 (by decide) (fun c3 => ?_) (fun c3 => ?_)
  · have h := itn c3 h
    refine lv_aload_n hx hb dX5_spur_10 rfl (lv_at jl 0 rfl) ?_
    refine va_get (D := D) (ci := 5) (v := .ref uS) (C := RX5) (T := TX5) (N := 8) hx hb hts in5 hown jK.1 jP 0 rfl rfl 4 (by decide) (hts _ w_32) (fun _ h9 => h9) rfl dX5_spur_11 ?_
    obtain ⟨t4, hc5, h⟩ := bd_some h
    refine callP (wc := (sW cI uS aS S_x5 S_x6 S_x7 S_x8 S_x9 S_r0 S_r1 S_r2 S_r3 S_r4)) (wr := (lW uL uE uD uT uV uS uP L_x6 L_x7 ++ (tW cI uT aT T_x1 T_x2 T_x3 T_x4 T_x5 T_x6 T_r0 ++ (sW cI uP aP P_x5 P_x6 P_x7 P_x8 P_x9 P_r0 P_r1 P_r2 P_r3 P_r4)))) (w1 := (sW cI uS aS S_x5 S_x6 S_x7 S_x8 S_x9 S_r0 S_r1 S_r2 S_r3 S_r4)) (ws1 := (lW uL uE uD uT uV uS uP L_x6 L_x7 ++ (tW cI uT aT T_x1 T_x2 T_x3 T_x4 T_x5 T_x6 T_r0 ++ (sW cI uS aS S_x5 S_x6 S_x7 S_x8 S_x9 S_r0 S_r1 S_r2 S_r3 S_r4 ++ (sW cI uP aP P_x5 P_x6 P_x7 P_x8 P_x9 P_r0 P_r1 P_r2 P_r3 P_r4))))) (As := []) (rest := []) (st1 := [.int t4]) 0 [3, 4, 5, 6, 7, 8] [0, 1, 2, 9, 10, 11, 12, 13, 14] [0, 1, 2, 9, 10, 11, 12, 13, 14, 3, 4, 5, 6, 7, 8] F (kX2_worthTrading l D cI cB cS uS aS S_x5 S_x6 S_x7 S_x8 S_x9 S_r0 S_r1 S_r2 S_r3 S_r4  _ hc5 ) okX2_worthTrading w_663 (by decide) (by decide) ⟨Nat.zero_le _, Nat.zero_le _⟩ rfl rfl rfl jP jD jS rfl jl.1 rfl rfl (Nat.le_of_ble_eq_true rfl) dX5_spur_14 rfl rfl (by decide) (by decide) (by decide) rfl (by decide) (fun H locs jP jD jS => ?_)
    refine lv_istore_n (lv' := [(2, .int t4), (0, .ref uL), (1, .int a1)]) hx hb dX5_spur_17 rfl jl (by decide) rfl (fun ls jl => ?_)
    refine lv_iload_n hx hb dX5_spur_18 rfl (lv_at jl 0 rfl) ?_
    refine lv_if_ne (tgt := 25) hx hb dX5_spur_19 (by decide) (fun c6 => ?_) (fun c6 => ?_)
    · have h := itn c6 h
      refine lv_aload_n hx hb dX5_spur_25 rfl (lv_at jl 1 rfl) ?_
      refine va_get (D := D) (ci := 5) (v := .ref uP) (C := RX5) (T := TX5) (N := 8) hx hb hts in5 hown jK.1 jP 0 rfl rfl 5 (by decide) (hts _ w_33) (fun _ h9 => h9) rfl dX5_spur_26 ?_
      refine lv_aload_n hx hb dX5_spur_29 rfl (lv_at jl 1 rfl) ?_
      refine va_get (D := D) (ci := 5) (v := .ref uS) (C := RX5) (T := TX5) (N := 8) hx hb hts in5 hown jK.1 jP 0 rfl rfl 4 (by decide) (hts _ w_32) (fun _ h9 => h9) rfl dX5_spur_30 ?_
      obtain ⟨t7, hc8, h⟩ := bd_some h
      refine callP (wc := (sW cI uP aP P_x5 P_x6 P_x7 P_x8 P_x9 P_r0 P_r1 P_r2 P_r3 P_r4 ++ (sW cI uS aS S_x5 S_x6 S_x7 S_x8 S_x9 S_r0 S_r1 S_r2 S_r3 S_r4))) (wr := (lW uL uE uD uT uV uS uP L_x6 L_x7 ++ (tW cI uT aT T_x1 T_x2 T_x3 T_x4 T_x5 T_x6 T_r0))) (w1 := (sW cI uP aP t7.2.2.2.2.2.1 t7.2.2.2.2.2.2.1 t7.2.2.2.2.2.2.2.1 t7.2.2.2.2.2.2.2.2.1 t7.2.2.2.2.2.2.2.2.2 t7.1 t7.2.1 t7.2.2.1 t7.2.2.2.1 t7.2.2.2.2.1 ++ (sW cI uS aS S_x5 S_x6 S_x7 S_x8 S_x9 S_r0 S_r1 S_r2 S_r3 S_r4))) (ws1 := (lW uL uE uD uT uV uS uP L_x6 L_x7 ++ (tW cI uT aT T_x1 T_x2 T_x3 T_x4 T_x5 T_x6 T_r0 ++ (sW cI uS aS S_x5 S_x6 S_x7 S_x8 S_x9 S_r0 S_r1 S_r2 S_r3 S_r4 ++ (sW cI uP aP t7.2.2.2.2.2.1 t7.2.2.2.2.2.2.1 t7.2.2.2.2.2.2.2.1 t7.2.2.2.2.2.2.2.2.1 t7.2.2.2.2.2.2.2.2.2 t7.1 t7.2.1 t7.2.2.1 t7.2.2.2.1 t7.2.2.2.2.1))))) (As := [.ref uS]) (rest := []) (st1 := []) 0 [9, 10, 11, 12, 13, 14, 3, 4, 5, 6, 7, 8] [0, 1, 2] [0, 1, 2, 9, 10, 11, 12, 13, 14, 3, 4, 5, 6, 7, 8] F (kX2_copy l D cI cB cS uP aP P_x5 P_x6 P_x7 P_x8 P_x9 P_r0 P_r1 P_r2 P_r3 P_r4 uS aS S_x5 S_x6 S_x7 S_x8 S_x9 S_r0 S_r1 S_r2 S_r3 S_r4  _ hc8 ) okX2_copy w_602 (by decide) (by decide) ⟨Nat.zero_le _, Nat.zero_le _⟩ rfl rfl rfl jP jD jS rfl jl.1 rfl rfl (Nat.le_of_ble_eq_true rfl) dX5_spur_33 rfl rfl (by decide) (by decide) (by decide) rfl (by decide) (fun H locs jP jD jS => ?_)
      refine lv_aload_n hx hb dX5_spur_36 rfl (lv_at jl 1 rfl) ?_
      refine va_get (D := D) (ci := 5) (v := .ref uP) (C := RX5) (T := TX5) (N := 8) hx hb hts in5 hown jK.1 jP 0 rfl rfl 5 (by decide) (hts _ w_33) (fun _ h9 => h9) rfl dX5_spur_37 ?_
      refine va_get (D := D) (ci := 2) (v := .ref (aP 4)) (C := RX2) (T := TX2) (N := 10) hx hb hts in2 hown jK.1 jP 9 rfl rfl 4 (by decide) (hts _ w_662) (fun _ h9 => h9) rfl dX5_spur_40 ?_
      refine lv_iload_n hx hb dX5_spur_43 rfl (lv_at jl 2 rfl) ?_
      refine lv_iconst (v := (0 : Int32)) hx hb dX5_spur_44 (by decide) ?_
      obtain ⟨hin, h⟩ := ckI_some h
      refine va_iast (f := t7.2.2.2.2.1) hx hb jK.1 jP jD jS 14 0 rfl rfl hin dX5_spur_45 (fun H locs jP jD jS => ?_)
      have jP : va_P D vwCl (lW uL uE uD uT uV uS uP L_x6 L_x7 ++ (tW cI uT aT T_x1 T_x2 T_x3 T_x4 T_x5 T_x6 T_r0 ++ (sW cI uS aS S_x5 S_x6 S_x7 S_x8 S_x9 S_r0 S_r1 S_r2 S_r3 S_r4 ++ (sW cI uP aP t7.2.2.2.2.2.1 t7.2.2.2.2.2.2.1 t7.2.2.2.2.2.2.2.1 t7.2.2.2.2.2.2.2.2.1 t7.2.2.2.2.2.2.2.2.2 t7.1 t7.2.1 t7.2.2.1 t7.2.2.2.1 (upd t7.2.2.2.2.1 a1.toNatClampNeg (0 : Int32)))))) H := jP
      have jD : va_D A (lW uL uE uD uT uV uS uP L_x6 L_x7 ++ (tW cI uT aT T_x1 T_x2 T_x3 T_x4 T_x5 T_x6 T_r0 ++ (sW cI uS aS S_x5 S_x6 S_x7 S_x8 S_x9 S_r0 S_r1 S_r2 S_r3 S_r4 ++ (sW cI uP aP t7.2.2.2.2.2.1 t7.2.2.2.2.2.2.1 t7.2.2.2.2.2.2.2.1 t7.2.2.2.2.2.2.2.2.1 t7.2.2.2.2.2.2.2.2.2 t7.1 t7.2.1 t7.2.2.1 t7.2.2.2.1 (upd t7.2.2.2.2.1 a1.toNatClampNeg (0 : Int32)))))) := jD
      refine lv_ldc (v := (1000000 : Int32)) hx hb hown (hts _ w_638) dX5_spur_46 ?_
      refine lv_istore_n (lv' := [(3, .int (1000000 : Int32)), (2, .int t4), (0, .ref uL), (1, .int a1)]) hx hb dX5_spur_48 rfl jl (by decide) rfl (fun ls jl => ?_)
      refine lv_iconst (v := (0 : Int32)) hx hb dX5_spur_49 (by decide) ?_
      refine lv_istore (lv' := [(4, .int (0 : Int32)), (3, .int (1000000 : Int32)), (2, .int t4), (0, .ref uL), (1, .int a1)]) hx hb dX5_spur_50 jl (by decide) rfl (fun ls jl => ?_)
      obtain ⟨T9, hT9, hz9⟩ := bd_some h
      clear h
      have hE9 : ∀ (H : Heap) (locs : List Loc) (ls : Array Slot), va_P D vwCl (lW uL uE uD uT uV uS uP L_x6 L_x7 ++ (tW cI uT aT T9.2.2.1 T9.2.2.2.1 T9.2.2.2.2.1 T9.2.2.2.2.2.1 T9.2.2.2.2.2.2.1 T9.2.2.2.2.2.2.2 T9.2.1 ++ (sW cI uS aS S_x5 S_x6 S_x7 S_x8 S_x9 S_r0 S_r1 S_r2 S_r3 S_r4 ++ (sW cI uP aP t7.2.2.2.2.2.1 t7.2.2.2.2.2.2.1 t7.2.2.2.2.2.2.2.1 t7.2.2.2.2.2.2.2.2.1 t7.2.2.2.2.2.2.2.2.2 t7.1 t7.2.1 t7.2.2.1 t7.2.2.2.1 (upd t7.2.2.2.2.1 a1.toNatClampNeg (0 : Int32)))))) H → va_D A (lW uL uE uD uT uV uS uP L_x6 L_x7 ++ (tW cI uT aT T9.2.2.1 T9.2.2.2.1 T9.2.2.2.2.1 T9.2.2.2.2.2.1 T9.2.2.2.2.2.2.1 T9.2.2.2.2.2.2.2 T9.2.1 ++ (sW cI uS aS S_x5 S_x6 S_x7 S_x8 S_x9 S_r0 S_r1 S_r2 S_r3 S_r4 ++ (sW cI uP aP t7.2.2.2.2.2.1 t7.2.2.2.2.2.2.1 t7.2.2.2.2.2.2.2.1 t7.2.2.2.2.2.2.2.2.1 t7.2.2.2.2.2.2.2.2.2 t7.1 t7.2.1 t7.2.2.1 t7.2.2.2.1 (upd t7.2.2.2.2.1 a1.toNatClampNeg (0 : Int32)))))) → va_S A s.heap H locs → lv_has ls 6 [(0, .ref uL), (1, .int a1), (3, .int T9.1)] → W p l e R s m ar below meth c H locs 0 0 QQ (F0 m 145 ls []) := by
        clear jP jD jS jl
        intro H locs ls jP jD jS jl
        refine lv_iload_n hx hb dX5_spur_145 rfl (lv_at jl 2 rfl) ?_
        refine lv_aload_n hx hb dX5_spur_146 rfl (lv_at jl 0 rfl) ?_
        refine va_get (D := D) (ci := 5) (v := .ref uS) (C := RX5) (T := TX5) (N := 8) hx hb hts in5 hown jK.1 jP 0 rfl rfl 4 (by decide) (hts _ w_32) (fun _ h9 => h9) rfl dX5_spur_147 ?_
        refine va_get (D := D) (ci := 2) (v := .ref (aS 0)) (C := RX2) (T := TX2) (N := 10) hx hb hts in2 hown jK.1 jP 3 rfl rfl 0 (by decide) (hts _ w_569) (fun _ h9 => h9) rfl dX5_spur_150 ?_
        refine lv_iload_n hx hb dX5_spur_153 rfl (lv_at jl 1 rfl) ?_
        obtain ⟨hin, hz9⟩ := ckI_some hz9
        refine va_iald (f := S_r0) hx hb jK.1 jP 4 0 rfl rfl hin dX5_spur_154 ?_
        refine lv_icmp_le (tgt := 163) hx hb dX5_spur_155 (by decide) (fun c25 => ?_) (fun c25 => ?_)
        · have hz9 := itp c25 hz9
          refine lv_iload_n hx hb dX5_spur_163 rfl (lv_at jl 2 rfl) ?_
          obtain rfl := Option.some.inj hz9
          exact hRet _ _ _ _ jP jD jS dX5_spur_164
        · have hz9 := itn c25 hz9
          refine lv_bipush (v := (-4 : Int32)) hx hb dX5_spur_158 (by decide) ?_
          refine lv_goto (tgt := 164) hx hb dX5_spur_160 (by decide) ?_
          obtain rfl := Option.some.inj hz9
          exact hRet _ _ _ _ jP jD jS dX5_spur_164
      have hL9 : ∀ (n : Nat) (v9 : (Int32 × Int32 × (Nat → Int32) × Int32 × Int32 × Int32 × Int32 × Int32 × Int32)), loopF (fX5_spur_b52 a1 t4 t7.1 t7.2.1 t7.2.2.1 t7.2.2.2.1 (upd t7.2.2.2.2.1 a1.toNatClampNeg (0 : Int32)) t7.2.2.2.2.2.1 t7.2.2.2.2.2.2.1 t7.2.2.2.2.2.2.2.1 t7.2.2.2.2.2.2.2.2.1) n v9 = some T9 → ∀ (H : Heap) (locs : List Loc) (ls : Array Slot), va_P D vwCl (lW uL uE uD uT uV uS uP L_x6 L_x7 ++ (tW cI uT aT v9.2.2.2.1 v9.2.2.2.2.1 v9.2.2.2.2.2.1 v9.2.2.2.2.2.2.1 v9.2.2.2.2.2.2.2.1 v9.2.2.2.2.2.2.2.2 v9.2.2.1 ++ (sW cI uS aS S_x5 S_x6 S_x7 S_x8 S_x9 S_r0 S_r1 S_r2 S_r3 S_r4 ++ (sW cI uP aP t7.2.2.2.2.2.1 t7.2.2.2.2.2.2.1 t7.2.2.2.2.2.2.2.1 t7.2.2.2.2.2.2.2.2.1 t7.2.2.2.2.2.2.2.2.2 t7.1 t7.2.1 t7.2.2.1 t7.2.2.2.1 (upd t7.2.2.2.2.1 a1.toNatClampNeg (0 : Int32)))))) H → va_D A (lW uL uE uD uT uV uS uP L_x6 L_x7 ++ (tW cI uT aT v9.2.2.2.1 v9.2.2.2.2.1 v9.2.2.2.2.2.1 v9.2.2.2.2.2.2.1 v9.2.2.2.2.2.2.2.1 v9.2.2.2.2.2.2.2.2 v9.2.2.1 ++ (sW cI uS aS S_x5 S_x6 S_x7 S_x8 S_x9 S_r0 S_r1 S_r2 S_r3 S_r4 ++ (sW cI uP aP t7.2.2.2.2.2.1 t7.2.2.2.2.2.2.1 t7.2.2.2.2.2.2.2.1 t7.2.2.2.2.2.2.2.2.1 t7.2.2.2.2.2.2.2.2.2 t7.1 t7.2.1 t7.2.2.1 t7.2.2.2.1 (upd t7.2.2.2.2.1 a1.toNatClampNeg (0 : Int32)))))) → va_S A s.heap H locs → lv_has ls 6 [(0, .ref uL), (1, .int a1), (2, .int t4), (3, .int v9.1), (4, .int v9.2.1)] → W p l e R s m ar below meth c H locs 0 0 QQ (F0 m 52 ls []) := by
        clear jP jD jS jl hT9
        intro n
        induction n with
        | zero => intro v9 hq; exact (loop_none hq).elim
        | succ n ih =>
          intro v9 hq H locs ls jP jD jS jl
          obtain ⟨o9, hv9, hq9⟩ := loop_some hq
          clear hq
          unfold fX5_spur_b52 at hv9
          refine lv_iload hx hb dX5_spur_52 (lv_at jl 4 rfl) ?_
          refine lv_bipush (v := (100 : Int32)) hx hb dX5_spur_54 (by decide) ?_
          refine lv_icmp_ge (tgt := 145) hx hb dX5_spur_56 (by decide) (fun c10 => ?_) (fun c10 => ?_)
          · have hv9 := itp c10 hv9
            obtain rfl := Option.some.inj hv9
            obtain rfl := nxt_r hq9
            exact hE9 _ _ _ jP jD jS (lv_sub jl [0, 1, 3] rfl)
          · have hv9 := itn c10 hv9
            refine lv_aload_n hx hb dX5_spur_59 rfl (lv_at jl 0 rfl) ?_
            refine va_get (D := D) (ci := 5) (v := .ref uT) (C := RX5) (T := TX5) (N := 8) hx hb hts in5 hown jK.1 jP 0 rfl rfl 2 (by decide) (hts _ w_24) (fun _ h9 => h9) rfl dX5_spur_60 ?_
            refine lv_aload_n hx hb dX5_spur_63 rfl (lv_at jl 0 rfl) ?_
            refine va_get (D := D) (ci := 5) (v := .ref uP) (C := RX5) (T := TX5) (N := 8) hx hb hts in5 hown jK.1 jP 0 rfl rfl 5 (by decide) (hts _ w_33) (fun _ h9 => h9) rfl dX5_spur_64 ?_
            refine lv_iconst (v := (0 : Int32)) hx hb dX5_spur_67 (by decide) ?_
            refine lv_iconst (v := (0 : Int32)) hx hb dX5_spur_68 (by decide) ?_
            refine lv_iload hx hb dX5_spur_69 (lv_at jl 4 rfl) ?_
            obtain ⟨t11, hc12, hv9⟩ := bd_some hv9
            refine callP (wc := (tW cI uT aT v9.2.2.2.1 v9.2.2.2.2.1 v9.2.2.2.2.2.1 v9.2.2.2.2.2.2.1 v9.2.2.2.2.2.2.2.1 v9.2.2.2.2.2.2.2.2 v9.2.2.1 ++ (sW cI uP aP t7.2.2.2.2.2.1 t7.2.2.2.2.2.2.1 t7.2.2.2.2.2.2.2.1 t7.2.2.2.2.2.2.2.2.1 t7.2.2.2.2.2.2.2.2.2 t7.1 t7.2.1 t7.2.2.1 t7.2.2.2.1 (upd t7.2.2.2.2.1 a1.toNatClampNeg (0 : Int32))))) (wr := (lW uL uE uD uT uV uS uP L_x6 L_x7 ++ (sW cI uS aS S_x5 S_x6 S_x7 S_x8 S_x9 S_r0 S_r1 S_r2 S_r3 S_r4))) (w1 := (tW cI uT aT t11.2.1 t11.2.2.1 t11.2.2.2.1 t11.2.2.2.2.1 t11.2.2.2.2.2.1 t11.2.2.2.2.2.2 t11.1 ++ (sW cI uP aP t7.2.2.2.2.2.1 t7.2.2.2.2.2.2.1 t7.2.2.2.2.2.2.2.1 t7.2.2.2.2.2.2.2.2.1 t7.2.2.2.2.2.2.2.2.2 t7.1 t7.2.1 t7.2.2.1 t7.2.2.2.1 (upd t7.2.2.2.2.1 a1.toNatClampNeg (0 : Int32))))) (ws1 := (lW uL uE uD uT uV uS uP L_x6 L_x7 ++ (tW cI uT aT t11.2.1 t11.2.2.1 t11.2.2.2.1 t11.2.2.2.2.1 t11.2.2.2.2.2.1 t11.2.2.2.2.2.2 t11.1 ++ (sW cI uS aS S_x5 S_x6 S_x7 S_x8 S_x9 S_r0 S_r1 S_r2 S_r3 S_r4 ++ (sW cI uP aP t7.2.2.2.2.2.1 t7.2.2.2.2.2.2.1 t7.2.2.2.2.2.2.2.1 t7.2.2.2.2.2.2.2.2.1 t7.2.2.2.2.2.2.2.2.2 t7.1 t7.2.1 t7.2.2.1 t7.2.2.2.1 (upd t7.2.2.2.2.1 a1.toNatClampNeg (0 : Int32))))))) (As := [.ref uP, .int (0 : Int32), .int (0 : Int32), .int v9.2.1]) (rest := []) (st1 := []) 0 [1, 2, 9, 10, 11, 12, 13, 14] [0, 3, 4, 5, 6, 7, 8] [0, 7, 8, 1, 2, 3, 4, 5, 6, 9, 10, 11, 12, 13, 14] F (kX4_make l D cI cB cS uT aT v9.2.2.2.1 v9.2.2.2.2.1 v9.2.2.2.2.2.1 v9.2.2.2.2.2.2.1 v9.2.2.2.2.2.2.2.1 v9.2.2.2.2.2.2.2.2 v9.2.2.1 uP aP t7.2.2.2.2.2.1 t7.2.2.2.2.2.2.1 t7.2.2.2.2.2.2.2.1 t7.2.2.2.2.2.2.2.2.1 t7.2.2.2.2.2.2.2.2.2 t7.1 t7.2.1 t7.2.2.1 t7.2.2.2.1 (upd t7.2.2.2.2.1 a1.toNatClampNeg (0 : Int32)) (0 : Int32) (0 : Int32) v9.2.1 _ hc12 ) okX4_make w_367 (by decide) (by decide) ⟨Nat.zero_le _, Nat.zero_le _⟩ rfl rfl rfl jP jD jS rfl jl.1 rfl rfl (Nat.le_of_ble_eq_true rfl) dX5_spur_71 rfl rfl (by decide) (by decide) (by decide) rfl (by decide) (fun H locs jP jD jS => ?_)
            refine lv_aload_n hx hb dX5_spur_74 rfl (lv_at jl 0 rfl) ?_
            refine va_get (D := D) (ci := 5) (v := .ref uT) (C := RX5) (T := TX5) (N := 8) hx hb hts in5 hown jK.1 jP 0 rfl rfl 2 (by decide) (hts _ w_24) (fun _ h9 => h9) rfl dX5_spur_75 ?_
            refine lv_iload_n hx hb dX5_spur_78 rfl (lv_at jl 2 rfl) ?_
            obtain ⟨t13, hc14, hv9⟩ := bd_some hv9
            refine callP (wc := (tW cI uT aT t11.2.1 t11.2.2.1 t11.2.2.2.1 t11.2.2.2.2.1 t11.2.2.2.2.2.1 t11.2.2.2.2.2.2 t11.1)) (wr := (lW uL uE uD uT uV uS uP L_x6 L_x7 ++ (sW cI uS aS S_x5 S_x6 S_x7 S_x8 S_x9 S_r0 S_r1 S_r2 S_r3 S_r4 ++ (sW cI uP aP t7.2.2.2.2.2.1 t7.2.2.2.2.2.2.1 t7.2.2.2.2.2.2.2.1 t7.2.2.2.2.2.2.2.2.1 t7.2.2.2.2.2.2.2.2.2 t7.1 t7.2.1 t7.2.2.1 t7.2.2.2.1 (upd t7.2.2.2.2.1 a1.toNatClampNeg (0 : Int32)))))) (w1 := (tW cI uT aT t11.2.1 t11.2.2.1 t11.2.2.2.1 t11.2.2.2.2.1 t11.2.2.2.2.2.1 t11.2.2.2.2.2.2 t11.1)) (ws1 := (lW uL uE uD uT uV uS uP L_x6 L_x7 ++ (tW cI uT aT t11.2.1 t11.2.2.1 t11.2.2.2.1 t11.2.2.2.2.1 t11.2.2.2.2.2.1 t11.2.2.2.2.2.2 t11.1 ++ (sW cI uS aS S_x5 S_x6 S_x7 S_x8 S_x9 S_r0 S_r1 S_r2 S_r3 S_r4 ++ (sW cI uP aP t7.2.2.2.2.2.1 t7.2.2.2.2.2.2.1 t7.2.2.2.2.2.2.2.1 t7.2.2.2.2.2.2.2.2.1 t7.2.2.2.2.2.2.2.2.2 t7.1 t7.2.1 t7.2.2.1 t7.2.2.2.1 (upd t7.2.2.2.2.1 a1.toNatClampNeg (0 : Int32))))))) (As := [.int t4]) (rest := []) (st1 := [.int t13]) 0 [1, 2] [0, 3, 4, 5, 6, 7, 8, 9, 10, 11, 12, 13, 14] [0, 13, 14, 1, 2, 3, 4, 5, 6, 7, 8, 9, 10, 11, 12] F (kX4_bringsAll l D cI cB cS uT aT t11.2.1 t11.2.2.1 t11.2.2.2.1 t11.2.2.2.2.1 t11.2.2.2.2.2.1 t11.2.2.2.2.2.2 t11.1 t4 _ hc14 ) okX4_bringsAll w_611 (by decide) (by decide) ⟨Nat.zero_le _, Nat.zero_le _⟩ rfl rfl rfl jP jD jS rfl jl.1 rfl rfl (Nat.le_of_ble_eq_true rfl) dX5_spur_79 rfl rfl (by decide) (by decide) (by decide) rfl (by decide) (fun H locs jP jD jS => ?_)
            obtain ⟨t24, hvt24, hv9⟩ := bd_some hv9
            have hJt24 : ∀ (H : Heap) (locs : List Loc) (ls : Array Slot), va_P D vwCl (lW uL uE uD uT uV uS uP L_x6 L_x7 ++ (tW cI uT aT t11.2.1 t11.2.2.1 t11.2.2.2.1 t11.2.2.2.2.1 t11.2.2.2.2.2.1 t11.2.2.2.2.2.2 t11.1 ++ (sW cI uS aS S_x5 S_x6 S_x7 S_x8 S_x9 S_r0 S_r1 S_r2 S_r3 S_r4 ++ (sW cI uP aP t7.2.2.2.2.2.1 t7.2.2.2.2.2.2.1 t7.2.2.2.2.2.2.2.1 t7.2.2.2.2.2.2.2.2.1 t7.2.2.2.2.2.2.2.2.2 t7.1 t7.2.1 t7.2.2.1 t7.2.2.2.1 (upd t7.2.2.2.2.1 a1.toNatClampNeg (0 : Int32)))))) H → va_D A (lW uL uE uD uT uV uS uP L_x6 L_x7 ++ (tW cI uT aT t11.2.1 t11.2.2.1 t11.2.2.2.1 t11.2.2.2.2.1 t11.2.2.2.2.2.1 t11.2.2.2.2.2.2 t11.1 ++ (sW cI uS aS S_x5 S_x6 S_x7 S_x8 S_x9 S_r0 S_r1 S_r2 S_r3 S_r4 ++ (sW cI uP aP t7.2.2.2.2.2.1 t7.2.2.2.2.2.2.1 t7.2.2.2.2.2.2.2.1 t7.2.2.2.2.2.2.2.2.1 t7.2.2.2.2.2.2.2.2.2 t7.1 t7.2.1 t7.2.2.1 t7.2.2.2.1 (upd t7.2.2.2.2.1 a1.toNatClampNeg (0 : Int32)))))) → va_S A s.heap H locs → lv_has ls 6 [(0, .ref uL), (1, .int a1), (2, .int t4), (3, .int t24), (4, .int v9.2.1)] → W p l e R s m ar below meth c H locs 0 0 QQ (F0 m 139 ls []) := by
              clear jP jD jS jl
              intro H locs ls jP jD jS jl
              refine lv_iinc (v := (v9.2.1 + (1 : Int32))) (lv' := [(4, .int (v9.2.1 + (1 : Int32))), (0, .ref uL), (1, .int a1), (2, .int t4), (3, .int t24)]) hx hb dX5_spur_139 jl (k := 4) rfl rfl (by decide) rfl (fun ls jl => ?_)
              refine lv_goto (tgt := 52) hx hb dX5_spur_142 (by decide) ?_
              obtain rfl := Option.some.inj hv9
              exact ih _ (nxt_l hq9) _ _ _ jP jD jS (lv_sub jl [1, 2, 3, 4, 0] rfl)
            clear hv9
            refine lv_if_eq (tgt := 139) hx hb dX5_spur_82 (by decide) (fun c15 => ?_) (fun c15 => ?_)
            · have hvt24 := itp c15 hvt24
              obtain rfl := Option.some.inj hvt24
              exact hJt24 _ _ _ jP jD jS (lv_sub jl [0, 1, 2, 3, 4] rfl)
            · have hvt24 := itn c15 hvt24
              refine lv_aload_n hx hb dX5_spur_85 rfl (lv_at jl 0 rfl) ?_
              refine va_get (D := D) (ci := 5) (v := .ref uT) (C := RX5) (T := TX5) (N := 8) hx hb hts in5 hown jK.1 jP 0 rfl rfl 2 (by decide) (hts _ w_24) (fun _ h9 => h9) rfl dX5_spur_86 ?_
              refine lv_iconst (v := (1 : Int32)) hx hb dX5_spur_89 (by decide) ?_
              refine lv_iload_n hx hb dX5_spur_90 rfl (lv_at jl 1 rfl) ?_
              refine lv_ishl hx hb dX5_spur_91 ?_
              obtain ⟨t16, hc17, hvt24⟩ := bd_some hvt24
              refine callP (wc := (tW cI uT aT t11.2.1 t11.2.2.1 t11.2.2.2.1 t11.2.2.2.2.1 t11.2.2.2.2.2.1 t11.2.2.2.2.2.2 t11.1)) (wr := (lW uL uE uD uT uV uS uP L_x6 L_x7 ++ (sW cI uS aS S_x5 S_x6 S_x7 S_x8 S_x9 S_r0 S_r1 S_r2 S_r3 S_r4 ++ (sW cI uP aP t7.2.2.2.2.2.1 t7.2.2.2.2.2.2.1 t7.2.2.2.2.2.2.2.1 t7.2.2.2.2.2.2.2.2.1 t7.2.2.2.2.2.2.2.2.2 t7.1 t7.2.1 t7.2.2.1 t7.2.2.2.1 (upd t7.2.2.2.2.1 a1.toNatClampNeg (0 : Int32)))))) (w1 := (tW cI uT aT t11.2.1 t11.2.2.1 t11.2.2.2.1 t11.2.2.2.2.1 t11.2.2.2.2.2.1 t11.2.2.2.2.2.2 t11.1)) (ws1 := (lW uL uE uD uT uV uS uP L_x6 L_x7 ++ (tW cI uT aT t11.2.1 t11.2.2.1 t11.2.2.2.1 t11.2.2.2.2.1 t11.2.2.2.2.2.1 t11.2.2.2.2.2.2 t11.1 ++ (sW cI uS aS S_x5 S_x6 S_x7 S_x8 S_x9 S_r0 S_r1 S_r2 S_r3 S_r4 ++ (sW cI uP aP t7.2.2.2.2.2.1 t7.2.2.2.2.2.2.1 t7.2.2.2.2.2.2.2.1 t7.2.2.2.2.2.2.2.2.1 t7.2.2.2.2.2.2.2.2.2 t7.1 t7.2.1 t7.2.2.1 t7.2.2.2.1 (upd t7.2.2.2.2.1 a1.toNatClampNeg (0 : Int32))))))) (As := [.int ((1 : Int32) <<< (a1 &&& 31))]) (rest := []) (st1 := [.int t16]) 0 [1, 2] [0, 3, 4, 5, 6, 7, 8, 9, 10, 11, 12, 13, 14] [0, 13, 14, 1, 2, 3, 4, 5, 6, 7, 8, 9, 10, 11, 12] F (kX4_bringsAll l D cI cB cS uT aT t11.2.1 t11.2.2.1 t11.2.2.2.1 t11.2.2.2.2.1 t11.2.2.2.2.2.1 t11.2.2.2.2.2.2 t11.1 ((1 : Int32) <<< (a1 &&& 31)) _ hc17 ) okX4_bringsAll w_611 (by decide) (by decide) ⟨Nat.zero_le _, Nat.zero_le _⟩ rfl rfl rfl jP jD jS rfl jl.1 rfl rfl (Nat.le_of_ble_eq_true rfl) dX5_spur_92 rfl rfl (by decide) (by decide) (by decide) rfl (by decide) (fun H locs jP jD jS => ?_)
              obtain ⟨t19, hvt19, hvt24⟩ := bd_some hvt24
              have hJt19 : ∀ (H : Heap) (locs : List Loc) (ls : Array Slot), va_P D vwCl (lW uL uE uD uT uV uS uP L_x6 L_x7 ++ (tW cI uT aT t11.2.1 t11.2.2.1 t11.2.2.2.1 t11.2.2.2.2.1 t11.2.2.2.2.2.1 t11.2.2.2.2.2.2 t11.1 ++ (sW cI uS aS S_x5 S_x6 S_x7 S_x8 S_x9 S_r0 S_r1 S_r2 S_r3 S_r4 ++ (sW cI uP aP t7.2.2.2.2.2.1 t7.2.2.2.2.2.2.1 t7.2.2.2.2.2.2.2.1 t7.2.2.2.2.2.2.2.2.1 t7.2.2.2.2.2.2.2.2.2 t7.1 t7.2.1 t7.2.2.1 t7.2.2.2.1 (upd t7.2.2.2.2.1 a1.toNatClampNeg (0 : Int32)))))) H → va_D A (lW uL uE uD uT uV uS uP L_x6 L_x7 ++ (tW cI uT aT t11.2.1 t11.2.2.1 t11.2.2.2.1 t11.2.2.2.2.1 t11.2.2.2.2.2.1 t11.2.2.2.2.2.2 t11.1 ++ (sW cI uS aS S_x5 S_x6 S_x7 S_x8 S_x9 S_r0 S_r1 S_r2 S_r3 S_r4 ++ (sW cI uP aP t7.2.2.2.2.2.1 t7.2.2.2.2.2.2.1 t7.2.2.2.2.2.2.2.1 t7.2.2.2.2.2.2.2.2.1 t7.2.2.2.2.2.2.2.2.2 t7.1 t7.2.1 t7.2.2.1 t7.2.2.2.1 (upd t7.2.2.2.2.1 a1.toNatClampNeg (0 : Int32)))))) → va_S A s.heap H locs → lv_has ls 6 [(0, .ref uL), (1, .int a1), (2, .int t4), (3, .int v9.1), (4, .int v9.2.1)] → W p l e R s m ar below meth c H locs 0 0 QQ (F0 m 118 ls [.int t19]) := by
                clear jP jD jS jl
                intro H locs ls jP jD jS jl
                refine lv_istore (lv' := [(5, .int t19), (0, .ref uL), (1, .int a1), (2, .int t4), (3, .int v9.1), (4, .int v9.2.1)]) hx hb dX5_spur_118 jl (by decide) rfl (fun ls jl => ?_)
                refine lv_iload_n hx hb dX5_spur_120 rfl (lv_at jl 4 rfl) ?_
                refine lv_aload_n hx hb dX5_spur_121 rfl (lv_at jl 1 rfl) ?_
                refine va_get (D := D) (ci := 5) (v := .ref uT) (C := RX5) (T := TX5) (N := 8) hx hb hts in5 hown jK.1 jP 0 rfl rfl 2 (by decide) (hts _ w_24) (fun _ h9 => h9) rfl dX5_spur_122 ?_
                refine lv_iload hx hb dX5_spur_125 (lv_at jl 5 rfl) ?_
                obtain ⟨t20, hc21, hvt24⟩ := bd_some hvt24
                refine callP (wc := (tW cI uT aT t11.2.1 t11.2.2.1 t11.2.2.2.1 t11.2.2.2.2.1 t11.2.2.2.2.2.1 t11.2.2.2.2.2.2 t11.1)) (wr := (lW uL uE uD uT uV uS uP L_x6 L_x7 ++ (sW cI uS aS S_x5 S_x6 S_x7 S_x8 S_x9 S_r0 S_r1 S_r2 S_r3 S_r4 ++ (sW cI uP aP t7.2.2.2.2.2.1 t7.2.2.2.2.2.2.1 t7.2.2.2.2.2.2.2.1 t7.2.2.2.2.2.2.2.2.1 t7.2.2.2.2.2.2.2.2.2 t7.1 t7.2.1 t7.2.2.1 t7.2.2.2.1 (upd t7.2.2.2.2.1 a1.toNatClampNeg (0 : Int32)))))) (w1 := (tW cI uT aT t11.2.1 t11.2.2.1 t11.2.2.2.1 t11.2.2.2.2.1 t11.2.2.2.2.2.1 t11.2.2.2.2.2.2 t11.1)) (ws1 := (lW uL uE uD uT uV uS uP L_x6 L_x7 ++ (tW cI uT aT t11.2.1 t11.2.2.1 t11.2.2.2.1 t11.2.2.2.2.1 t11.2.2.2.2.2.1 t11.2.2.2.2.2.2 t11.1 ++ (sW cI uS aS S_x5 S_x6 S_x7 S_x8 S_x9 S_r0 S_r1 S_r2 S_r3 S_r4 ++ (sW cI uP aP t7.2.2.2.2.2.1 t7.2.2.2.2.2.2.1 t7.2.2.2.2.2.2.2.1 t7.2.2.2.2.2.2.2.2.1 t7.2.2.2.2.2.2.2.2.2 t7.1 t7.2.1 t7.2.2.1 t7.2.2.2.1 (upd t7.2.2.2.2.1 a1.toNatClampNeg (0 : Int32))))))) (As := [.int v9.2.1]) (rest := [.int v9.1]) (st1 := [.int t20, .int v9.1]) 0 [1, 2] [0, 3, 4, 5, 6, 7, 8, 9, 10, 11, 12, 13, 14] [0, 13, 14, 1, 2, 3, 4, 5, 6, 7, 8, 9, 10, 11, 12] F (kX4_lackAt l D cI cB cS uT aT t11.2.1 t11.2.2.1 t11.2.2.2.1 t11.2.2.2.2.1 t11.2.2.2.2.2.1 t11.2.2.2.2.2.2 t11.1 v9.2.1 _ hc21 ) okX4_lackAt w_653 (by decide) (by decide) ⟨Nat.zero_le _, Nat.zero_le _⟩ rfl rfl rfl jP jD jS rfl jl.1 rfl rfl (Nat.le_of_ble_eq_true rfl) dX5_spur_127 rfl rfl (by decide) (by decide) (by decide) rfl (by decide) (fun H locs jP jD jS => ?_)
                refine lv_iload hx hb dX5_spur_130 (lv_at jl 0 rfl) ?_
                obtain ⟨t22, hc23, hvt24⟩ := bd_some hvt24
                refine call0 (As := [.int t20, .int t19]) (rest := [.int v9.1]) (st1 := [.int t22, .int v9.1]) F (kX5_fewestSteps l D cI cB cS  t20 t19 _ hc23 ) okX5_fewestSteps w_635 (by decide) (by decide) ⟨Nat.zero_le _, Nat.zero_le _⟩ jP jD jS rfl jl.1 rfl rfl (Nat.le_of_ble_eq_true rfl) dX5_spur_132 (fun H locs jP jD jS => ?_)
                refine va_mmin hx hb (hml.trans jl.1.symm) hown (hts _ w_650) (hts _ w_651) (hts _ w_305) (hts _ w_652) (Nat.le_trans (by decide) hf1) (Nat.le_trans (Nat.le_of_ble_eq_true rfl) hf2) (Nat.zero_le _) (Nat.zero_le _) dX5_spur_135 ?_
                refine lv_istore_n (lv' := [(3, .int (if t22 < v9.1 then t22 else v9.1)), (5, .int t19), (0, .ref uL), (1, .int a1), (2, .int t4), (4, .int v9.2.1)]) hx hb dX5_spur_138 rfl jl (by decide) rfl (fun ls jl => ?_)
                obtain rfl := Option.some.inj hvt24
                exact hJt24 _ _ _ jP jD jS (lv_sub jl [2, 3, 4, 0, 5] rfl)
              clear hvt24
              refine lv_if_eq (tgt := 102) hx hb dX5_spur_95 (by decide) (fun c18 => ?_) (fun c18 => ?_)
              · have hvt19 := itp c18 hvt19
                refine lv_sipush (v := (8000 : Int32)) hx hb dX5_spur_102 (by decide) ?_
                refine lv_aload_n hx hb dX5_spur_105 rfl (lv_at jl 0 rfl) ?_
                refine va_get (D := D) (ci := 5) (v := .ref uP) (C := RX5) (T := TX5) (N := 8) hx hb hts in5 hown jK.1 jP 0 rfl rfl 5 (by decide) (hts _ w_33) (fun _ h9 => h9) rfl dX5_spur_106 ?_
                refine va_get (D := D) (ci := 2) (v := .ref (aP 2)) (C := RX2) (T := TX2) (N := 10) hx hb hts in2 hown jK.1 jP 9 rfl rfl 2 (by decide) (hts _ w_648) (fun _ h9 => h9) rfl dX5_spur_109 ?_
                refine lv_iload_n hx hb dX5_spur_112 rfl (lv_at jl 1 rfl) ?_
                obtain ⟨hin, hvt19⟩ := ckI_some hvt19
                refine va_iald (f := t7.2.2.1) hx hb jK.1 jP 12 0 rfl rfl hin dX5_spur_113 ?_
                refine lv_iload hx hb dX5_spur_114 (lv_at jl 4 rfl) ?_
                refine lv_isub hx hb dX5_spur_116 ?_
                refine lv_imul hx hb dX5_spur_117 ?_
                obtain rfl := Option.some.inj hvt19
                exact hJt19 _ _ _ jP jD jS (lv_sub jl [0, 1, 2, 3, 4] rfl)
              · have hvt19 := itn c18 hvt19
                refine lv_iconst (v := (0 : Int32)) hx hb dX5_spur_98 (by decide) ?_
                refine lv_goto (tgt := 118) hx hb dX5_spur_99 (by decide) ?_
                obtain rfl := Option.some.inj hvt19
                exact hJt19 _ _ _ jP jD jS (lv_sub jl [0, 1, 2, 3, 4] rfl)
      exact hL9 1000 _ hT9 _ _ _ jP jD jS (lv_sub jl [3, 4, 2, 1, 0] rfl)
    · have h := itp c6 h
      refine lv_bipush (v := (-4 : Int32)) hx hb dX5_spur_22 (by decide) ?_
      obtain rfl := Option.some.inj h
      exact hRet _ _ _ _ jP jD jS dX5_spur_24
  · have h := itp c3 h
    refine lv_iconst (v := (-1 : Int32)) hx hb dX5_spur_8 (by decide) ?_
    obtain rfl := Option.some.inj h
    exact hRet _ _ _ _ jP jD jS dX5_spur_9
theorem okX5_goTogether : okV yX5_goTogether cX5_goTogether 4 (some .boolean) 1 := ⟨w_677, w_678, w_679, w_2, by decide, by decide, by decide +kernel⟩
def fX5_goTogether (S_x5 : Int32) (a1 : Int32) : Option Int32 :=
  bd (fJ6_bitCount_0f7a4 (a1 &&& (11 : Int32))) (fun t1 => bd (if (1 : Int32) < t1 then (some (0 : Int32)) else (some (1 : Int32))) (fun t4 => bd (if (a1 &&& (4 : Int32)) = (0 : Int32) then (some (1 : Int32)) else (if S_x5 ≤ (0 : Int32) then (some (0 : Int32)) else (some (1 : Int32)))) (fun t7 => bd (fX5_isWithin a1 (0 : Int32) (15 : Int32)) (fun t8 => if t8 = (0 : Int32) then (some (0 : Int32)) else (if t4 = (0 : Int32) then (some (0 : Int32)) else (if t7 = (0 : Int32) then (some (0 : Int32)) else (some (1 : Int32))))))))
set_option maxRecDepth 100000 in
set_option maxHeartbeats 4000000 in
theorem kX5_goTogether (l : Launch) (D : va_G) (cI cB cS : ClassId) (uL : Nat) (L_x6 : Int32) (L_x7 : Int32) (uS : Nat) (aS : Nat → Nat) (S_x5 : Int32) (S_x6 : Int32) (S_x7 : Int32) (S_x8 : Int32) (S_x9 : Int32) (S_r0 : (Nat → Int32)) (S_r1 : (Nat → Int32)) (S_r2 : (Nat → Int32)) (S_r3 : (Nat → Int32)) (S_r4 : (Nat → Int32)) (uE : Nat) (uD : Nat) (uT : Nat) (uV : Nat) (uP : Nat) (a1 : Int32) (z : Int32) (h : fX5_goTogether S_x5 a1 = some z) : Mt l yX5_goTogether cX5_goTogether 4 (some .boolean) 1 22 D cI cB cS (lW uL uE uD uT uV uS uP L_x6 L_x7 ++ (sW cI uS aS S_x5 S_x6 S_x7 S_x8 S_x9 S_r0 S_r1 S_r2 S_r3 S_r4)) (lW uL uE uD uT uV uS uP L_x6 L_x7 ++ (sW cI uS aS S_x5 S_x6 S_x7 S_x8 S_x9 S_r0 S_r1 S_r2 S_r3 S_r4)) [.ref uL, .int a1] (some (.int z)) := by
  refine entryZ (by decide +kernel) rfl (Nat.le_of_ble_eq_true rfl) ?_
  intro p e s m below meth c A ls QQ R ar F hRet jP jD jS jl
  obtain ⟨hx, hb, hml, hown, hts, jK, hA, hf1, hf2⟩ := id F
  have jl : lv_has ls 4 [(0, .ref uL), (1, .int a1)] := jl
  unfold fX5_goTogether at h
  refine lv_iload_n hx hb dX5_goTogether_0 rfl (lv_at jl 1 rfl) ?_
  refine lv_bipush (v := (11 : Int32)) hx hb dX5_goTogether_1 (by decide) ?_
  refine lv_iand hx hb dX5_goTogether_3 ?_
  obtain ⟨t1, hc2, h⟩ := bd_some h
  refine call0 (As := [.int (a1 &&& (11 : Int32))]) (rest := []) (st1 := [.int t1]) F (kJ6_bitCount_0f7a4 l D cI cB cS  (a1 &&& (11 : Int32)) _ hc2 ) okJ6_bitCount_0f7a4 w_680 (by decide) (by decide) ⟨Nat.zero_le _, Nat.zero_le _⟩ jP jD jS rfl jl.1 rfl rfl (Nat.le_of_ble_eq_true rfl) dX5_goTogether_4 (fun H locs jP jD jS => ?_)
  refine lv_iconst (v := (1 : Int32)) hx hb dX5_goTogether_7 (by decide) ?_
  obtain ⟨t4, hvt4, h⟩ := bd_some h
  have hJt4 : ∀ (H : Heap) (locs : List Loc) (ls : Array Slot), va_P D vwCl (lW uL uE uD uT uV uS uP L_x6 L_x7 ++ (sW cI uS aS S_x5 S_x6 S_x7 S_x8 S_x9 S_r0 S_r1 S_r2 S_r3 S_r4)) H → va_D A (lW uL uE uD uT uV uS uP L_x6 L_x7 ++ (sW cI uS aS S_x5 S_x6 S_x7 S_x8 S_x9 S_r0 S_r1 S_r2 S_r3 S_r4)) → va_S A s.heap H locs → lv_has ls 4 [(0, .ref uL), (1, .int a1)] → W p l e R s m ar below meth c H locs 0 0 QQ (F0 m 16 ls [.int t4]) := by
    clear jP jD jS jl
    intro H locs ls jP jD jS jl
    refine lv_istore_n (lv' := [(2, .int t4), (0, .ref uL), (1, .int a1)]) hx hb dX5_goTogether_16 rfl jl (by decide) rfl (fun ls jl => ?_)
    refine lv_iload_n hx hb dX5_goTogether_17 rfl (lv_at jl 2 rfl) ?_
    refine lv_iconst (v := (4 : Int32)) hx hb dX5_goTogether_18 (by decide) ?_
    refine lv_iand hx hb dX5_goTogether_19 ?_
    obtain ⟨t7, hvt7, h⟩ := bd_some h
    have hJt7 : ∀ (H : Heap) (locs : List Loc) (ls : Array Slot), va_P D vwCl (lW uL uE uD uT uV uS uP L_x6 L_x7 ++ (sW cI uS aS S_x5 S_x6 S_x7 S_x8 S_x9 S_r0 S_r1 S_r2 S_r3 S_r4)) H → va_D A (lW uL uE uD uT uV uS uP L_x6 L_x7 ++ (sW cI uS aS S_x5 S_x6 S_x7 S_x8 S_x9 S_r0 S_r1 S_r2 S_r3 S_r4)) → va_S A s.heap H locs → lv_has ls 4 [(1, .int a1), (2, .int t4)] → W p l e R s m ar below meth c H locs 0 0 QQ (F0 m 38 ls [.int t7]) := by
      clear jP jD jS jl
      intro H locs ls jP jD jS jl
      refine lv_istore_n (lv' := [(3, .int t7), (1, .int a1), (2, .int t4)]) hx hb dX5_goTogether_38 rfl jl (by decide) rfl (fun ls jl => ?_)
      refine lv_iload_n hx hb dX5_goTogether_39 rfl (lv_at jl 1 rfl) ?_
      refine lv_iconst (v := (0 : Int32)) hx hb dX5_goTogether_40 (by decide) ?_
      refine lv_bipush (v := (15 : Int32)) hx hb dX5_goTogether_41 (by decide) ?_
      obtain ⟨t8, hc9, h⟩ := bd_some h
      refine call0 (As := [.int a1, .int (0 : Int32), .int (15 : Int32)]) (rest := []) (st1 := [.int t8]) F (kX5_isWithin l D cI cB cS  a1 (0 : Int32) (15 : Int32) _ hc9 ) okX5_isWithin w_105 (by decide) (by decide) ⟨Nat.zero_le _, Nat.zero_le _⟩ jP jD jS rfl jl.1 rfl rfl (Nat.le_of_ble_eq_true rfl) dX5_goTogether_43 (fun H locs jP jD jS => ?_)
      refine lv_if_eq (tgt := 61) hx hb dX5_goTogether_46 (by decide) (fun c10 => ?_) (fun c10 => ?_)
      · have h := itp c10 h
        refine lv_iconst (v := (0 : Int32)) hx hb dX5_goTogether_61 (by decide) ?_
        obtain rfl := Option.some.inj h
        exact hRet _ _ _ _ (Or.inl rfl) jP jD jS dX5_goTogether_62
      · have h := itn c10 h
        refine lv_iload_n hx hb dX5_goTogether_49 rfl (lv_at jl 2 rfl) ?_
        refine lv_if_eq (tgt := 61) hx hb dX5_goTogether_50 (by decide) (fun c11 => ?_) (fun c11 => ?_)
        · have h := itp c11 h
          refine lv_iconst (v := (0 : Int32)) hx hb dX5_goTogether_61 (by decide) ?_
          obtain rfl := Option.some.inj h
          exact hRet _ _ _ _ (Or.inl rfl) jP jD jS dX5_goTogether_62
        · have h := itn c11 h
          refine lv_iload_n hx hb dX5_goTogether_53 rfl (lv_at jl 0 rfl) ?_
          refine lv_if_eq (tgt := 61) hx hb dX5_goTogether_54 (by decide) (fun c12 => ?_) (fun c12 => ?_)
          · have h := itp c12 h
            refine lv_iconst (v := (0 : Int32)) hx hb dX5_goTogether_61 (by decide) ?_
            obtain rfl := Option.some.inj h
            exact hRet _ _ _ _ (Or.inl rfl) jP jD jS dX5_goTogether_62
          · have h := itn c12 h
            refine lv_iconst (v := (1 : Int32)) hx hb dX5_goTogether_57 (by decide) ?_
            refine lv_goto (tgt := 62) hx hb dX5_goTogether_58 (by decide) ?_
            obtain rfl := Option.some.inj h
            exact hRet _ _ _ _ (Or.inr rfl) jP jD jS dX5_goTogether_62
    clear h
    refine lv_if_eq (tgt := 33) hx hb dX5_goTogether_20 (by decide) (fun c5 => ?_) (fun c5 => ?_)
    · have hvt7 := itp c5 hvt7
      refine lv_iconst (v := (1 : Int32)) hx hb dX5_goTogether_33 (by decide) ?_
      refine lv_goto (tgt := 38) hx hb dX5_goTogether_34 (by decide) ?_
      obtain rfl := Option.some.inj hvt7
      exact hJt7 _ _ _ jP jD jS (lv_sub jl [2, 0] rfl)
    · have hvt7 := itn c5 hvt7
      refine lv_aload_n hx hb dX5_goTogether_23 rfl (lv_at jl 1 rfl) ?_
      refine va_get (D := D) (ci := 5) (v := .ref uS) (C := RX5) (T := TX5) (N := 8) hx hb hts in5 hown jK.1 jP 0 rfl rfl 4 (by decide) (hts _ w_32) (fun _ h9 => h9) rfl dX5_goTogether_24 ?_
      refine va_get (D := D) (ci := 2) (v := .int S_x5) (C := RX2) (T := TX2) (N := 10) hx hb hts in2 hown jK.1 jP 1 rfl rfl 5 (by decide) (hts _ w_276) (fun _ h9 => h9) rfl dX5_goTogether_27 ?_
      refine lv_if_le (tgt := 37) hx hb dX5_goTogether_30 (by decide) (fun c6 => ?_) (fun c6 => ?_)
      · have hvt7 := itp c6 hvt7
        refine lv_iconst (v := (0 : Int32)) hx hb dX5_goTogether_37 (by decide) ?_
        obtain rfl := Option.some.inj hvt7
        exact hJt7 _ _ _ jP jD jS (lv_sub jl [2, 0] rfl)
      · have hvt7 := itn c6 hvt7
        refine lv_iconst (v := (1 : Int32)) hx hb dX5_goTogether_33 (by decide) ?_
        refine lv_goto (tgt := 38) hx hb dX5_goTogether_34 (by decide) ?_
        obtain rfl := Option.some.inj hvt7
        exact hJt7 _ _ _ jP jD jS (lv_sub jl [2, 0] rfl)
  clear h
  refine lv_icmp_gt (tgt := 15) hx hb dX5_goTogether_8 (by decide) (fun c3 => ?_) (fun c3 => ?_)
  · have hvt4 := itp c3 hvt4
    refine lv_iconst (v := (0 : Int32)) hx hb dX5_goTogether_15 (by decide) ?_
    obtain rfl := Option.some.inj hvt4
    exact hJt4 _ _ _ jP jD jS (lv_sub jl [0, 1] rfl)
  · have hvt4 := itn c3 hvt4
    refine lv_iconst (v := (1 : Int32)) hx hb dX5_goTogether_11 (by decide) ?_
    refine lv_goto (tgt := 16) hx hb dX5_goTogether_12 (by decide) ?_
    obtain rfl := Option.some.inj hvt4
    exact hJt4 _ _ _ jP jD jS (lv_sub jl [0, 1] rfl)
theorem okX5_leftBy : okV yX5_leftBy cX5_leftBy 2 (some (.object "LemonMarket$Stock")) 1 := ⟨w_692, w_693, w_694, w_2, by decide, by decide, by decide +kernel⟩
def fX5_leftBya (a1 : Int32) : Option Unit :=
  some ()
set_option maxRecDepth 100000 in
set_option maxHeartbeats 4000000 in
theorem kX5_leftBya (l : Launch) (D : va_G) (cI cB cS : ClassId) (uL : Nat) (L_x6 : Int32) (L_x7 : Int32) (uS : Nat) (aS : Nat → Nat) (S_x5 : Int32) (S_x6 : Int32) (S_x7 : Int32) (S_x8 : Int32) (S_x9 : Int32) (S_r0 : (Nat → Int32)) (S_r1 : (Nat → Int32)) (S_r2 : (Nat → Int32)) (S_r3 : (Nat → Int32)) (S_r4 : (Nat → Int32)) (uP : Nat) (aP : Nat → Nat) (P_x5 : Int32) (P_x6 : Int32) (P_x7 : Int32) (P_x8 : Int32) (P_x9 : Int32) (P_r0 : (Nat → Int32)) (P_r1 : (Nat → Int32)) (P_r2 : (Nat → Int32)) (P_r3 : (Nat → Int32)) (P_r4 : (Nat → Int32)) (uE : Nat) (uD : Nat) (uT : Nat) (uV : Nat) (a1 : Int32) (z : Unit) (h : fX5_leftBya a1 = some z) (hb4 : (a1 &&& (4 : Int32)) = (0 : Int32)) : Mt l yX5_leftBy cX5_leftBy 2 (some (.object "LemonMarket$Stock")) 0 0 D cI cB cS (lW uL uE uD uT uV uS uP L_x6 L_x7 ++ (sW cI uS aS S_x5 S_x6 S_x7 S_x8 S_x9 S_r0 S_r1 S_r2 S_r3 S_r4 ++ (sW cI uP aP P_x5 P_x6 P_x7 P_x8 P_x9 P_r0 P_r1 P_r2 P_r3 P_r4))) (lW uL uE uD uT uV uS uP L_x6 L_x7 ++ (sW cI uS aS S_x5 S_x6 S_x7 S_x8 S_x9 S_r0 S_r1 S_r2 S_r3 S_r4 ++ (sW cI uP aP P_x5 P_x6 P_x7 P_x8 P_x9 P_r0 P_r1 P_r2 P_r3 P_r4))) [.ref uL, .int a1] (some (.ref uS)) := by
  refine entryA (by decide +kernel) rfl (Nat.le_of_ble_eq_true rfl) (Or.inl ⟨_, rfl⟩) ?_
  intro p e s m below meth c A ls QQ R ar F hRet jP jD jS jl
  obtain ⟨hx, hb, hml, hown, hts, jK, hA, hf1, hf2⟩ := id F
  have jl : lv_has ls 2 [(0, .ref uL), (1, .int a1)] := jl
  unfold fX5_leftBya at h
  refine lv_iload_n hx hb dX5_leftBy_0 rfl (lv_at jl 1 rfl) ?_
  refine lv_iconst (v := (4 : Int32)) hx hb dX5_leftBy_1 (by decide) ?_
  refine lv_iand hx hb dX5_leftBy_2 ?_
  refine lv_if_ne (tgt := 11) hx hb dX5_leftBy_3 (by decide) (fun q => absurd hb4 q) (fun _ => ?_)
  refine lv_aload_n hx hb dX5_leftBy_6 rfl (lv_at jl 0 rfl) ?_
  refine va_get (D := D) (ci := 5) (v := .ref uS) (C := RX5) (T := TX5) (N := 8) hx hb hts in5 hown jK.1 jP 0 rfl rfl 4 (by decide) (hts _ w_32) (fun _ h9 => h9) rfl dX5_leftBy_7 ?_
  obtain rfl := Option.some.inj h
  exact hRet _ _ _ _ jP jD jS dX5_leftBy_10
def fX5_leftByb (P_r0 : (Nat → Int32)) (P_r1 : (Nat → Int32)) (P_r2 : (Nat → Int32)) (P_r3 : (Nat → Int32)) (P_r4 : (Nat → Int32)) (S_r0 : (Nat → Int32)) (S_r1 : (Nat → Int32)) (S_r2 : (Nat → Int32)) (S_r3 : (Nat → Int32)) (S_r4 : (Nat → Int32)) (S_x5 : Int32) (S_x6 : Int32) (S_x7 : Int32) (S_x8 : Int32) (S_x9 : Int32) (a1 : Int32) : Option ((Nat → Int32) × (Nat → Int32) × (Nat → Int32) × (Nat → Int32) × (Nat → Int32) × Int32 × Int32 × Int32 × Int32 × Int32) :=
  bd (fX2_copy (S_r0) (S_r1) (S_r2) (S_r3) (S_r4) (S_x5) (S_x6) (S_x7) (S_x8) (S_x9) (P_r0) (P_r1) (P_r2) (P_r3) (P_r4)) (fun t1 => bd (fX2_worst (S_r2) (S_x5)) (fun t3 => bd (fX2_remove t1.1 t1.2.1 t1.2.2.1 t1.2.2.2.1 t1.2.2.2.2.1 t1.2.2.2.2.2.1 t3) (fun t5 => some (t5.1, t5.2.1, t5.2.2.1, t5.2.2.2.1, t5.2.2.2.2.1, t5.2.2.2.2.2, t1.2.2.2.2.2.2.1, t1.2.2.2.2.2.2.2.1, t1.2.2.2.2.2.2.2.2.1, t1.2.2.2.2.2.2.2.2.2))))
set_option maxRecDepth 100000 in
set_option maxHeartbeats 4000000 in
theorem kX5_leftByb (l : Launch) (D : va_G) (cI cB cS : ClassId) (uL : Nat) (L_x6 : Int32) (L_x7 : Int32) (uS : Nat) (aS : Nat → Nat) (S_x5 : Int32) (S_x6 : Int32) (S_x7 : Int32) (S_x8 : Int32) (S_x9 : Int32) (S_r0 : (Nat → Int32)) (S_r1 : (Nat → Int32)) (S_r2 : (Nat → Int32)) (S_r3 : (Nat → Int32)) (S_r4 : (Nat → Int32)) (uP : Nat) (aP : Nat → Nat) (P_x5 : Int32) (P_x6 : Int32) (P_x7 : Int32) (P_x8 : Int32) (P_x9 : Int32) (P_r0 : (Nat → Int32)) (P_r1 : (Nat → Int32)) (P_r2 : (Nat → Int32)) (P_r3 : (Nat → Int32)) (P_r4 : (Nat → Int32)) (uE : Nat) (uD : Nat) (uT : Nat) (uV : Nat) (a1 : Int32) (z : ((Nat → Int32) × (Nat → Int32) × (Nat → Int32) × (Nat → Int32) × (Nat → Int32) × Int32 × Int32 × Int32 × Int32 × Int32)) (h : fX5_leftByb P_r0 P_r1 P_r2 P_r3 P_r4 S_r0 S_r1 S_r2 S_r3 S_r4 S_x5 S_x6 S_x7 S_x8 S_x9 a1 = some z) (hb4 : ¬ (a1 &&& (4 : Int32)) = (0 : Int32)) : Mt l yX5_leftBy cX5_leftBy 2 (some (.object "LemonMarket$Stock")) 2 83 D cI cB cS (lW uL uE uD uT uV uS uP L_x6 L_x7 ++ (sW cI uS aS S_x5 S_x6 S_x7 S_x8 S_x9 S_r0 S_r1 S_r2 S_r3 S_r4 ++ (sW cI uP aP P_x5 P_x6 P_x7 P_x8 P_x9 P_r0 P_r1 P_r2 P_r3 P_r4))) (lW uL uE uD uT uV uS uP L_x6 L_x7 ++ (sW cI uS aS S_x5 S_x6 S_x7 S_x8 S_x9 S_r0 S_r1 S_r2 S_r3 S_r4 ++ (sW cI uP aP z.2.2.2.2.2.1 z.2.2.2.2.2.2.1 z.2.2.2.2.2.2.2.1 z.2.2.2.2.2.2.2.2.1 z.2.2.2.2.2.2.2.2.2 z.1 z.2.1 z.2.2.1 z.2.2.2.1 z.2.2.2.2.1))) [.ref uL, .int a1] (some (.ref uP)) := by
  refine entryA (by decide +kernel) rfl (Nat.le_of_ble_eq_true rfl) (Or.inl ⟨_, rfl⟩) ?_
  intro p e s m below meth c A ls QQ R ar F hRet jP jD jS jl
  obtain ⟨hx, hb, hml, hown, hts, jK, hA, hf1, hf2⟩ := id F
  have jl : lv_has ls 2 [(0, .ref uL), (1, .int a1)] := jl
  unfold fX5_leftByb at h
  refine lv_iload_n hx hb dX5_leftBy_0 rfl (lv_at jl 1 rfl) ?_
  refine lv_iconst (v := (4 : Int32)) hx hb dX5_leftBy_1 (by decide) ?_
  refine lv_iand hx hb dX5_leftBy_2 ?_
  refine lv_if_ne (tgt := 11) hx hb dX5_leftBy_3 (by decide) (fun _ => ?_) (fun q => absurd q hb4)
  refine lv_aload_n hx hb dX5_leftBy_11 rfl (lv_at jl 0 rfl) ?_
  refine va_get (D := D) (ci := 5) (v := .ref uP) (C := RX5) (T := TX5) (N := 8) hx hb hts in5 hown jK.1 jP 0 rfl rfl 5 (by decide) (hts _ w_33) (fun _ h9 => h9) rfl dX5_leftBy_12 ?_
  refine lv_aload_n hx hb dX5_leftBy_15 rfl (lv_at jl 0 rfl) ?_
  refine va_get (D := D) (ci := 5) (v := .ref uS) (C := RX5) (T := TX5) (N := 8) hx hb hts in5 hown jK.1 jP 0 rfl rfl 4 (by decide) (hts _ w_32) (fun _ h9 => h9) rfl dX5_leftBy_16 ?_
  obtain ⟨t1, hc2, h⟩ := bd_some h
  refine callP (wc := (sW cI uP aP P_x5 P_x6 P_x7 P_x8 P_x9 P_r0 P_r1 P_r2 P_r3 P_r4 ++ (sW cI uS aS S_x5 S_x6 S_x7 S_x8 S_x9 S_r0 S_r1 S_r2 S_r3 S_r4))) (wr := (lW uL uE uD uT uV uS uP L_x6 L_x7)) (w1 := (sW cI uP aP t1.2.2.2.2.2.1 t1.2.2.2.2.2.2.1 t1.2.2.2.2.2.2.2.1 t1.2.2.2.2.2.2.2.2.1 t1.2.2.2.2.2.2.2.2.2 t1.1 t1.2.1 t1.2.2.1 t1.2.2.2.1 t1.2.2.2.2.1 ++ (sW cI uS aS S_x5 S_x6 S_x7 S_x8 S_x9 S_r0 S_r1 S_r2 S_r3 S_r4))) (ws1 := (lW uL uE uD uT uV uS uP L_x6 L_x7 ++ (sW cI uS aS S_x5 S_x6 S_x7 S_x8 S_x9 S_r0 S_r1 S_r2 S_r3 S_r4 ++ (sW cI uP aP t1.2.2.2.2.2.1 t1.2.2.2.2.2.2.1 t1.2.2.2.2.2.2.2.1 t1.2.2.2.2.2.2.2.2.1 t1.2.2.2.2.2.2.2.2.2 t1.1 t1.2.1 t1.2.2.1 t1.2.2.2.1 t1.2.2.2.2.1)))) (As := [.ref uS]) (rest := []) (st1 := []) 0 [7, 8, 9, 10, 11, 12, 1, 2, 3, 4, 5, 6] [0] [0, 7, 8, 9, 10, 11, 12, 1, 2, 3, 4, 5, 6] F (kX2_copy l D cI cB cS uP aP P_x5 P_x6 P_x7 P_x8 P_x9 P_r0 P_r1 P_r2 P_r3 P_r4 uS aS S_x5 S_x6 S_x7 S_x8 S_x9 S_r0 S_r1 S_r2 S_r3 S_r4  _ hc2 ) okX2_copy w_602 (by decide) (by decide) ⟨Nat.zero_le _, Nat.zero_le _⟩ rfl rfl rfl jP jD jS rfl jl.1 rfl rfl (Nat.le_of_ble_eq_true rfl) dX5_leftBy_19 rfl rfl (by decide) (by decide) (by decide) rfl (by decide) (fun H locs jP jD jS => ?_)
  refine lv_aload_n hx hb dX5_leftBy_22 rfl (lv_at jl 0 rfl) ?_
  refine va_get (D := D) (ci := 5) (v := .ref uP) (C := RX5) (T := TX5) (N := 8) hx hb hts in5 hown jK.1 jP 0 rfl rfl 5 (by decide) (hts _ w_33) (fun _ h9 => h9) rfl dX5_leftBy_23 ?_
  refine lv_aload_n hx hb dX5_leftBy_26 rfl (lv_at jl 0 rfl) ?_
  refine va_get (D := D) (ci := 5) (v := .ref uS) (C := RX5) (T := TX5) (N := 8) hx hb hts in5 hown jK.1 jP 0 rfl rfl 4 (by decide) (hts _ w_32) (fun _ h9 => h9) rfl dX5_leftBy_27 ?_
  obtain ⟨t3, hc4, h⟩ := bd_some h
  refine callP (wc := (sW cI uS aS S_x5 S_x6 S_x7 S_x8 S_x9 S_r0 S_r1 S_r2 S_r3 S_r4)) (wr := (lW uL uE uD uT uV uS uP L_x6 L_x7 ++ (sW cI uP aP t1.2.2.2.2.2.1 t1.2.2.2.2.2.2.1 t1.2.2.2.2.2.2.2.1 t1.2.2.2.2.2.2.2.2.1 t1.2.2.2.2.2.2.2.2.2 t1.1 t1.2.1 t1.2.2.1 t1.2.2.2.1 t1.2.2.2.2.1))) (w1 := (sW cI uS aS S_x5 S_x6 S_x7 S_x8 S_x9 S_r0 S_r1 S_r2 S_r3 S_r4)) (ws1 := (lW uL uE uD uT uV uS uP L_x6 L_x7 ++ (sW cI uS aS S_x5 S_x6 S_x7 S_x8 S_x9 S_r0 S_r1 S_r2 S_r3 S_r4 ++ (sW cI uP aP t1.2.2.2.2.2.1 t1.2.2.2.2.2.2.1 t1.2.2.2.2.2.2.2.1 t1.2.2.2.2.2.2.2.2.1 t1.2.2.2.2.2.2.2.2.2 t1.1 t1.2.1 t1.2.2.1 t1.2.2.2.1 t1.2.2.2.2.1)))) (As := []) (rest := [.ref uP]) (st1 := [.int t3, .ref uP]) 0 [1, 2, 3, 4, 5, 6] [0, 7, 8, 9, 10, 11, 12] [0, 7, 8, 9, 10, 11, 12, 1, 2, 3, 4, 5, 6] F (kX2_worst l D cI cB cS uS aS S_x5 S_x6 S_x7 S_x8 S_x9 S_r0 S_r1 S_r2 S_r3 S_r4  _ hc4 ) okX2_worst w_695 (by decide) (by decide) ⟨Nat.zero_le _, Nat.zero_le _⟩ rfl rfl rfl jP jD jS rfl jl.1 rfl rfl (Nat.le_of_ble_eq_true rfl) dX5_leftBy_30 rfl rfl (by decide) (by decide) (by decide) rfl (by decide) (fun H locs jP jD jS => ?_)
  obtain ⟨t5, hc6, h⟩ := bd_some h
  refine callP (wc := (sW cI uP aP t1.2.2.2.2.2.1 t1.2.2.2.2.2.2.1 t1.2.2.2.2.2.2.2.1 t1.2.2.2.2.2.2.2.2.1 t1.2.2.2.2.2.2.2.2.2 t1.1 t1.2.1 t1.2.2.1 t1.2.2.2.1 t1.2.2.2.2.1)) (wr := (lW uL uE uD uT uV uS uP L_x6 L_x7 ++ (sW cI uS aS S_x5 S_x6 S_x7 S_x8 S_x9 S_r0 S_r1 S_r2 S_r3 S_r4))) (w1 := (sW cI uP aP t5.2.2.2.2.2 t1.2.2.2.2.2.2.1 t1.2.2.2.2.2.2.2.1 t1.2.2.2.2.2.2.2.2.1 t1.2.2.2.2.2.2.2.2.2 t5.1 t5.2.1 t5.2.2.1 t5.2.2.2.1 t5.2.2.2.2.1)) (ws1 := (lW uL uE uD uT uV uS uP L_x6 L_x7 ++ (sW cI uS aS S_x5 S_x6 S_x7 S_x8 S_x9 S_r0 S_r1 S_r2 S_r3 S_r4 ++ (sW cI uP aP t5.2.2.2.2.2 t1.2.2.2.2.2.2.1 t1.2.2.2.2.2.2.2.1 t1.2.2.2.2.2.2.2.2.1 t1.2.2.2.2.2.2.2.2.2 t5.1 t5.2.1 t5.2.2.1 t5.2.2.2.1 t5.2.2.2.2.1)))) (As := [.int t3]) (rest := []) (st1 := []) 0 [7, 8, 9, 10, 11, 12] [0, 1, 2, 3, 4, 5, 6] [0, 1, 2, 3, 4, 5, 6, 7, 8, 9, 10, 11, 12] F (kX2_remove l D cI cB cS uP aP t1.2.2.2.2.2.1 t1.2.2.2.2.2.2.1 t1.2.2.2.2.2.2.2.1 t1.2.2.2.2.2.2.2.2.1 t1.2.2.2.2.2.2.2.2.2 t1.1 t1.2.1 t1.2.2.1 t1.2.2.2.1 t1.2.2.2.2.1 t3 _ hc6 ) okX2_remove w_699 (by decide) (by decide) ⟨Nat.zero_le _, Nat.zero_le _⟩ rfl rfl rfl jP jD jS rfl jl.1 rfl rfl (Nat.le_of_ble_eq_true rfl) dX5_leftBy_33 rfl rfl (by decide) (by decide) (by decide) rfl (by decide) (fun H locs jP jD jS => ?_)
  refine lv_aload_n hx hb dX5_leftBy_36 rfl (lv_at jl 0 rfl) ?_
  refine va_get (D := D) (ci := 5) (v := .ref uP) (C := RX5) (T := TX5) (N := 8) hx hb hts in5 hown jK.1 jP 0 rfl rfl 5 (by decide) (hts _ w_33) (fun _ h9 => h9) rfl dX5_leftBy_37 ?_
  obtain rfl := Option.some.inj h
  exact hRet _ _ _ _ jP jD jS dX5_leftBy_40
theorem okX5_outcome : okV yX5_outcome cX5_outcome 8 (some .int) 2 := ⟨w_688, w_689, w_690, w_2, by decide, by decide, by decide +kernel⟩
def fX5_outcome (P_r0 : (Nat → Int32)) (P_r1 : (Nat → Int32)) (P_r2 : (Nat → Int32)) (P_r3 : (Nat → Int32)) (P_r4 : (Nat → Int32)) (P_x5 : Int32) (P_x6 : Int32) (P_x7 : Int32) (P_x8 : Int32) (P_x9 : Int32) (S_r0 : (Nat → Int32)) (S_r1 : (Nat → Int32)) (S_r2 : (Nat → Int32)) (S_r3 : (Nat → Int32)) (S_r4 : (Nat → Int32)) (S_x5 : Int32) (S_x6 : Int32) (S_x7 : Int32) (S_x8 : Int32) (S_x9 : Int32) (T_r0 : (Nat → Int32)) (T_x1 : Int32) (T_x2 : Int32) (T_x3 : Int32) (T_x4 : Int32) (T_x5 : Int32) (T_x6 : Int32) (a1 : Int32) (a2 : Int32) : Option (Int32 × (Nat → Int32) × (Nat → Int32) × (Nat → Int32) × (Nat → Int32) × (Nat → Int32) × Int32 × Int32 × Int32 × Int32 × Int32 × (Nat → Int32) × Int32 × Int32 × Int32 × Int32 × Int32 × Int32) :=
  if (a1 &&& (4 : Int32)) = (0 : Int32) then (bd (fX5_leftBya a1) (fun t2 => bd (fX5_offerOf a1) (fun t4 => bd (fX5_bestPrice (S_r0) (S_r1) (S_r2) (S_r3) (S_r4) (S_x5) (S_x6) (S_x7) (S_x8) (T_r0) (T_x1) (T_x2) (T_x3) (T_x4) (T_x5) (T_x6) t4 a2) (fun t6 => bd (if t6.1 = (-4 : Int32) then (some ((0 : Int32), t6.2.1, t6.2.2.1, t6.2.2.2.1, t6.2.2.2.2.1, t6.2.2.2.2.2.1, t6.2.2.2.2.2.2.1, t6.2.2.2.2.2.2.2)) else (bd (fX5_gainAt (S_r0) (S_r1) (S_r2) (S_r3) (S_r4) (S_x5) (S_x6) (S_x7) (S_x8) t6.2.1 t4 a2 t6.1) (fun t9 => some (t9.1, t9.2.1, t9.2.2.1, t9.2.2.2.1, t9.2.2.2.2.1, t9.2.2.2.2.2.1, t9.2.2.2.2.2.2.1, t9.2.2.2.2.2.2.2)))) (fun t11 => some (t11.1, P_r0, P_r1, P_r2, P_r3, P_r4, P_x5, P_x6, P_x7, P_x8, P_x9, t11.2.1, t11.2.2.1, t11.2.2.2.1, t11.2.2.2.2.1, t11.2.2.2.2.2.1, t11.2.2.2.2.2.2.1, t11.2.2.2.2.2.2.2)))))) else (bd (fX5_leftByb (P_r0) (P_r1) (P_r2) (P_r3) (P_r4) (S_r0) (S_r1) (S_r2) (S_r3) (S_r4) (S_x5) (S_x6) (S_x7) (S_x8) (S_x9) a1) (fun t12 => bd (fX5_offerOf a1) (fun t14 => bd (fX5_bestPrice t12.1 t12.2.1 t12.2.2.1 t12.2.2.2.1 t12.2.2.2.2.1 t12.2.2.2.2.2.1 t12.2.2.2.2.2.2.1 t12.2.2.2.2.2.2.2.1 t12.2.2.2.2.2.2.2.2.1 (T_r0) (T_x1) (T_x2) (T_x3) (T_x4) (T_x5) (T_x6) t14 a2) (fun t16 => bd (if t16.1 = (-4 : Int32) then (some ((0 : Int32), t16.2.1, t16.2.2.1, t16.2.2.2.1, t16.2.2.2.2.1, t16.2.2.2.2.2.1, t16.2.2.2.2.2.2.1, t16.2.2.2.2.2.2.2)) else (bd (fX5_gainAt t12.1 t12.2.1 t12.2.2.1 t12.2.2.2.1 t12.2.2.2.2.1 t12.2.2.2.2.2.1 t12.2.2.2.2.2.2.1 t12.2.2.2.2.2.2.2.1 t12.2.2.2.2.2.2.2.2.1 t16.2.1 t14 a2 t16.1) (fun t19 => some (t19.1, t19.2.1, t19.2.2.1, t19.2.2.2.1, t19.2.2.2.2.1, t19.2.2.2.2.2.1, t19.2.2.2.2.2.2.1, t19.2.2.2.2.2.2.2)))) (fun t21 => bd (fX2_worst (S_r2) (S_x5)) (fun t22 => ckI t22 8 (ckI t22 8 (some ((t21.1 - (((800 : Int32) * (S_r0 t22.toNatClampNeg)) * (S_r1 t22.toNatClampNeg))), t12.1, t12.2.1, t12.2.2.1, t12.2.2.2.1, t12.2.2.2.2.1, t12.2.2.2.2.2.1, t12.2.2.2.2.2.2.1, t12.2.2.2.2.2.2.2.1, t12.2.2.2.2.2.2.2.2.1, t12.2.2.2.2.2.2.2.2.2, t21.2.1, t21.2.2.1, t21.2.2.2.1, t21.2.2.2.2.1, t21.2.2.2.2.2.1, t21.2.2.2.2.2.2.1, t21.2.2.2.2.2.2.2)))))))))
set_option maxRecDepth 100000 in
set_option maxHeartbeats 4000000 in
theorem kX5_outcome (l : Launch) (D : va_G) (cI cB cS : ClassId) (uL : Nat) (L_x6 : Int32) (L_x7 : Int32) (uT : Nat) (aT : Nat → Nat) (T_x1 : Int32) (T_x2 : Int32) (T_x3 : Int32) (T_x4 : Int32) (T_x5 : Int32) (T_x6 : Int32) (T_r0 : (Nat → Int32)) (uS : Nat) (aS : Nat → Nat) (S_x5 : Int32) (S_x6 : Int32) (S_x7 : Int32) (S_x8 : Int32) (S_x9 : Int32) (S_r0 : (Nat → Int32)) (S_r1 : (Nat → Int32)) (S_r2 : (Nat → Int32)) (S_r3 : (Nat → Int32)) (S_r4 : (Nat → Int32)) (uP : Nat) (aP : Nat → Nat) (P_x5 : Int32) (P_x6 : Int32) (P_x7 : Int32) (P_x8 : Int32) (P_x9 : Int32) (P_r0 : (Nat → Int32)) (P_r1 : (Nat → Int32)) (P_r2 : (Nat → Int32)) (P_r3 : (Nat → Int32)) (P_r4 : (Nat → Int32)) (uE : Nat) (uD : Nat) (uV : Nat) (a1 : Int32) (a2 : Int32) (z : (Int32 × (Nat → Int32) × (Nat → Int32) × (Nat → Int32) × (Nat → Int32) × (Nat → Int32) × Int32 × Int32 × Int32 × Int32 × Int32 × (Nat → Int32) × Int32 × Int32 × Int32 × Int32 × Int32 × Int32)) (h : fX5_outcome P_r0 P_r1 P_r2 P_r3 P_r4 P_x5 P_x6 P_x7 P_x8 P_x9 S_r0 S_r1 S_r2 S_r3 S_r4 S_x5 S_x6 S_x7 S_x8 S_x9 T_r0 T_x1 T_x2 T_x3 T_x4 T_x5 T_x6 a1 a2 = some z) : Mt l yX5_outcome cX5_outcome 8 (some .int) 4 120 D cI cB cS (lW uL uE uD uT uV uS uP L_x6 L_x7 ++ (tW cI uT aT T_x1 T_x2 T_x3 T_x4 T_x5 T_x6 T_r0 ++ (sW cI uS aS S_x5 S_x6 S_x7 S_x8 S_x9 S_r0 S_r1 S_r2 S_r3 S_r4 ++ (sW cI uP aP P_x5 P_x6 P_x7 P_x8 P_x9 P_r0 P_r1 P_r2 P_r3 P_r4)))) (lW uL uE uD uT uV uS uP L_x6 L_x7 ++ (tW cI uT aT z.2.2.2.2.2.2.2.2.2.2.2.2.1 z.2.2.2.2.2.2.2.2.2.2.2.2.2.1 z.2.2.2.2.2.2.2.2.2.2.2.2.2.2.1 z.2.2.2.2.2.2.2.2.2.2.2.2.2.2.2.1 z.2.2.2.2.2.2.2.2.2.2.2.2.2.2.2.2.1 z.2.2.2.2.2.2.2.2.2.2.2.2.2.2.2.2.2 z.2.2.2.2.2.2.2.2.2.2.2.1 ++ (sW cI uS aS S_x5 S_x6 S_x7 S_x8 S_x9 S_r0 S_r1 S_r2 S_r3 S_r4 ++ (sW cI uP aP z.2.2.2.2.2.2.1 z.2.2.2.2.2.2.2.1 z.2.2.2.2.2.2.2.2.1 z.2.2.2.2.2.2.2.2.2.1 z.2.2.2.2.2.2.2.2.2.2.1 z.2.1 z.2.2.1 z.2.2.2.1 z.2.2.2.2.1 z.2.2.2.2.2.1)))) [.ref uL, .int a1, .int a2] (some (.int z.1)) := by
  refine entryI (by decide +kernel) rfl (Nat.le_of_ble_eq_true rfl) ?_
  intro p e s m below meth c A ls QQ R ar F hRet jP jD jS jl
  obtain ⟨hx, hb, hml, hown, hts, jK, hA, hf1, hf2⟩ := id F
  have jl : lv_has ls 8 [(0, .ref uL), (1, .int a1), (2, .int a2)] := jl
  unfold fX5_outcome at h
  refine lv_aload_n hx hb dX5_outcome_0 rfl (lv_at jl 0 rfl) ?_
  refine lv_iload_n hx hb dX5_outcome_1 rfl (lv_at jl 1 rfl) ?_
  by_cases hk1 : (a1 &&& (4 : Int32)) = (0 : Int32)
  · have h := itp hk1 h
    obtain ⟨t2, hc3, h⟩ := bd_some h
    refine callP (wc := (lW uL uE uD uT uV uS uP L_x6 L_x7 ++ (sW cI uS aS S_x5 S_x6 S_x7 S_x8 S_x9 S_r0 S_r1 S_r2 S_r3 S_r4 ++ (sW cI uP aP P_x5 P_x6 P_x7 P_x8 P_x9 P_r0 P_r1 P_r2 P_r3 P_r4)))) (wr := (tW cI uT aT T_x1 T_x2 T_x3 T_x4 T_x5 T_x6 T_r0)) (w1 := (lW uL uE uD uT uV uS uP L_x6 L_x7 ++ (sW cI uS aS S_x5 S_x6 S_x7 S_x8 S_x9 S_r0 S_r1 S_r2 S_r3 S_r4 ++ (sW cI uP aP P_x5 P_x6 P_x7 P_x8 P_x9 P_r0 P_r1 P_r2 P_r3 P_r4)))) (ws1 := (lW uL uE uD uT uV uS uP L_x6 L_x7 ++ (tW cI uT aT T_x1 T_x2 T_x3 T_x4 T_x5 T_x6 T_r0 ++ (sW cI uS aS S_x5 S_x6 S_x7 S_x8 S_x9 S_r0 S_r1 S_r2 S_r3 S_r4 ++ (sW cI uP aP P_x5 P_x6 P_x7 P_x8 P_x9 P_r0 P_r1 P_r2 P_r3 P_r4))))) (As := [.int a1]) (rest := []) (st1 := [.ref uS]) 0 [0, 3, 4, 5, 6, 7, 8, 9, 10, 11, 12, 13, 14] [1, 2] [2, 0, 1, 3, 4, 5, 6, 7, 8, 9, 10, 11, 12, 13, 14] F (kX5_leftBya l D cI cB cS uL L_x6 L_x7 uS aS S_x5 S_x6 S_x7 S_x8 S_x9 S_r0 S_r1 S_r2 S_r3 S_r4 uP aP P_x5 P_x6 P_x7 P_x8 P_x9 P_r0 P_r1 P_r2 P_r3 P_r4 uE uD uT uV a1 _ hc3 hk1) okX5_leftBy w_691 (by decide) (by decide) ⟨Nat.zero_le _, Nat.zero_le _⟩ rfl rfl rfl jP jD jS rfl jl.1 rfl rfl (Nat.le_of_ble_eq_true rfl) dX5_outcome_2 rfl rfl (by decide) (by decide) (by decide) rfl (by decide) (fun H locs jP jD jS => ?_)
    refine lv_astore_n (lv' := [(3, .ref uS), (0, .ref uL), (1, .int a1), (2, .int a2)]) hx hb dX5_outcome_5 rfl jl (by decide) rfl (fun ls jl => ?_)
    refine lv_iload_n hx hb dX5_outcome_6 rfl (lv_at jl 2 rfl) ?_
    obtain ⟨t4, hc5, h⟩ := bd_some h
    refine call0 (As := [.int a1]) (rest := []) (st1 := [.int t4]) F (kX5_offerOf l D cI cB cS  a1 _ hc5 ) okX5_offerOf w_703 (by decide) (by decide) ⟨Nat.zero_le _, Nat.zero_le _⟩ jP jD jS rfl jl.1 rfl rfl (Nat.le_of_ble_eq_true rfl) dX5_outcome_7 (fun H locs jP jD jS => ?_)
    refine lv_istore (lv' := [(4, .int t4), (3, .ref uS), (0, .ref uL), (1, .int a1), (2, .int a2)]) hx hb dX5_outcome_10 jl (by decide) rfl (fun ls jl => ?_)
    refine lv_aload_n hx hb dX5_outcome_12 rfl (lv_at jl 2 rfl) ?_
    refine lv_aload_n hx hb dX5_outcome_13 rfl (lv_at jl 1 rfl) ?_
    refine lv_iload hx hb dX5_outcome_14 (lv_at jl 0 rfl) ?_
    refine lv_iload_n hx hb dX5_outcome_16 rfl (lv_at jl 4 rfl) ?_
    obtain ⟨t6, hc7, h⟩ := bd_some h
    refine callP (wc := (lW uL uE uD uT uV uS uP L_x6 L_x7 ++ (tW cI uT aT T_x1 T_x2 T_x3 T_x4 T_x5 T_x6 T_r0 ++ (sW cI uS aS S_x5 S_x6 S_x7 S_x8 S_x9 S_r0 S_r1 S_r2 S_r3 S_r4)))) (wr := (sW cI uP aP P_x5 P_x6 P_x7 P_x8 P_x9 P_r0 P_r1 P_r2 P_r3 P_r4)) (w1 := (lW uL uE uD uT uV uS uP L_x6 L_x7 ++ (tW cI uT aT t6.2.2.1 t6.2.2.2.1 t6.2.2.2.2.1 t6.2.2.2.2.2.1 t6.2.2.2.2.2.2.1 t6.2.2.2.2.2.2.2 t6.2.1 ++ (sW cI uS aS S_x5 S_x6 S_x7 S_x8 S_x9 S_r0 S_r1 S_r2 S_r3 S_r4)))) (ws1 := (lW uL uE uD uT uV uS uP L_x6 L_x7 ++ (tW cI uT aT t6.2.2.1 t6.2.2.2.1 t6.2.2.2.2.1 t6.2.2.2.2.2.1 t6.2.2.2.2.2.2.1 t6.2.2.2.2.2.2.2 t6.2.1 ++ (sW cI uS aS S_x5 S_x6 S_x7 S_x8 S_x9 S_r0 S_r1 S_r2 S_r3 S_r4 ++ (sW cI uP aP P_x5 P_x6 P_x7 P_x8 P_x9 P_r0 P_r1 P_r2 P_r3 P_r4))))) (As := [.ref uS, .int t4, .int a2]) (rest := []) (st1 := [.int t6.1]) 0 [0, 1, 2, 3, 4, 5, 6, 7, 8] [9, 10, 11, 12, 13, 14] [6, 7, 8, 9, 10, 11, 12, 13, 14, 0, 1, 2, 3, 4, 5] F (kX5_bestPrice l D cI cB cS uL L_x6 L_x7 uT aT T_x1 T_x2 T_x3 T_x4 T_x5 T_x6 T_r0 uS aS S_x5 S_x6 S_x7 S_x8 S_x9 S_r0 S_r1 S_r2 S_r3 S_r4 uE uD uV uS uP t4 a2 _ hc7 ) okX5_bestPrice w_551 (by decide) (by decide) ⟨Nat.zero_le _, Nat.zero_le _⟩ rfl rfl rfl jP jD jS rfl jl.1 rfl rfl (Nat.le_of_ble_eq_true rfl) dX5_outcome_17 rfl rfl (by decide) (by decide) (by decide) rfl (by decide) (fun H locs jP jD jS => ?_)
    refine lv_istore (lv' := [(5, .int t6.1), (4, .int t4), (3, .ref uS), (0, .ref uL), (1, .int a1), (2, .int a2)]) hx hb dX5_outcome_20 jl (by decide) rfl (fun ls jl => ?_)
    refine lv_iload hx hb dX5_outcome_22 (lv_at jl 0 rfl) ?_
    refine lv_bipush (v := (-4 : Int32)) hx hb dX5_outcome_24 (by decide) ?_
    obtain ⟨t11, hvt11, h⟩ := bd_some h
    have hJt11 : ∀ (H : Heap) (locs : List Loc) (ls : Array Slot), va_P D vwCl (lW uL uE uD uT uV uS uP L_x6 L_x7 ++ (tW cI uT aT t11.2.2.1 t11.2.2.2.1 t11.2.2.2.2.1 t11.2.2.2.2.2.1 t11.2.2.2.2.2.2.1 t11.2.2.2.2.2.2.2 t11.2.1 ++ (sW cI uS aS S_x5 S_x6 S_x7 S_x8 S_x9 S_r0 S_r1 S_r2 S_r3 S_r4 ++ (sW cI uP aP P_x5 P_x6 P_x7 P_x8 P_x9 P_r0 P_r1 P_r2 P_r3 P_r4)))) H → va_D A (lW uL uE uD uT uV uS uP L_x6 L_x7 ++ (tW cI uT aT t11.2.2.1 t11.2.2.2.1 t11.2.2.2.2.1 t11.2.2.2.2.2.1 t11.2.2.2.2.2.2.1 t11.2.2.2.2.2.2.2 t11.2.1 ++ (sW cI uS aS S_x5 S_x6 S_x7 S_x8 S_x9 S_r0 S_r1 S_r2 S_r3 S_r4 ++ (sW cI uP aP P_x5 P_x6 P_x7 P_x8 P_x9 P_r0 P_r1 P_r2 P_r3 P_r4)))) → va_S A s.heap H locs → lv_has ls 8 [(0, .ref uL), (1, .int a1)] → W p l e R s m ar below meth c H locs 0 0 QQ (F0 m 43 ls [.int t11.1]) := by
      clear jP jD jS jl
      intro H locs ls jP jD jS jl
      refine lv_istore (lv' := [(6, .int t11.1), (0, .ref uL), (1, .int a1)]) hx hb dX5_outcome_43 jl (by decide) rfl (fun ls jl => ?_)
      refine lv_iload_n hx hb dX5_outcome_45 rfl (lv_at jl 2 rfl) ?_
      refine lv_iconst (v := (4 : Int32)) hx hb dX5_outcome_46 (by decide) ?_
      refine lv_iand hx hb dX5_outcome_47 ?_
      refine lv_if_ne (tgt := 54) hx hb dX5_outcome_48 (by decide) (fun q => absurd hk1 q) (fun _ => ?_)
      refine lv_iload hx hb dX5_outcome_51 (lv_at jl 0 rfl) ?_
      obtain rfl := Option.some.inj h
      exact hRet _ _ _ _ jP jD jS dX5_outcome_53
    clear h
    refine lv_icmp_ne (tgt := 33) hx hb dX5_outcome_26 (by decide) (fun c8 => ?_) (fun c8 => ?_)
    · have hvt11 := itn c8 hvt11
      refine lv_aload_n hx hb dX5_outcome_33 rfl (lv_at jl 3 rfl) ?_
      refine lv_aload_n hx hb dX5_outcome_34 rfl (lv_at jl 2 rfl) ?_
      refine lv_iload hx hb dX5_outcome_35 (lv_at jl 1 rfl) ?_
      refine lv_iload_n hx hb dX5_outcome_37 rfl (lv_at jl 5 rfl) ?_
      refine lv_iload hx hb dX5_outcome_38 (lv_at jl 0 rfl) ?_
      obtain ⟨t9, hc10, hvt11⟩ := bd_some hvt11
      refine callP (wc := (lW uL uE uD uT uV uS uP L_x6 L_x7 ++ (tW cI uT aT t6.2.2.1 t6.2.2.2.1 t6.2.2.2.2.1 t6.2.2.2.2.2.1 t6.2.2.2.2.2.2.1 t6.2.2.2.2.2.2.2 t6.2.1 ++ (sW cI uS aS S_x5 S_x6 S_x7 S_x8 S_x9 S_r0 S_r1 S_r2 S_r3 S_r4)))) (wr := (sW cI uP aP P_x5 P_x6 P_x7 P_x8 P_x9 P_r0 P_r1 P_r2 P_r3 P_r4)) (w1 := (lW uL uE uD uT uV uS uP L_x6 L_x7 ++ (tW cI uT aT t9.2.2.1 t9.2.2.2.1 t9.2.2.2.2.1 t9.2.2.2.2.2.1 t9.2.2.2.2.2.2.1 t9.2.2.2.2.2.2.2 t9.2.1 ++ (sW cI uS aS S_x5 S_x6 S_x7 S_x8 S_x9 S_r0 S_r1 S_r2 S_r3 S_r4)))) (ws1 := (lW uL uE uD uT uV uS uP L_x6 L_x7 ++ (tW cI uT aT t9.2.2.1 t9.2.2.2.1 t9.2.2.2.2.1 t9.2.2.2.2.2.1 t9.2.2.2.2.2.2.1 t9.2.2.2.2.2.2.2 t9.2.1 ++ (sW cI uS aS S_x5 S_x6 S_x7 S_x8 S_x9 S_r0 S_r1 S_r2 S_r3 S_r4 ++ (sW cI uP aP P_x5 P_x6 P_x7 P_x8 P_x9 P_r0 P_r1 P_r2 P_r3 P_r4))))) (As := [.ref uS, .int t4, .int a2, .int t6.1]) (rest := []) (st1 := [.int t9.1]) 0 [0, 1, 2, 3, 4, 5, 6, 7, 8] [9, 10, 11, 12, 13, 14] [6, 7, 8, 9, 10, 11, 12, 13, 14, 0, 1, 2, 3, 4, 5] F (kX5_gainAt l D cI cB cS uL L_x6 L_x7 uT aT t6.2.2.1 t6.2.2.2.1 t6.2.2.2.2.1 t6.2.2.2.2.2.1 t6.2.2.2.2.2.2.1 t6.2.2.2.2.2.2.2 t6.2.1 uS aS S_x5 S_x6 S_x7 S_x8 S_x9 S_r0 S_r1 S_r2 S_r3 S_r4 uE uD uV uS uP t4 a2 t6.1 _ hc10 ) okX5_gainAt w_529 (by decide) (by decide) ⟨Nat.zero_le _, Nat.zero_le _⟩ rfl rfl rfl jP jD jS rfl jl.1 rfl rfl (Nat.le_of_ble_eq_true rfl) dX5_outcome_40 rfl rfl (by decide) (by decide) (by decide) rfl (by decide) (fun H locs jP jD jS => ?_)
      obtain rfl := Option.some.inj hvt11
      exact hJt11 _ _ _ jP jD jS (lv_sub jl [3, 4] rfl)
    · have hvt11 := itp c8 hvt11
      refine lv_iconst (v := (0 : Int32)) hx hb dX5_outcome_29 (by decide) ?_
      refine lv_goto (tgt := 43) hx hb dX5_outcome_30 (by decide) ?_
      obtain rfl := Option.some.inj hvt11
      exact hJt11 _ _ _ jP jD jS (lv_sub jl [3, 4] rfl)
  · have h := itn hk1 h
    obtain ⟨t12, hc13, h⟩ := bd_some h
    refine callP (wc := (lW uL uE uD uT uV uS uP L_x6 L_x7 ++ (sW cI uS aS S_x5 S_x6 S_x7 S_x8 S_x9 S_r0 S_r1 S_r2 S_r3 S_r4 ++ (sW cI uP aP P_x5 P_x6 P_x7 P_x8 P_x9 P_r0 P_r1 P_r2 P_r3 P_r4)))) (wr := (tW cI uT aT T_x1 T_x2 T_x3 T_x4 T_x5 T_x6 T_r0)) (w1 := (lW uL uE uD uT uV uS uP L_x6 L_x7 ++ (sW cI uS aS S_x5 S_x6 S_x7 S_x8 S_x9 S_r0 S_r1 S_r2 S_r3 S_r4 ++ (sW cI uP aP t12.2.2.2.2.2.1 t12.2.2.2.2.2.2.1 t12.2.2.2.2.2.2.2.1 t12.2.2.2.2.2.2.2.2.1 t12.2.2.2.2.2.2.2.2.2 t12.1 t12.2.1 t12.2.2.1 t12.2.2.2.1 t12.2.2.2.2.1)))) (ws1 := (lW uL uE uD uT uV uS uP L_x6 L_x7 ++ (tW cI uT aT T_x1 T_x2 T_x3 T_x4 T_x5 T_x6 T_r0 ++ (sW cI uS aS S_x5 S_x6 S_x7 S_x8 S_x9 S_r0 S_r1 S_r2 S_r3 S_r4 ++ (sW cI uP aP t12.2.2.2.2.2.1 t12.2.2.2.2.2.2.1 t12.2.2.2.2.2.2.2.1 t12.2.2.2.2.2.2.2.2.1 t12.2.2.2.2.2.2.2.2.2 t12.1 t12.2.1 t12.2.2.1 t12.2.2.2.1 t12.2.2.2.2.1))))) (As := [.int a1]) (rest := []) (st1 := [.ref uP]) 0 [0, 3, 4, 5, 6, 7, 8, 9, 10, 11, 12, 13, 14] [1, 2] [2, 0, 1, 3, 4, 5, 6, 7, 8, 9, 10, 11, 12, 13, 14] F (kX5_leftByb l D cI cB cS uL L_x6 L_x7 uS aS S_x5 S_x6 S_x7 S_x8 S_x9 S_r0 S_r1 S_r2 S_r3 S_r4 uP aP P_x5 P_x6 P_x7 P_x8 P_x9 P_r0 P_r1 P_r2 P_r3 P_r4 uE uD uT uV a1 _ hc13 hk1) okX5_leftBy w_691 (by decide) (by decide) ⟨Nat.zero_le _, Nat.zero_le _⟩ rfl rfl rfl jP jD jS rfl jl.1 rfl rfl (Nat.le_of_ble_eq_true rfl) dX5_outcome_2 rfl rfl (by decide) (by decide) (by decide) rfl (by decide) (fun H locs jP jD jS => ?_)
    refine lv_astore_n (lv' := [(3, .ref uP), (0, .ref uL), (1, .int a1), (2, .int a2)]) hx hb dX5_outcome_5 rfl jl (by decide) rfl (fun ls jl => ?_)
    refine lv_iload_n hx hb dX5_outcome_6 rfl (lv_at jl 2 rfl) ?_
    obtain ⟨t14, hc15, h⟩ := bd_some h
    refine call0 (As := [.int a1]) (rest := []) (st1 := [.int t14]) F (kX5_offerOf l D cI cB cS  a1 _ hc15 ) okX5_offerOf w_703 (by decide) (by decide) ⟨Nat.zero_le _, Nat.zero_le _⟩ jP jD jS rfl jl.1 rfl rfl (Nat.le_of_ble_eq_true rfl) dX5_outcome_7 (fun H locs jP jD jS => ?_)
    refine lv_istore (lv' := [(4, .int t14), (3, .ref uP), (0, .ref uL), (1, .int a1), (2, .int a2)]) hx hb dX5_outcome_10 jl (by decide) rfl (fun ls jl => ?_)
    refine lv_aload_n hx hb dX5_outcome_12 rfl (lv_at jl 2 rfl) ?_
    refine lv_aload_n hx hb dX5_outcome_13 rfl (lv_at jl 1 rfl) ?_
    refine lv_iload hx hb dX5_outcome_14 (lv_at jl 0 rfl) ?_
    refine lv_iload_n hx hb dX5_outcome_16 rfl (lv_at jl 4 rfl) ?_
    obtain ⟨t16, hc17, h⟩ := bd_some h
    refine callP (wc := (lW uL uE uD uT uV uS uP L_x6 L_x7 ++ (tW cI uT aT T_x1 T_x2 T_x3 T_x4 T_x5 T_x6 T_r0 ++ (sW cI uP aP t12.2.2.2.2.2.1 t12.2.2.2.2.2.2.1 t12.2.2.2.2.2.2.2.1 t12.2.2.2.2.2.2.2.2.1 t12.2.2.2.2.2.2.2.2.2 t12.1 t12.2.1 t12.2.2.1 t12.2.2.2.1 t12.2.2.2.2.1)))) (wr := (sW cI uS aS S_x5 S_x6 S_x7 S_x8 S_x9 S_r0 S_r1 S_r2 S_r3 S_r4)) (w1 := (lW uL uE uD uT uV uS uP L_x6 L_x7 ++ (tW cI uT aT t16.2.2.1 t16.2.2.2.1 t16.2.2.2.2.1 t16.2.2.2.2.2.1 t16.2.2.2.2.2.2.1 t16.2.2.2.2.2.2.2 t16.2.1 ++ (sW cI uP aP t12.2.2.2.2.2.1 t12.2.2.2.2.2.2.1 t12.2.2.2.2.2.2.2.1 t12.2.2.2.2.2.2.2.2.1 t12.2.2.2.2.2.2.2.2.2 t12.1 t12.2.1 t12.2.2.1 t12.2.2.2.1 t12.2.2.2.2.1)))) (ws1 := (lW uL uE uD uT uV uS uP L_x6 L_x7 ++ (tW cI uT aT t16.2.2.1 t16.2.2.2.1 t16.2.2.2.2.1 t16.2.2.2.2.2.1 t16.2.2.2.2.2.2.1 t16.2.2.2.2.2.2.2 t16.2.1 ++ (sW cI uS aS S_x5 S_x6 S_x7 S_x8 S_x9 S_r0 S_r1 S_r2 S_r3 S_r4 ++ (sW cI uP aP t12.2.2.2.2.2.1 t12.2.2.2.2.2.2.1 t12.2.2.2.2.2.2.2.1 t12.2.2.2.2.2.2.2.2.1 t12.2.2.2.2.2.2.2.2.2 t12.1 t12.2.1 t12.2.2.1 t12.2.2.2.1 t12.2.2.2.2.1))))) (As := [.ref uP, .int t14, .int a2]) (rest := []) (st1 := [.int t16.1]) 0 [0, 1, 2, 9, 10, 11, 12, 13, 14] [3, 4, 5, 6, 7, 8] [6, 7, 8, 0, 1, 2, 3, 4, 5, 9, 10, 11, 12, 13, 14] F (kX5_bestPrice l D cI cB cS uL L_x6 L_x7 uT aT T_x1 T_x2 T_x3 T_x4 T_x5 T_x6 T_r0 uP aP t12.2.2.2.2.2.1 t12.2.2.2.2.2.2.1 t12.2.2.2.2.2.2.2.1 t12.2.2.2.2.2.2.2.2.1 t12.2.2.2.2.2.2.2.2.2 t12.1 t12.2.1 t12.2.2.1 t12.2.2.2.1 t12.2.2.2.2.1 uE uD uV uS uP t14 a2 _ hc17 ) okX5_bestPrice w_551 (by decide) (by decide) ⟨Nat.zero_le _, Nat.zero_le _⟩ rfl rfl rfl jP jD jS rfl jl.1 rfl rfl (Nat.le_of_ble_eq_true rfl) dX5_outcome_17 rfl rfl (by decide) (by decide) (by decide) rfl (by decide) (fun H locs jP jD jS => ?_)
    refine lv_istore (lv' := [(5, .int t16.1), (4, .int t14), (3, .ref uP), (0, .ref uL), (1, .int a1), (2, .int a2)]) hx hb dX5_outcome_20 jl (by decide) rfl (fun ls jl => ?_)
    refine lv_iload hx hb dX5_outcome_22 (lv_at jl 0 rfl) ?_
    refine lv_bipush (v := (-4 : Int32)) hx hb dX5_outcome_24 (by decide) ?_
    obtain ⟨t21, hvt21, h⟩ := bd_some h
    have hJt21 : ∀ (H : Heap) (locs : List Loc) (ls : Array Slot), va_P D vwCl (lW uL uE uD uT uV uS uP L_x6 L_x7 ++ (tW cI uT aT t21.2.2.1 t21.2.2.2.1 t21.2.2.2.2.1 t21.2.2.2.2.2.1 t21.2.2.2.2.2.2.1 t21.2.2.2.2.2.2.2 t21.2.1 ++ (sW cI uS aS S_x5 S_x6 S_x7 S_x8 S_x9 S_r0 S_r1 S_r2 S_r3 S_r4 ++ (sW cI uP aP t12.2.2.2.2.2.1 t12.2.2.2.2.2.2.1 t12.2.2.2.2.2.2.2.1 t12.2.2.2.2.2.2.2.2.1 t12.2.2.2.2.2.2.2.2.2 t12.1 t12.2.1 t12.2.2.1 t12.2.2.2.1 t12.2.2.2.2.1)))) H → va_D A (lW uL uE uD uT uV uS uP L_x6 L_x7 ++ (tW cI uT aT t21.2.2.1 t21.2.2.2.1 t21.2.2.2.2.1 t21.2.2.2.2.2.1 t21.2.2.2.2.2.2.1 t21.2.2.2.2.2.2.2 t21.2.1 ++ (sW cI uS aS S_x5 S_x6 S_x7 S_x8 S_x9 S_r0 S_r1 S_r2 S_r3 S_r4 ++ (sW cI uP aP t12.2.2.2.2.2.1 t12.2.2.2.2.2.2.1 t12.2.2.2.2.2.2.2.1 t12.2.2.2.2.2.2.2.2.1 t12.2.2.2.2.2.2.2.2.2 t12.1 t12.2.1 t12.2.2.1 t12.2.2.2.1 t12.2.2.2.2.1)))) → va_S A s.heap H locs → lv_has ls 8 [(0, .ref uL), (1, .int a1)] → W p l e R s m ar below meth c H locs 0 0 QQ (F0 m 43 ls [.int t21.1]) := by
      clear jP jD jS jl
      intro H locs ls jP jD jS jl
      refine lv_istore (lv' := [(6, .int t21.1), (0, .ref uL), (1, .int a1)]) hx hb dX5_outcome_43 jl (by decide) rfl (fun ls jl => ?_)
      refine lv_iload_n hx hb dX5_outcome_45 rfl (lv_at jl 2 rfl) ?_
      refine lv_iconst (v := (4 : Int32)) hx hb dX5_outcome_46 (by decide) ?_
      refine lv_iand hx hb dX5_outcome_47 ?_
      refine lv_if_ne (tgt := 54) hx hb dX5_outcome_48 (by decide) (fun _ => ?_) (fun q => absurd q hk1)
      refine lv_aload_n hx hb dX5_outcome_54 rfl (lv_at jl 1 rfl) ?_
      refine va_get (D := D) (ci := 5) (v := .ref uS) (C := RX5) (T := TX5) (N := 8) hx hb hts in5 hown jK.1 jP 0 rfl rfl 4 (by decide) (hts _ w_32) (fun _ h9 => h9) rfl dX5_outcome_55 ?_
      obtain ⟨t22, hc23, h⟩ := bd_some h
      refine callP (wc := (sW cI uS aS S_x5 S_x6 S_x7 S_x8 S_x9 S_r0 S_r1 S_r2 S_r3 S_r4)) (wr := (lW uL uE uD uT uV uS uP L_x6 L_x7 ++ (tW cI uT aT t21.2.2.1 t21.2.2.2.1 t21.2.2.2.2.1 t21.2.2.2.2.2.1 t21.2.2.2.2.2.2.1 t21.2.2.2.2.2.2.2 t21.2.1 ++ (sW cI uP aP t12.2.2.2.2.2.1 t12.2.2.2.2.2.2.1 t12.2.2.2.2.2.2.2.1 t12.2.2.2.2.2.2.2.2.1 t12.2.2.2.2.2.2.2.2.2 t12.1 t12.2.1 t12.2.2.1 t12.2.2.2.1 t12.2.2.2.2.1)))) (w1 := (sW cI uS aS S_x5 S_x6 S_x7 S_x8 S_x9 S_r0 S_r1 S_r2 S_r3 S_r4)) (ws1 := (lW uL uE uD uT uV uS uP L_x6 L_x7 ++ (tW cI uT aT t21.2.2.1 t21.2.2.2.1 t21.2.2.2.2.1 t21.2.2.2.2.2.1 t21.2.2.2.2.2.2.1 t21.2.2.2.2.2.2.2 t21.2.1 ++ (sW cI uS aS S_x5 S_x6 S_x7 S_x8 S_x9 S_r0 S_r1 S_r2 S_r3 S_r4 ++ (sW cI uP aP t12.2.2.2.2.2.1 t12.2.2.2.2.2.2.1 t12.2.2.2.2.2.2.2.1 t12.2.2.2.2.2.2.2.2.1 t12.2.2.2.2.2.2.2.2.2 t12.1 t12.2.1 t12.2.2.1 t12.2.2.2.1 t12.2.2.2.2.1))))) (As := []) (rest := []) (st1 := [.int t22]) 0 [3, 4, 5, 6, 7, 8] [0, 1, 2, 9, 10, 11, 12, 13, 14] [0, 1, 2, 9, 10, 11, 12, 13, 14, 3, 4, 5, 6, 7, 8] F (kX2_worst l D cI cB cS uS aS S_x5 S_x6 S_x7 S_x8 S_x9 S_r0 S_r1 S_r2 S_r3 S_r4  _ hc23 ) okX2_worst w_695 (by decide) (by decide) ⟨Nat.zero_le _, Nat.zero_le _⟩ rfl rfl rfl jP jD jS rfl jl.1 rfl rfl (Nat.le_of_ble_eq_true rfl) dX5_outcome_58 rfl rfl (by decide) (by decide) (by decide) rfl (by decide) (fun H locs jP jD jS => ?_)
      refine lv_istore (lv' := [(7, .int t22), (6, .int t21.1), (0, .ref uL), (1, .int a1)]) hx hb dX5_outcome_61 jl (by decide) rfl (fun ls jl => ?_)
      refine lv_iload hx hb dX5_outcome_63 (lv_at jl 1 rfl) ?_
      refine lv_sipush (v := (800 : Int32)) hx hb dX5_outcome_65 (by decide) ?_
      refine lv_aload_n hx hb dX5_outcome_68 rfl (lv_at jl 2 rfl) ?_
      refine va_get (D := D) (ci := 5) (v := .ref uS) (C := RX5) (T := TX5) (N := 8) hx hb hts in5 hown jK.1 jP 0 rfl rfl 4 (by decide) (hts _ w_32) (fun _ h9 => h9) rfl dX5_outcome_69 ?_
      refine va_get (D := D) (ci := 2) (v := .ref (aS 0)) (C := RX2) (T := TX2) (N := 10) hx hb hts in2 hown jK.1 jP 3 rfl rfl 0 (by decide) (hts _ w_569) (fun _ h9 => h9) rfl dX5_outcome_72 ?_
      refine lv_iload hx hb dX5_outcome_75 (lv_at jl 0 rfl) ?_
      obtain ⟨hin, h⟩ := ckI_some h
      refine va_iald (f := S_r0) hx hb jK.1 jP 4 0 rfl rfl hin dX5_outcome_77 ?_
      refine lv_imul hx hb dX5_outcome_78 ?_
      refine lv_aload_n hx hb dX5_outcome_79 rfl (lv_at jl 2 rfl) ?_
      refine va_get (D := D) (ci := 5) (v := .ref uS) (C := RX5) (T := TX5) (N := 8) hx hb hts in5 hown jK.1 jP 0 rfl rfl 4 (by decide) (hts _ w_32) (fun _ h9 => h9) rfl dX5_outcome_80 ?_
      refine va_get (D := D) (ci := 2) (v := .ref (aS 1)) (C := RX2) (T := TX2) (N := 10) hx hb hts in2 hown jK.1 jP 3 rfl rfl 1 (by decide) (hts _ w_649) (fun _ h9 => h9) rfl dX5_outcome_83 ?_
      refine lv_iload hx hb dX5_outcome_86 (lv_at jl 0 rfl) ?_
      obtain ⟨hin, h⟩ := ckI_some h
      refine va_iald (f := S_r1) hx hb jK.1 jP 5 0 rfl rfl hin dX5_outcome_88 ?_
      refine lv_imul hx hb dX5_outcome_89 ?_
      refine lv_isub hx hb dX5_outcome_90 ?_
      obtain rfl := Option.some.inj h
      exact hRet _ _ _ _ jP jD jS dX5_outcome_91
    clear h
    refine lv_icmp_ne (tgt := 33) hx hb dX5_outcome_26 (by decide) (fun c18 => ?_) (fun c18 => ?_)
    · have hvt21 := itn c18 hvt21
      refine lv_aload_n hx hb dX5_outcome_33 rfl (lv_at jl 3 rfl) ?_
      refine lv_aload_n hx hb dX5_outcome_34 rfl (lv_at jl 2 rfl) ?_
      refine lv_iload hx hb dX5_outcome_35 (lv_at jl 1 rfl) ?_
      refine lv_iload_n hx hb dX5_outcome_37 rfl (lv_at jl 5 rfl) ?_
      refine lv_iload hx hb dX5_outcome_38 (lv_at jl 0 rfl) ?_
      obtain ⟨t19, hc20, hvt21⟩ := bd_some hvt21
      refine callP (wc := (lW uL uE uD uT uV uS uP L_x6 L_x7 ++ (tW cI uT aT t16.2.2.1 t16.2.2.2.1 t16.2.2.2.2.1 t16.2.2.2.2.2.1 t16.2.2.2.2.2.2.1 t16.2.2.2.2.2.2.2 t16.2.1 ++ (sW cI uP aP t12.2.2.2.2.2.1 t12.2.2.2.2.2.2.1 t12.2.2.2.2.2.2.2.1 t12.2.2.2.2.2.2.2.2.1 t12.2.2.2.2.2.2.2.2.2 t12.1 t12.2.1 t12.2.2.1 t12.2.2.2.1 t12.2.2.2.2.1)))) (wr := (sW cI uS aS S_x5 S_x6 S_x7 S_x8 S_x9 S_r0 S_r1 S_r2 S_r3 S_r4)) (w1 := (lW uL uE uD uT uV uS uP L_x6 L_x7 ++ (tW cI uT aT t19.2.2.1 t19.2.2.2.1 t19.2.2.2.2.1 t19.2.2.2.2.2.1 t19.2.2.2.2.2.2.1 t19.2.2.2.2.2.2.2 t19.2.1 ++ (sW cI uP aP t12.2.2.2.2.2.1 t12.2.2.2.2.2.2.1 t12.2.2.2.2.2.2.2.1 t12.2.2.2.2.2.2.2.2.1 t12.2.2.2.2.2.2.2.2.2 t12.1 t12.2.1 t12.2.2.1 t12.2.2.2.1 t12.2.2.2.2.1)))) (ws1 := (lW uL uE uD uT uV uS uP L_x6 L_x7 ++ (tW cI uT aT t19.2.2.1 t19.2.2.2.1 t19.2.2.2.2.1 t19.2.2.2.2.2.1 t19.2.2.2.2.2.2.1 t19.2.2.2.2.2.2.2 t19.2.1 ++ (sW cI uS aS S_x5 S_x6 S_x7 S_x8 S_x9 S_r0 S_r1 S_r2 S_r3 S_r4 ++ (sW cI uP aP t12.2.2.2.2.2.1 t12.2.2.2.2.2.2.1 t12.2.2.2.2.2.2.2.1 t12.2.2.2.2.2.2.2.2.1 t12.2.2.2.2.2.2.2.2.2 t12.1 t12.2.1 t12.2.2.1 t12.2.2.2.1 t12.2.2.2.2.1))))) (As := [.ref uP, .int t14, .int a2, .int t16.1]) (rest := []) (st1 := [.int t19.1]) 0 [0, 1, 2, 9, 10, 11, 12, 13, 14] [3, 4, 5, 6, 7, 8] [6, 7, 8, 0, 1, 2, 3, 4, 5, 9, 10, 11, 12, 13, 14] F (kX5_gainAt l D cI cB cS uL L_x6 L_x7 uT aT t16.2.2.1 t16.2.2.2.1 t16.2.2.2.2.1 t16.2.2.2.2.2.1 t16.2.2.2.2.2.2.1 t16.2.2.2.2.2.2.2 t16.2.1 uP aP t12.2.2.2.2.2.1 t12.2.2.2.2.2.2.1 t12.2.2.2.2.2.2.2.1 t12.2.2.2.2.2.2.2.2.1 t12.2.2.2.2.2.2.2.2.2 t12.1 t12.2.1 t12.2.2.1 t12.2.2.2.1 t12.2.2.2.2.1 uE uD uV uS uP t14 a2 t16.1 _ hc20 ) okX5_gainAt w_529 (by decide) (by decide) ⟨Nat.zero_le _, Nat.zero_le _⟩ rfl rfl rfl jP jD jS rfl jl.1 rfl rfl (Nat.le_of_ble_eq_true rfl) dX5_outcome_40 rfl rfl (by decide) (by decide) (by decide) rfl (by decide) (fun H locs jP jD jS => ?_)
      obtain rfl := Option.some.inj hvt21
      exact hJt21 _ _ _ jP jD jS (lv_sub jl [3, 4] rfl)
    · have hvt21 := itp c18 hvt21
      refine lv_iconst (v := (0 : Int32)) hx hb dX5_outcome_29 (by decide) ?_
      refine lv_goto (tgt := 43) hx hb dX5_outcome_30 (by decide) ?_
      obtain rfl := Option.some.inj hvt21
      exact hJt21 _ _ _ jP jD jS (lv_sub jl [3, 4] rfl)
theorem okX5_laws : okV yX5_laws cX5_laws 5 (some .int) 3 := ⟨w_673, w_674, w_675, w_2, by decide, by decide, by decide +kernel⟩
def fX5_laws (P_r0 : (Nat → Int32)) (P_r1 : (Nat → Int32)) (P_r2 : (Nat → Int32)) (P_r3 : (Nat → Int32)) (P_r4 : (Nat → Int32)) (P_x5 : Int32) (P_x6 : Int32) (P_x7 : Int32) (P_x8 : Int32) (P_x9 : Int32) (S_r0 : (Nat → Int32)) (S_r1 : (Nat → Int32)) (S_r2 : (Nat → Int32)) (S_r3 : (Nat → Int32)) (S_r4 : (Nat → Int32)) (S_x5 : Int32) (S_x6 : Int32) (S_x7 : Int32) (S_x8 : Int32) (S_x9 : Int32) (T_r0 : (Nat → Int32)) (T_x1 : Int32) (T_x2 : Int32) (T_x3 : Int32) (T_x4 : Int32) (T_x5 : Int32) (T_x6 : Int32) (a1 : Int32) (a2 : Int32) (a3 : Int32) : Option (Int32 × (Nat → Int32) × (Nat → Int32) × (Nat → Int32) × (Nat → Int32) × (Nat → Int32) × Int32 × Int32 × Int32 × Int32 × Int32 × (Nat → Int32) × Int32 × Int32 × Int32 × Int32 × Int32 × Int32) :=
  bd (fX5_goTogether (S_x5) a1) (fun t1 => if t1 = (0 : Int32) then (some ((-1000000000 : Int32), P_r0, P_r1, P_r2, P_r3, P_r4, P_x5, P_x6, P_x7, P_x8, P_x9, T_r0, T_x1, T_x2, T_x3, T_x4, T_x5, T_x6)) else (bd (fX5_isWithin a2 (0 : Int32) (99 : Int32)) (fun t4 => if t4 = (0 : Int32) then (some ((-1000000000 : Int32), P_r0, P_r1, P_r2, P_r3, P_r4, P_x5, P_x6, P_x7, P_x8, P_x9, T_r0, T_x1, T_x2, T_x3, T_x4, T_x5, T_x6)) else (bd (fX5_isWithin a3 (0 : Int32) (1 : Int32)) (fun t7 => if t7 = (0 : Int32) then (some ((-1000000000 : Int32), P_r0, P_r1, P_r2, P_r3, P_r4, P_x5, P_x6, P_x7, P_x8, P_x9, T_r0, T_x1, T_x2, T_x3, T_x4, T_x5, T_x6)) else (if a3 = (0 : Int32) then (bd (fX5_outcome (P_r0) (P_r1) (P_r2) (P_r3) (P_r4) (P_x5) (P_x6) (P_x7) (P_x8) (P_x9) (S_r0) (S_r1) (S_r2) (S_r3) (S_r4) (S_x5) (S_x6) (S_x7) (S_x8) (S_x9) (T_r0) (T_x1) (T_x2) (T_x3) (T_x4) (T_x5) (T_x6) a1 a2) (fun t26 => some (t26.1, t26.2.1, t26.2.2.1, t26.2.2.2.1, t26.2.2.2.2.1, t26.2.2.2.2.2.1, t26.2.2.2.2.2.2.1, t26.2.2.2.2.2.2.2.1, t26.2.2.2.2.2.2.2.2.1, t26.2.2.2.2.2.2.2.2.2.1, t26.2.2.2.2.2.2.2.2.2.2.1, t26.2.2.2.2.2.2.2.2.2.2.2.1, t26.2.2.2.2.2.2.2.2.2.2.2.2.1, t26.2.2.2.2.2.2.2.2.2.2.2.2.2.1, t26.2.2.2.2.2.2.2.2.2.2.2.2.2.2.1, t26.2.2.2.2.2.2.2.2.2.2.2.2.2.2.2.1, t26.2.2.2.2.2.2.2.2.2.2.2.2.2.2.2.2.1, t26.2.2.2.2.2.2.2.2.2.2.2.2.2.2.2.2.2))) else (if (a1 &&& (4 : Int32)) = (0 : Int32) then (bd (fX5_leftBya a1) (fun t12 => bd (fX5_offerOf a1) (fun t14 => bd (fX5_bestPrice (S_r0) (S_r1) (S_r2) (S_r3) (S_r4) (S_x5) (S_x6) (S_x7) (S_x8) (T_r0) (T_x1) (T_x2) (T_x3) (T_x4) (T_x5) (T_x6) t14 a2) (fun t16 => if t16.1 = (-4 : Int32) then (some ((-1000000004 : Int32), P_r0, P_r1, P_r2, P_r3, P_r4, P_x5, P_x6, P_x7, P_x8, P_x9, t16.2.1, t16.2.2.1, t16.2.2.2.1, t16.2.2.2.2.1, t16.2.2.2.2.2.1, t16.2.2.2.2.2.2.1, t16.2.2.2.2.2.2.2)) else (some (t16.1, P_r0, P_r1, P_r2, P_r3, P_r4, P_x5, P_x6, P_x7, P_x8, P_x9, t16.2.1, t16.2.2.1, t16.2.2.2.1, t16.2.2.2.2.1, t16.2.2.2.2.2.1, t16.2.2.2.2.2.2.1, t16.2.2.2.2.2.2.2)))))) else (bd (fX5_leftByb (P_r0) (P_r1) (P_r2) (P_r3) (P_r4) (S_r0) (S_r1) (S_r2) (S_r3) (S_r4) (S_x5) (S_x6) (S_x7) (S_x8) (S_x9) a1) (fun t19 => bd (fX5_offerOf a1) (fun t21 => bd (fX5_bestPrice t19.1 t19.2.1 t19.2.2.1 t19.2.2.2.1 t19.2.2.2.2.1 t19.2.2.2.2.2.1 t19.2.2.2.2.2.2.1 t19.2.2.2.2.2.2.2.1 t19.2.2.2.2.2.2.2.2.1 (T_r0) (T_x1) (T_x2) (T_x3) (T_x4) (T_x5) (T_x6) t21 a2) (fun t23 => if t23.1 = (-4 : Int32) then (some ((-1000000004 : Int32), t19.1, t19.2.1, t19.2.2.1, t19.2.2.2.1, t19.2.2.2.2.1, t19.2.2.2.2.2.1, t19.2.2.2.2.2.2.1, t19.2.2.2.2.2.2.2.1, t19.2.2.2.2.2.2.2.2.1, t19.2.2.2.2.2.2.2.2.2, t23.2.1, t23.2.2.1, t23.2.2.2.1, t23.2.2.2.2.1, t23.2.2.2.2.2.1, t23.2.2.2.2.2.2.1, t23.2.2.2.2.2.2.2)) else (some (t23.1, t19.1, t19.2.1, t19.2.2.1, t19.2.2.2.1, t19.2.2.2.2.1, t19.2.2.2.2.2.1, t19.2.2.2.2.2.2.1, t19.2.2.2.2.2.2.2.1, t19.2.2.2.2.2.2.2.2.1, t19.2.2.2.2.2.2.2.2.2, t23.2.1, t23.2.2.1, t23.2.2.2.1, t23.2.2.2.2.1, t23.2.2.2.2.2.1, t23.2.2.2.2.2.2.1, t23.2.2.2.2.2.2.2)))))))))))))
set_option maxRecDepth 100000 in
set_option maxHeartbeats 4000000 in
theorem kX5_laws (l : Launch) (D : va_G) (cI cB cS : ClassId) (uL : Nat) (L_x6 : Int32) (L_x7 : Int32) (uT : Nat) (aT : Nat → Nat) (T_x1 : Int32) (T_x2 : Int32) (T_x3 : Int32) (T_x4 : Int32) (T_x5 : Int32) (T_x6 : Int32) (T_r0 : (Nat → Int32)) (uS : Nat) (aS : Nat → Nat) (S_x5 : Int32) (S_x6 : Int32) (S_x7 : Int32) (S_x8 : Int32) (S_x9 : Int32) (S_r0 : (Nat → Int32)) (S_r1 : (Nat → Int32)) (S_r2 : (Nat → Int32)) (S_r3 : (Nat → Int32)) (S_r4 : (Nat → Int32)) (uP : Nat) (aP : Nat → Nat) (P_x5 : Int32) (P_x6 : Int32) (P_x7 : Int32) (P_x8 : Int32) (P_x9 : Int32) (P_r0 : (Nat → Int32)) (P_r1 : (Nat → Int32)) (P_r2 : (Nat → Int32)) (P_r3 : (Nat → Int32)) (P_r4 : (Nat → Int32)) (uE : Nat) (uD : Nat) (uV : Nat) (a1 : Int32) (a2 : Int32) (a3 : Int32) (z : (Int32 × (Nat → Int32) × (Nat → Int32) × (Nat → Int32) × (Nat → Int32) × (Nat → Int32) × Int32 × Int32 × Int32 × Int32 × Int32 × (Nat → Int32) × Int32 × Int32 × Int32 × Int32 × Int32 × Int32)) (h : fX5_laws P_r0 P_r1 P_r2 P_r3 P_r4 P_x5 P_x6 P_x7 P_x8 P_x9 S_r0 S_r1 S_r2 S_r3 S_r4 S_x5 S_x6 S_x7 S_x8 S_x9 T_r0 T_x1 T_x2 T_x3 T_x4 T_x5 T_x6 a1 a2 a3 = some z) : Mt l yX5_laws cX5_laws 5 (some .int) 5 147 D cI cB cS (lW uL uE uD uT uV uS uP L_x6 L_x7 ++ (tW cI uT aT T_x1 T_x2 T_x3 T_x4 T_x5 T_x6 T_r0 ++ (sW cI uS aS S_x5 S_x6 S_x7 S_x8 S_x9 S_r0 S_r1 S_r2 S_r3 S_r4 ++ (sW cI uP aP P_x5 P_x6 P_x7 P_x8 P_x9 P_r0 P_r1 P_r2 P_r3 P_r4)))) (lW uL uE uD uT uV uS uP L_x6 L_x7 ++ (tW cI uT aT z.2.2.2.2.2.2.2.2.2.2.2.2.1 z.2.2.2.2.2.2.2.2.2.2.2.2.2.1 z.2.2.2.2.2.2.2.2.2.2.2.2.2.2.1 z.2.2.2.2.2.2.2.2.2.2.2.2.2.2.2.1 z.2.2.2.2.2.2.2.2.2.2.2.2.2.2.2.2.1 z.2.2.2.2.2.2.2.2.2.2.2.2.2.2.2.2.2 z.2.2.2.2.2.2.2.2.2.2.2.1 ++ (sW cI uS aS S_x5 S_x6 S_x7 S_x8 S_x9 S_r0 S_r1 S_r2 S_r3 S_r4 ++ (sW cI uP aP z.2.2.2.2.2.2.1 z.2.2.2.2.2.2.2.1 z.2.2.2.2.2.2.2.2.1 z.2.2.2.2.2.2.2.2.2.1 z.2.2.2.2.2.2.2.2.2.2.1 z.2.1 z.2.2.1 z.2.2.2.1 z.2.2.2.2.1 z.2.2.2.2.2.1)))) [.ref uL, .int a1, .int a2, .int a3] (some (.int z.1)) := by
  refine entryI (by decide +kernel) rfl (Nat.le_of_ble_eq_true rfl) ?_
  intro p e s m below meth c A ls QQ R ar F hRet jP jD jS jl
  obtain ⟨hx, hb, hml, hown, hts, jK, hA, hf1, hf2⟩ := id F
  have jl : lv_has ls 5 [(0, .ref uL), (1, .int a1), (2, .int a2), (3, .int a3)] := jl
  unfold fX5_laws at h
  refine lv_aload_n hx hb dX5_laws_0 rfl (lv_at jl 0 rfl) ?_
  refine lv_iload_n hx hb dX5_laws_1 rfl (lv_at jl 1 rfl) ?_
  obtain ⟨t1, hc2, h⟩ := bd_some h
  refine callP (wc := (lW uL uE uD uT uV uS uP L_x6 L_x7 ++ (sW cI uS aS S_x5 S_x6 S_x7 S_x8 S_x9 S_r0 S_r1 S_r2 S_r3 S_r4))) (wr := (tW cI uT aT T_x1 T_x2 T_x3 T_x4 T_x5 T_x6 T_r0 ++ (sW cI uP aP P_x5 P_x6 P_x7 P_x8 P_x9 P_r0 P_r1 P_r2 P_r3 P_r4))) (w1 := (lW uL uE uD uT uV uS uP L_x6 L_x7 ++ (sW cI uS aS S_x5 S_x6 S_x7 S_x8 S_x9 S_r0 S_r1 S_r2 S_r3 S_r4))) (ws1 := (lW uL uE uD uT uV uS uP L_x6 L_x7 ++ (tW cI uT aT T_x1 T_x2 T_x3 T_x4 T_x5 T_x6 T_r0 ++ (sW cI uS aS S_x5 S_x6 S_x7 S_x8 S_x9 S_r0 S_r1 S_r2 S_r3 S_r4 ++ (sW cI uP aP P_x5 P_x6 P_x7 P_x8 P_x9 P_r0 P_r1 P_r2 P_r3 P_r4))))) (As := [.int a1]) (rest := []) (st1 := [.int t1]) 0 [0, 3, 4, 5, 6, 7, 8] [1, 2, 9, 10, 11, 12, 13, 14] [8, 0, 1, 9, 10, 11, 12, 13, 14, 2, 3, 4, 5, 6, 7] F (kX5_goTogether l D cI cB cS uL L_x6 L_x7 uS aS S_x5 S_x6 S_x7 S_x8 S_x9 S_r0 S_r1 S_r2 S_r3 S_r4 uE uD uT uV uP a1 _ hc2 ) okX5_goTogether w_676 (by decide) (by decide) ⟨Nat.zero_le _, Nat.zero_le _⟩ rfl rfl rfl jP jD jS rfl jl.1 rfl rfl (Nat.le_of_ble_eq_true rfl) dX5_laws_2 rfl rfl (by decide) (by decide) (by decide) rfl (by decide) (fun H locs jP jD jS => ?_)
  refine lv_if_eq (tgt := 27) hx hb dX5_laws_5 (by decide) (fun c3 => ?_) (fun c3 => ?_)
  · have h := itp c3 h
    refine lv_ldc (v := (-1000000000 : Int32)) hx hb hown (hts _ w_460) dX5_laws_27 ?_
    obtain rfl := Option.some.inj h
    exact hRet _ _ _ _ jP jD jS dX5_laws_29
  · have h := itn c3 h
    refine lv_iload_n hx hb dX5_laws_8 rfl (lv_at jl 2 rfl) ?_
    refine lv_iconst (v := (0 : Int32)) hx hb dX5_laws_9 (by decide) ?_
    refine lv_bipush (v := (99 : Int32)) hx hb dX5_laws_10 (by decide) ?_
    obtain ⟨t4, hc5, h⟩ := bd_some h
    refine call0 (As := [.int a2, .int (0 : Int32), .int (99 : Int32)]) (rest := []) (st1 := [.int t4]) F (kX5_isWithin l D cI cB cS  a2 (0 : Int32) (99 : Int32) _ hc5 ) okX5_isWithin w_105 (by decide) (by decide) ⟨Nat.zero_le _, Nat.zero_le _⟩ jP jD jS rfl jl.1 rfl rfl (Nat.le_of_ble_eq_true rfl) dX5_laws_12 (fun H locs jP jD jS => ?_)
    refine lv_if_eq (tgt := 27) hx hb dX5_laws_15 (by decide) (fun c6 => ?_) (fun c6 => ?_)
    · have h := itp c6 h
      refine lv_ldc (v := (-1000000000 : Int32)) hx hb hown (hts _ w_460) dX5_laws_27 ?_
      obtain rfl := Option.some.inj h
      exact hRet _ _ _ _ jP jD jS dX5_laws_29
    · have h := itn c6 h
      refine lv_iload_n hx hb dX5_laws_18 rfl (lv_at jl 3 rfl) ?_
      refine lv_iconst (v := (0 : Int32)) hx hb dX5_laws_19 (by decide) ?_
      refine lv_iconst (v := (1 : Int32)) hx hb dX5_laws_20 (by decide) ?_
      obtain ⟨t7, hc8, h⟩ := bd_some h
      refine call0 (As := [.int a3, .int (0 : Int32), .int (1 : Int32)]) (rest := []) (st1 := [.int t7]) F (kX5_isWithin l D cI cB cS  a3 (0 : Int32) (1 : Int32) _ hc8 ) okX5_isWithin w_105 (by decide) (by decide) ⟨Nat.zero_le _, Nat.zero_le _⟩ jP jD jS rfl jl.1 rfl rfl (Nat.le_of_ble_eq_true rfl) dX5_laws_21 (fun H locs jP jD jS => ?_)
      refine lv_if_ne (tgt := 30) hx hb dX5_laws_24 (by decide) (fun c9 => ?_) (fun c9 => ?_)
      · have h := itn c9 h
        refine lv_iload_n hx hb dX5_laws_30 rfl (lv_at jl 3 rfl) ?_
        refine lv_if_ne (tgt := 41) hx hb dX5_laws_31 (by decide) (fun c10 => ?_) (fun c10 => ?_)
        · have h := itn c10 h
          refine lv_aload_n hx hb dX5_laws_41 rfl (lv_at jl 0 rfl) ?_
          refine lv_aload_n hx hb dX5_laws_42 rfl (lv_at jl 0 rfl) ?_
          refine lv_iload_n hx hb dX5_laws_43 rfl (lv_at jl 1 rfl) ?_
          by_cases hk11 : (a1 &&& (4 : Int32)) = (0 : Int32)
          · have h := itp hk11 h
            obtain ⟨t12, hc13, h⟩ := bd_some h
            refine callP (wc := (lW uL uE uD uT uV uS uP L_x6 L_x7 ++ (sW cI uS aS S_x5 S_x6 S_x7 S_x8 S_x9 S_r0 S_r1 S_r2 S_r3 S_r4 ++ (sW cI uP aP P_x5 P_x6 P_x7 P_x8 P_x9 P_r0 P_r1 P_r2 P_r3 P_r4)))) (wr := (tW cI uT aT T_x1 T_x2 T_x3 T_x4 T_x5 T_x6 T_r0)) (w1 := (lW uL uE uD uT uV uS uP L_x6 L_x7 ++ (sW cI uS aS S_x5 S_x6 S_x7 S_x8 S_x9 S_r0 S_r1 S_r2 S_r3 S_r4 ++ (sW cI uP aP P_x5 P_x6 P_x7 P_x8 P_x9 P_r0 P_r1 P_r2 P_r3 P_r4)))) (ws1 := (lW uL uE uD uT uV uS uP L_x6 L_x7 ++ (tW cI uT aT T_x1 T_x2 T_x3 T_x4 T_x5 T_x6 T_r0 ++ (sW cI uS aS S_x5 S_x6 S_x7 S_x8 S_x9 S_r0 S_r1 S_r2 S_r3 S_r4 ++ (sW cI uP aP P_x5 P_x6 P_x7 P_x8 P_x9 P_r0 P_r1 P_r2 P_r3 P_r4))))) (As := [.int a1]) (rest := [.ref uL]) (st1 := [.ref uS, .ref uL]) 0 [0, 3, 4, 5, 6, 7, 8, 9, 10, 11, 12, 13, 14] [1, 2] [2, 0, 1, 3, 4, 5, 6, 7, 8, 9, 10, 11, 12, 13, 14] F (kX5_leftBya l D cI cB cS uL L_x6 L_x7 uS aS S_x5 S_x6 S_x7 S_x8 S_x9 S_r0 S_r1 S_r2 S_r3 S_r4 uP aP P_x5 P_x6 P_x7 P_x8 P_x9 P_r0 P_r1 P_r2 P_r3 P_r4 uE uD uT uV a1 _ hc13 hk11) okX5_leftBy w_691 (by decide) (by decide) ⟨Nat.zero_le _, Nat.zero_le _⟩ rfl rfl rfl jP jD jS rfl jl.1 rfl rfl (Nat.le_of_ble_eq_true rfl) dX5_laws_44 rfl rfl (by decide) (by decide) (by decide) rfl (by decide) (fun H locs jP jD jS => ?_)
            refine lv_iload_n hx hb dX5_laws_47 rfl (lv_at jl 1 rfl) ?_
            obtain ⟨t14, hc15, h⟩ := bd_some h
            refine call0 (As := [.int a1]) (rest := [.ref uS, .ref uL]) (st1 := [.int t14, .ref uS, .ref uL]) F (kX5_offerOf l D cI cB cS  a1 _ hc15 ) okX5_offerOf w_703 (by decide) (by decide) ⟨Nat.zero_le _, Nat.zero_le _⟩ jP jD jS rfl jl.1 rfl rfl (Nat.le_of_ble_eq_true rfl) dX5_laws_48 (fun H locs jP jD jS => ?_)
            refine lv_iload_n hx hb dX5_laws_51 rfl (lv_at jl 2 rfl) ?_
            obtain ⟨t16, hc17, h⟩ := bd_some h
            refine callP (wc := (lW uL uE uD uT uV uS uP L_x6 L_x7 ++ (tW cI uT aT T_x1 T_x2 T_x3 T_x4 T_x5 T_x6 T_r0 ++ (sW cI uS aS S_x5 S_x6 S_x7 S_x8 S_x9 S_r0 S_r1 S_r2 S_r3 S_r4)))) (wr := (sW cI uP aP P_x5 P_x6 P_x7 P_x8 P_x9 P_r0 P_r1 P_r2 P_r3 P_r4)) (w1 := (lW uL uE uD uT uV uS uP L_x6 L_x7 ++ (tW cI uT aT t16.2.2.1 t16.2.2.2.1 t16.2.2.2.2.1 t16.2.2.2.2.2.1 t16.2.2.2.2.2.2.1 t16.2.2.2.2.2.2.2 t16.2.1 ++ (sW cI uS aS S_x5 S_x6 S_x7 S_x8 S_x9 S_r0 S_r1 S_r2 S_r3 S_r4)))) (ws1 := (lW uL uE uD uT uV uS uP L_x6 L_x7 ++ (tW cI uT aT t16.2.2.1 t16.2.2.2.1 t16.2.2.2.2.1 t16.2.2.2.2.2.1 t16.2.2.2.2.2.2.1 t16.2.2.2.2.2.2.2 t16.2.1 ++ (sW cI uS aS S_x5 S_x6 S_x7 S_x8 S_x9 S_r0 S_r1 S_r2 S_r3 S_r4 ++ (sW cI uP aP P_x5 P_x6 P_x7 P_x8 P_x9 P_r0 P_r1 P_r2 P_r3 P_r4))))) (As := [.ref uS, .int t14, .int a2]) (rest := []) (st1 := [.int t16.1]) 0 [0, 1, 2, 3, 4, 5, 6, 7, 8] [9, 10, 11, 12, 13, 14] [6, 7, 8, 9, 10, 11, 12, 13, 14, 0, 1, 2, 3, 4, 5] F (kX5_bestPrice l D cI cB cS uL L_x6 L_x7 uT aT T_x1 T_x2 T_x3 T_x4 T_x5 T_x6 T_r0 uS aS S_x5 S_x6 S_x7 S_x8 S_x9 S_r0 S_r1 S_r2 S_r3 S_r4 uE uD uV uS uP t14 a2 _ hc17 ) okX5_bestPrice w_551 (by decide) (by decide) ⟨Nat.zero_le _, Nat.zero_le _⟩ rfl rfl rfl jP jD jS rfl jl.1 rfl rfl (Nat.le_of_ble_eq_true rfl) dX5_laws_52 rfl rfl (by decide) (by decide) (by decide) rfl (by decide) (fun H locs jP jD jS => ?_)
            refine lv_istore (lv' := [(4, .int t16.1), (0, .ref uL), (1, .int a1), (2, .int a2), (3, .int a3)]) hx hb dX5_laws_55 jl (by decide) rfl (fun ls jl => ?_)
            refine lv_iload hx hb dX5_laws_57 (lv_at jl 0 rfl) ?_
            refine lv_bipush (v := (-4 : Int32)) hx hb dX5_laws_59 (by decide) ?_
            refine lv_icmp_ne (tgt := 69) hx hb dX5_laws_61 (by decide) (fun c18 => ?_) (fun c18 => ?_)
            · have h := itn c18 h
              refine lv_iload hx hb dX5_laws_69 (lv_at jl 0 rfl) ?_
              obtain rfl := Option.some.inj h
              exact hRet _ _ _ _ jP jD jS dX5_laws_71
            · have h := itp c18 h
              refine lv_ldc (v := (-1000000004 : Int32)) hx hb hown (hts _ w_461) dX5_laws_64 ?_
              refine lv_goto (tgt := 71) hx hb dX5_laws_66 (by decide) ?_
              obtain rfl := Option.some.inj h
              exact hRet _ _ _ _ jP jD jS dX5_laws_71
          · have h := itn hk11 h
            obtain ⟨t19, hc20, h⟩ := bd_some h
            refine callP (wc := (lW uL uE uD uT uV uS uP L_x6 L_x7 ++ (sW cI uS aS S_x5 S_x6 S_x7 S_x8 S_x9 S_r0 S_r1 S_r2 S_r3 S_r4 ++ (sW cI uP aP P_x5 P_x6 P_x7 P_x8 P_x9 P_r0 P_r1 P_r2 P_r3 P_r4)))) (wr := (tW cI uT aT T_x1 T_x2 T_x3 T_x4 T_x5 T_x6 T_r0)) (w1 := (lW uL uE uD uT uV uS uP L_x6 L_x7 ++ (sW cI uS aS S_x5 S_x6 S_x7 S_x8 S_x9 S_r0 S_r1 S_r2 S_r3 S_r4 ++ (sW cI uP aP t19.2.2.2.2.2.1 t19.2.2.2.2.2.2.1 t19.2.2.2.2.2.2.2.1 t19.2.2.2.2.2.2.2.2.1 t19.2.2.2.2.2.2.2.2.2 t19.1 t19.2.1 t19.2.2.1 t19.2.2.2.1 t19.2.2.2.2.1)))) (ws1 := (lW uL uE uD uT uV uS uP L_x6 L_x7 ++ (tW cI uT aT T_x1 T_x2 T_x3 T_x4 T_x5 T_x6 T_r0 ++ (sW cI uS aS S_x5 S_x6 S_x7 S_x8 S_x9 S_r0 S_r1 S_r2 S_r3 S_r4 ++ (sW cI uP aP t19.2.2.2.2.2.1 t19.2.2.2.2.2.2.1 t19.2.2.2.2.2.2.2.1 t19.2.2.2.2.2.2.2.2.1 t19.2.2.2.2.2.2.2.2.2 t19.1 t19.2.1 t19.2.2.1 t19.2.2.2.1 t19.2.2.2.2.1))))) (As := [.int a1]) (rest := [.ref uL]) (st1 := [.ref uP, .ref uL]) 0 [0, 3, 4, 5, 6, 7, 8, 9, 10, 11, 12, 13, 14] [1, 2] [2, 0, 1, 3, 4, 5, 6, 7, 8, 9, 10, 11, 12, 13, 14] F (kX5_leftByb l D cI cB cS uL L_x6 L_x7 uS aS S_x5 S_x6 S_x7 S_x8 S_x9 S_r0 S_r1 S_r2 S_r3 S_r4 uP aP P_x5 P_x6 P_x7 P_x8 P_x9 P_r0 P_r1 P_r2 P_r3 P_r4 uE uD uT uV a1 _ hc20 hk11) okX5_leftBy w_691 (by decide) (by decide) ⟨Nat.zero_le _, Nat.zero_le _⟩ rfl rfl rfl jP jD jS rfl jl.1 rfl rfl (Nat.le_of_ble_eq_true rfl) dX5_laws_44 rfl rfl (by decide) (by decide) (by decide) rfl (by decide) (fun H locs jP jD jS => ?_)
            refine lv_iload_n hx hb dX5_laws_47 rfl (lv_at jl 1 rfl) ?_
            obtain ⟨t21, hc22, h⟩ := bd_some h
            refine call0 (As := [.int a1]) (rest := [.ref uP, .ref uL]) (st1 := [.int t21, .ref uP, .ref uL]) F (kX5_offerOf l D cI cB cS  a1 _ hc22 ) okX5_offerOf w_703 (by decide) (by decide) ⟨Nat.zero_le _, Nat.zero_le _⟩ jP jD jS rfl jl.1 rfl rfl (Nat.le_of_ble_eq_true rfl) dX5_laws_48 (fun H locs jP jD jS => ?_)
            refine lv_iload_n hx hb dX5_laws_51 rfl (lv_at jl 2 rfl) ?_
            obtain ⟨t23, hc24, h⟩ := bd_some h
            refine callP (wc := (lW uL uE uD uT uV uS uP L_x6 L_x7 ++ (tW cI uT aT T_x1 T_x2 T_x3 T_x4 T_x5 T_x6 T_r0 ++ (sW cI uP aP t19.2.2.2.2.2.1 t19.2.2.2.2.2.2.1 t19.2.2.2.2.2.2.2.1 t19.2.2.2.2.2.2.2.2.1 t19.2.2.2.2.2.2.2.2.2 t19.1 t19.2.1 t19.2.2.1 t19.2.2.2.1 t19.2.2.2.2.1)))) (wr := (sW cI uS aS S_x5 S_x6 S_x7 S_x8 S_x9 S_r0 S_r1 S_r2 S_r3 S_r4)) (w1 := (lW uL uE uD uT uV uS uP L_x6 L_x7 ++ (tW cI uT aT t23.2.2.1 t23.2.2.2.1 t23.2.2.2.2.1 t23.2.2.2.2.2.1 t23.2.2.2.2.2.2.1 t23.2.2.2.2.2.2.2 t23.2.1 ++ (sW cI uP aP t19.2.2.2.2.2.1 t19.2.2.2.2.2.2.1 t19.2.2.2.2.2.2.2.1 t19.2.2.2.2.2.2.2.2.1 t19.2.2.2.2.2.2.2.2.2 t19.1 t19.2.1 t19.2.2.1 t19.2.2.2.1 t19.2.2.2.2.1)))) (ws1 := (lW uL uE uD uT uV uS uP L_x6 L_x7 ++ (tW cI uT aT t23.2.2.1 t23.2.2.2.1 t23.2.2.2.2.1 t23.2.2.2.2.2.1 t23.2.2.2.2.2.2.1 t23.2.2.2.2.2.2.2 t23.2.1 ++ (sW cI uS aS S_x5 S_x6 S_x7 S_x8 S_x9 S_r0 S_r1 S_r2 S_r3 S_r4 ++ (sW cI uP aP t19.2.2.2.2.2.1 t19.2.2.2.2.2.2.1 t19.2.2.2.2.2.2.2.1 t19.2.2.2.2.2.2.2.2.1 t19.2.2.2.2.2.2.2.2.2 t19.1 t19.2.1 t19.2.2.1 t19.2.2.2.1 t19.2.2.2.2.1))))) (As := [.ref uP, .int t21, .int a2]) (rest := []) (st1 := [.int t23.1]) 0 [0, 1, 2, 9, 10, 11, 12, 13, 14] [3, 4, 5, 6, 7, 8] [6, 7, 8, 0, 1, 2, 3, 4, 5, 9, 10, 11, 12, 13, 14] F (kX5_bestPrice l D cI cB cS uL L_x6 L_x7 uT aT T_x1 T_x2 T_x3 T_x4 T_x5 T_x6 T_r0 uP aP t19.2.2.2.2.2.1 t19.2.2.2.2.2.2.1 t19.2.2.2.2.2.2.2.1 t19.2.2.2.2.2.2.2.2.1 t19.2.2.2.2.2.2.2.2.2 t19.1 t19.2.1 t19.2.2.1 t19.2.2.2.1 t19.2.2.2.2.1 uE uD uV uS uP t21 a2 _ hc24 ) okX5_bestPrice w_551 (by decide) (by decide) ⟨Nat.zero_le _, Nat.zero_le _⟩ rfl rfl rfl jP jD jS rfl jl.1 rfl rfl (Nat.le_of_ble_eq_true rfl) dX5_laws_52 rfl rfl (by decide) (by decide) (by decide) rfl (by decide) (fun H locs jP jD jS => ?_)
            refine lv_istore (lv' := [(4, .int t23.1), (0, .ref uL), (1, .int a1), (2, .int a2), (3, .int a3)]) hx hb dX5_laws_55 jl (by decide) rfl (fun ls jl => ?_)
            refine lv_iload hx hb dX5_laws_57 (lv_at jl 0 rfl) ?_
            refine lv_bipush (v := (-4 : Int32)) hx hb dX5_laws_59 (by decide) ?_
            refine lv_icmp_ne (tgt := 69) hx hb dX5_laws_61 (by decide) (fun c25 => ?_) (fun c25 => ?_)
            · have h := itn c25 h
              refine lv_iload hx hb dX5_laws_69 (lv_at jl 0 rfl) ?_
              obtain rfl := Option.some.inj h
              exact hRet _ _ _ _ jP jD jS dX5_laws_71
            · have h := itp c25 h
              refine lv_ldc (v := (-1000000004 : Int32)) hx hb hown (hts _ w_461) dX5_laws_64 ?_
              refine lv_goto (tgt := 71) hx hb dX5_laws_66 (by decide) ?_
              obtain rfl := Option.some.inj h
              exact hRet _ _ _ _ jP jD jS dX5_laws_71
        · have h := itp c10 h
          refine lv_aload_n hx hb dX5_laws_34 rfl (lv_at jl 0 rfl) ?_
          refine lv_iload_n hx hb dX5_laws_35 rfl (lv_at jl 1 rfl) ?_
          refine lv_iload_n hx hb dX5_laws_36 rfl (lv_at jl 2 rfl) ?_
          obtain ⟨t26, hc27, h⟩ := bd_some h
          refine callW (w1 := (lW uL uE uD uT uV uS uP L_x6 L_x7 ++ (tW cI uT aT t26.2.2.2.2.2.2.2.2.2.2.2.2.1 t26.2.2.2.2.2.2.2.2.2.2.2.2.2.1 t26.2.2.2.2.2.2.2.2.2.2.2.2.2.2.1 t26.2.2.2.2.2.2.2.2.2.2.2.2.2.2.2.1 t26.2.2.2.2.2.2.2.2.2.2.2.2.2.2.2.2.1 t26.2.2.2.2.2.2.2.2.2.2.2.2.2.2.2.2.2 t26.2.2.2.2.2.2.2.2.2.2.2.1 ++ (sW cI uS aS S_x5 S_x6 S_x7 S_x8 S_x9 S_r0 S_r1 S_r2 S_r3 S_r4 ++ (sW cI uP aP t26.2.2.2.2.2.2.1 t26.2.2.2.2.2.2.2.1 t26.2.2.2.2.2.2.2.2.1 t26.2.2.2.2.2.2.2.2.2.1 t26.2.2.2.2.2.2.2.2.2.2.1 t26.2.1 t26.2.2.1 t26.2.2.2.1 t26.2.2.2.2.1 t26.2.2.2.2.2.1))))) (As := [.int a1, .int a2]) (rest := []) (st1 := [.int t26.1]) 0 F (kX5_outcome l D cI cB cS uL L_x6 L_x7 uT aT T_x1 T_x2 T_x3 T_x4 T_x5 T_x6 T_r0 uS aS S_x5 S_x6 S_x7 S_x8 S_x9 S_r0 S_r1 S_r2 S_r3 S_r4 uP aP P_x5 P_x6 P_x7 P_x8 P_x9 P_r0 P_r1 P_r2 P_r3 P_r4 uE uD uV a1 a2 _ hc27 ) okX5_outcome w_687 (by decide) (by decide) ⟨Nat.zero_le _, Nat.zero_le _⟩ rfl rfl rfl jP jD jS rfl jl.1 rfl rfl (Nat.le_of_ble_eq_true rfl) dX5_laws_37 (fun H locs jP jD jS => ?_)
          obtain rfl := Option.some.inj h
          exact hRet _ _ _ _ jP jD jS dX5_laws_40
      · have h := itp c9 h
        refine lv_ldc (v := (-1000000000 : Int32)) hx hb hown (hts _ w_460) dX5_laws_27 ?_
        obtain rfl := Option.some.inj h
        exact hRet _ _ _ _ jP jD jS dX5_laws_29
theorem okX5_bestLaws : okV yX5_bestLaws cX5_bestLaws 7 (some .int) 2 := ⟨w_721, w_722, w_723, w_2, by decide, by decide, by decide +kernel⟩
def fX5_bestLaws_b35 (l1 : Int32) (l2 : Int32) (S_x5 : Int32) (S_r0 : (Nat → Int32)) (S_r1 : (Nat → Int32)) (S_r2 : (Nat → Int32)) (S_r3 : (Nat → Int32)) (S_r4 : (Nat → Int32)) (S_x6 : Int32) (S_x7 : Int32) (S_x8 : Int32) (S_x9 : Int32) (v1 : (Int32 × Int32 × Int32 × (Nat → Int32) × (Nat → Int32) × (Nat → Int32) × (Nat → Int32) × (Nat → Int32) × Int32 × Int32 × Int32 × Int32 × Int32 × (Nat → Int32) × Int32 × Int32 × Int32 × Int32 × Int32 × Int32)) : Option ((Int32 × Int32 × Int32 × (Nat → Int32) × (Nat → Int32) × (Nat → Int32) × (Nat → Int32) × (Nat → Int32) × Int32 × Int32 × Int32 × Int32 × Int32 × (Nat → Int32) × Int32 × Int32 × Int32 × Int32 × Int32 × Int32) ⊕ (Int32 × Int32 × (Nat → Int32) × (Nat → Int32) × (Nat → Int32) × (Nat → Int32) × (Nat → Int32) × Int32 × Int32 × Int32 × Int32 × Int32 × (Nat → Int32) × Int32 × Int32 × Int32 × Int32 × Int32 × Int32)) :=
  if (16 : Int32) ≤ v1.2.2.1 then (some (.inr (v1.1, v1.2.1, v1.2.2.2.1, v1.2.2.2.2.1, v1.2.2.2.2.2.1, v1.2.2.2.2.2.2.1, v1.2.2.2.2.2.2.2.1, v1.2.2.2.2.2.2.2.2.1, v1.2.2.2.2.2.2.2.2.2.1, v1.2.2.2.2.2.2.2.2.2.2.1, v1.2.2.2.2.2.2.2.2.2.2.2.1, v1.2.2.2.2.2.2.2.2.2.2.2.2.1, v1.2.2.2.2.2.2.2.2.2.2.2.2.2.1, v1.2.2.2.2.2.2.2.2.2.2.2.2.2.2.1, v1.2.2.2.2.2.2.2.2.2.2.2.2.2.2.2.1, v1.2.2.2.2.2.2.2.2.2.2.2.2.2.2.2.2.1, v1.2.2.2.2.2.2.2.2.2.2.2.2.2.2.2.2.2.1, v1.2.2.2.2.2.2.2.2.2.2.2.2.2.2.2.2.2.2.1, v1.2.2.2.2.2.2.2.2.2.2.2.2.2.2.2.2.2.2.2))) else (bd (fX5_goTogether (S_x5) v1.2.2.1) (fun t1 => bd (if t1 = (0 : Int32) then (some (v1.1, v1.2.1, v1.2.2.2.1, v1.2.2.2.2.1, v1.2.2.2.2.2.1, v1.2.2.2.2.2.2.1, v1.2.2.2.2.2.2.2.1, v1.2.2.2.2.2.2.2.2.1, v1.2.2.2.2.2.2.2.2.2.1, v1.2.2.2.2.2.2.2.2.2.2.1, v1.2.2.2.2.2.2.2.2.2.2.2.1, v1.2.2.2.2.2.2.2.2.2.2.2.2.1, v1.2.2.2.2.2.2.2.2.2.2.2.2.2.1, v1.2.2.2.2.2.2.2.2.2.2.2.2.2.2.1, v1.2.2.2.2.2.2.2.2.2.2.2.2.2.2.2.1, v1.2.2.2.2.2.2.2.2.2.2.2.2.2.2.2.2.1, v1.2.2.2.2.2.2.2.2.2.2.2.2.2.2.2.2.2.1, v1.2.2.2.2.2.2.2.2.2.2.2.2.2.2.2.2.2.2.1, v1.2.2.2.2.2.2.2.2.2.2.2.2.2.2.2.2.2.2.2)) else (bd (fX5_outcome v1.2.2.2.1 v1.2.2.2.2.1 v1.2.2.2.2.2.1 v1.2.2.2.2.2.2.1 v1.2.2.2.2.2.2.2.1 v1.2.2.2.2.2.2.2.2.1 v1.2.2.2.2.2.2.2.2.2.1 v1.2.2.2.2.2.2.2.2.2.2.1 v1.2.2.2.2.2.2.2.2.2.2.2.1 v1.2.2.2.2.2.2.2.2.2.2.2.2.1 (S_r0) (S_r1) (S_r2) (S_r3) (S_r4) (S_x5) (S_x6) (S_x7) (S_x8) (S_x9) v1.2.2.2.2.2.2.2.2.2.2.2.2.2.1 v1.2.2.2.2.2.2.2.2.2.2.2.2.2.2.1 v1.2.2.2.2.2.2.2.2.2.2.2.2.2.2.2.1 v1.2.2.2.2.2.2.2.2.2.2.2.2.2.2.2.2.1 v1.2.2.2.2.2.2.2.2.2.2.2.2.2.2.2.2.2.1 v1.2.2.2.2.2.2.2.2.2.2.2.2.2.2.2.2.2.2.1 v1.2.2.2.2.2.2.2.2.2.2.2.2.2.2.2.2.2.2.2 v1.2.2.1 (l1)) (fun t2 => if t2.1 ≤ v1.2.1 then (some (v1.1, v1.2.1, t2.2.1, t2.2.2.1, t2.2.2.2.1, t2.2.2.2.2.1, t2.2.2.2.2.2.1, t2.2.2.2.2.2.2.1, t2.2.2.2.2.2.2.2.1, t2.2.2.2.2.2.2.2.2.1, t2.2.2.2.2.2.2.2.2.2.1, t2.2.2.2.2.2.2.2.2.2.2.1, t2.2.2.2.2.2.2.2.2.2.2.2.1, t2.2.2.2.2.2.2.2.2.2.2.2.2.1, t2.2.2.2.2.2.2.2.2.2.2.2.2.2.1, t2.2.2.2.2.2.2.2.2.2.2.2.2.2.2.1, t2.2.2.2.2.2.2.2.2.2.2.2.2.2.2.2.1, t2.2.2.2.2.2.2.2.2.2.2.2.2.2.2.2.2.1, t2.2.2.2.2.2.2.2.2.2.2.2.2.2.2.2.2.2)) else (some (v1.2.2.1, t2.1, t2.2.1, t2.2.2.1, t2.2.2.2.1, t2.2.2.2.2.1, t2.2.2.2.2.2.1, t2.2.2.2.2.2.2.1, t2.2.2.2.2.2.2.2.1, t2.2.2.2.2.2.2.2.2.1, t2.2.2.2.2.2.2.2.2.2.1, t2.2.2.2.2.2.2.2.2.2.2.1, t2.2.2.2.2.2.2.2.2.2.2.2.1, t2.2.2.2.2.2.2.2.2.2.2.2.2.1, t2.2.2.2.2.2.2.2.2.2.2.2.2.2.1, t2.2.2.2.2.2.2.2.2.2.2.2.2.2.2.1, t2.2.2.2.2.2.2.2.2.2.2.2.2.2.2.2.1, t2.2.2.2.2.2.2.2.2.2.2.2.2.2.2.2.2.1, t2.2.2.2.2.2.2.2.2.2.2.2.2.2.2.2.2.2))))) (fun t3 => some (.inl (t3.1, t3.2.1, (v1.2.2.1 + (1 : Int32)), t3.2.2.1, t3.2.2.2.1, t3.2.2.2.2.1, t3.2.2.2.2.2.1, t3.2.2.2.2.2.2.1, t3.2.2.2.2.2.2.2.1, t3.2.2.2.2.2.2.2.2.1, t3.2.2.2.2.2.2.2.2.2.1, t3.2.2.2.2.2.2.2.2.2.2.1, t3.2.2.2.2.2.2.2.2.2.2.2.1, t3.2.2.2.2.2.2.2.2.2.2.2.2.1, t3.2.2.2.2.2.2.2.2.2.2.2.2.2.1, t3.2.2.2.2.2.2.2.2.2.2.2.2.2.2.1, t3.2.2.2.2.2.2.2.2.2.2.2.2.2.2.2.1, t3.2.2.2.2.2.2.2.2.2.2.2.2.2.2.2.2.1, t3.2.2.2.2.2.2.2.2.2.2.2.2.2.2.2.2.2.1, t3.2.2.2.2.2.2.2.2.2.2.2.2.2.2.2.2.2.2)))))
def fX5_bestLaws (P_r0 : (Nat → Int32)) (P_r1 : (Nat → Int32)) (P_r2 : (Nat → Int32)) (P_r3 : (Nat → Int32)) (P_r4 : (Nat → Int32)) (P_x5 : Int32) (P_x6 : Int32) (P_x7 : Int32) (P_x8 : Int32) (P_x9 : Int32) (S_r0 : (Nat → Int32)) (S_r1 : (Nat → Int32)) (S_r2 : (Nat → Int32)) (S_r3 : (Nat → Int32)) (S_r4 : (Nat → Int32)) (S_x5 : Int32) (S_x6 : Int32) (S_x7 : Int32) (S_x8 : Int32) (S_x9 : Int32) (T_r0 : (Nat → Int32)) (T_x1 : Int32) (T_x2 : Int32) (T_x3 : Int32) (T_x4 : Int32) (T_x5 : Int32) (T_x6 : Int32) (a1 : Int32) (a2 : Int32) : Option (Int32 × (Nat → Int32) × (Nat → Int32) × (Nat → Int32) × (Nat → Int32) × (Nat → Int32) × Int32 × Int32 × Int32 × Int32 × Int32 × (Nat → Int32) × Int32 × Int32 × Int32 × Int32 × Int32 × Int32) :=
  bd (fX5_isWithin a1 (0 : Int32) (99 : Int32)) (fun t1 => if t1 = (0 : Int32) then (some ((-1000000000 : Int32), P_r0, P_r1, P_r2, P_r3, P_r4, P_x5, P_x6, P_x7, P_x8, P_x9, T_r0, T_x1, T_x2, T_x3, T_x4, T_x5, T_x6)) else (bd (fX5_isWithin a2 (0 : Int32) (1 : Int32)) (fun t4 => if t4 = (0 : Int32) then (some ((-1000000000 : Int32), P_r0, P_r1, P_r2, P_r3, P_r4, P_x5, P_x6, P_x7, P_x8, P_x9, T_r0, T_x1, T_x2, T_x3, T_x4, T_x5, T_x6)) else (bd (fX5_outcome (P_r0) (P_r1) (P_r2) (P_r3) (P_r4) (P_x5) (P_x6) (P_x7) (P_x8) (P_x9) (S_r0) (S_r1) (S_r2) (S_r3) (S_r4) (S_x5) (S_x6) (S_x7) (S_x8) (S_x9) (T_r0) (T_x1) (T_x2) (T_x3) (T_x4) (T_x5) (T_x6) (0 : Int32) a1) (fun t7 => bd (loopF (fX5_bestLaws_b35 a1 a2 S_x5 S_r0 S_r1 S_r2 S_r3 S_r4 S_x6 S_x7 S_x8 S_x9) 1000 ((0 : Int32), t7.1, (1 : Int32), t7.2.1, t7.2.2.1, t7.2.2.2.1, t7.2.2.2.2.1, t7.2.2.2.2.2.1, t7.2.2.2.2.2.2.1, t7.2.2.2.2.2.2.2.1, t7.2.2.2.2.2.2.2.2.1, t7.2.2.2.2.2.2.2.2.2.1, t7.2.2.2.2.2.2.2.2.2.2.1, t7.2.2.2.2.2.2.2.2.2.2.2.1, t7.2.2.2.2.2.2.2.2.2.2.2.2.1, t7.2.2.2.2.2.2.2.2.2.2.2.2.2.1, t7.2.2.2.2.2.2.2.2.2.2.2.2.2.2.1, t7.2.2.2.2.2.2.2.2.2.2.2.2.2.2.2.1, t7.2.2.2.2.2.2.2.2.2.2.2.2.2.2.2.2.1, t7.2.2.2.2.2.2.2.2.2.2.2.2.2.2.2.2.2)) (fun T9 => if a2 = (0 : Int32) then (some (T9.1, T9.2.2.1, T9.2.2.2.1, T9.2.2.2.2.1, T9.2.2.2.2.2.1, T9.2.2.2.2.2.2.1, T9.2.2.2.2.2.2.2.1, T9.2.2.2.2.2.2.2.2.1, T9.2.2.2.2.2.2.2.2.2.1, T9.2.2.2.2.2.2.2.2.2.2.1, T9.2.2.2.2.2.2.2.2.2.2.2.1, T9.2.2.2.2.2.2.2.2.2.2.2.2.1, T9.2.2.2.2.2.2.2.2.2.2.2.2.2.1, T9.2.2.2.2.2.2.2.2.2.2.2.2.2.2.1, T9.2.2.2.2.2.2.2.2.2.2.2.2.2.2.2.1, T9.2.2.2.2.2.2.2.2.2.2.2.2.2.2.2.2.1, T9.2.2.2.2.2.2.2.2.2.2.2.2.2.2.2.2.2.1, T9.2.2.2.2.2.2.2.2.2.2.2.2.2.2.2.2.2.2)) else (some (T9.2.1, T9.2.2.1, T9.2.2.2.1, T9.2.2.2.2.1, T9.2.2.2.2.2.1, T9.2.2.2.2.2.2.1, T9.2.2.2.2.2.2.2.1, T9.2.2.2.2.2.2.2.2.1, T9.2.2.2.2.2.2.2.2.2.1, T9.2.2.2.2.2.2.2.2.2.2.1, T9.2.2.2.2.2.2.2.2.2.2.2.1, T9.2.2.2.2.2.2.2.2.2.2.2.2.1, T9.2.2.2.2.2.2.2.2.2.2.2.2.2.1, T9.2.2.2.2.2.2.2.2.2.2.2.2.2.2.1, T9.2.2.2.2.2.2.2.2.2.2.2.2.2.2.2.1, T9.2.2.2.2.2.2.2.2.2.2.2.2.2.2.2.2.1, T9.2.2.2.2.2.2.2.2.2.2.2.2.2.2.2.2.2.1, T9.2.2.2.2.2.2.2.2.2.2.2.2.2.2.2.2.2.2))))))))
set_option maxRecDepth 100000 in
set_option maxHeartbeats 4000000 in
theorem kX5_bestLaws (l : Launch) (D : va_G) (cI cB cS : ClassId) (uL : Nat) (L_x6 : Int32) (L_x7 : Int32) (uT : Nat) (aT : Nat → Nat) (T_x1 : Int32) (T_x2 : Int32) (T_x3 : Int32) (T_x4 : Int32) (T_x5 : Int32) (T_x6 : Int32) (T_r0 : (Nat → Int32)) (uS : Nat) (aS : Nat → Nat) (S_x5 : Int32) (S_x6 : Int32) (S_x7 : Int32) (S_x8 : Int32) (S_x9 : Int32) (S_r0 : (Nat → Int32)) (S_r1 : (Nat → Int32)) (S_r2 : (Nat → Int32)) (S_r3 : (Nat → Int32)) (S_r4 : (Nat → Int32)) (uP : Nat) (aP : Nat → Nat) (P_x5 : Int32) (P_x6 : Int32) (P_x7 : Int32) (P_x8 : Int32) (P_x9 : Int32) (P_r0 : (Nat → Int32)) (P_r1 : (Nat → Int32)) (P_r2 : (Nat → Int32)) (P_r3 : (Nat → Int32)) (P_r4 : (Nat → Int32)) (uE : Nat) (uD : Nat) (uV : Nat) (a1 : Int32) (a2 : Int32) (z : (Int32 × (Nat → Int32) × (Nat → Int32) × (Nat → Int32) × (Nat → Int32) × (Nat → Int32) × Int32 × Int32 × Int32 × Int32 × Int32 × (Nat → Int32) × Int32 × Int32 × Int32 × Int32 × Int32 × Int32)) (h : fX5_bestLaws P_r0 P_r1 P_r2 P_r3 P_r4 P_x5 P_x6 P_x7 P_x8 P_x9 S_r0 S_r1 S_r2 S_r3 S_r4 S_x5 S_x6 S_x7 S_x8 S_x9 T_r0 T_x1 T_x2 T_x3 T_x4 T_x5 T_x6 a1 a2 = some z) : Mt l yX5_bestLaws cX5_bestLaws 7 (some .int) 5 147 D cI cB cS (lW uL uE uD uT uV uS uP L_x6 L_x7 ++ (tW cI uT aT T_x1 T_x2 T_x3 T_x4 T_x5 T_x6 T_r0 ++ (sW cI uS aS S_x5 S_x6 S_x7 S_x8 S_x9 S_r0 S_r1 S_r2 S_r3 S_r4 ++ (sW cI uP aP P_x5 P_x6 P_x7 P_x8 P_x9 P_r0 P_r1 P_r2 P_r3 P_r4)))) (lW uL uE uD uT uV uS uP L_x6 L_x7 ++ (tW cI uT aT z.2.2.2.2.2.2.2.2.2.2.2.2.1 z.2.2.2.2.2.2.2.2.2.2.2.2.2.1 z.2.2.2.2.2.2.2.2.2.2.2.2.2.2.1 z.2.2.2.2.2.2.2.2.2.2.2.2.2.2.2.1 z.2.2.2.2.2.2.2.2.2.2.2.2.2.2.2.2.1 z.2.2.2.2.2.2.2.2.2.2.2.2.2.2.2.2.2 z.2.2.2.2.2.2.2.2.2.2.2.1 ++ (sW cI uS aS S_x5 S_x6 S_x7 S_x8 S_x9 S_r0 S_r1 S_r2 S_r3 S_r4 ++ (sW cI uP aP z.2.2.2.2.2.2.1 z.2.2.2.2.2.2.2.1 z.2.2.2.2.2.2.2.2.1 z.2.2.2.2.2.2.2.2.2.1 z.2.2.2.2.2.2.2.2.2.2.1 z.2.1 z.2.2.1 z.2.2.2.1 z.2.2.2.2.1 z.2.2.2.2.2.1)))) [.ref uL, .int a1, .int a2] (some (.int z.1)) := by
  refine entryI (by decide +kernel) rfl (Nat.le_of_ble_eq_true rfl) ?_
  intro p e s m below meth c A ls QQ R ar F hRet jP jD jS jl
  obtain ⟨hx, hb, hml, hown, hts, jK, hA, hf1, hf2⟩ := id F
  have jl : lv_has ls 7 [(0, .ref uL), (1, .int a1), (2, .int a2)] := jl
  unfold fX5_bestLaws at h
  refine lv_iload_n hx hb dX5_bestLaws_0 rfl (lv_at jl 1 rfl) ?_
  refine lv_iconst (v := (0 : Int32)) hx hb dX5_bestLaws_1 (by decide) ?_
  refine lv_bipush (v := (99 : Int32)) hx hb dX5_bestLaws_2 (by decide) ?_
  obtain ⟨t1, hc2, h⟩ := bd_some h
  refine call0 (As := [.int a1, .int (0 : Int32), .int (99 : Int32)]) (rest := []) (st1 := [.int t1]) F (kX5_isWithin l D cI cB cS  a1 (0 : Int32) (99 : Int32) _ hc2 ) okX5_isWithin w_105 (by decide) (by decide) ⟨Nat.zero_le _, Nat.zero_le _⟩ jP jD jS rfl jl.1 rfl rfl (Nat.le_of_ble_eq_true rfl) dX5_bestLaws_4 (fun H locs jP jD jS => ?_)
  refine lv_if_eq (tgt := 19) hx hb dX5_bestLaws_7 (by decide) (fun c3 => ?_) (fun c3 => ?_)
  · have h := itp c3 h
    refine lv_ldc (v := (-1000000000 : Int32)) hx hb hown (hts _ w_460) dX5_bestLaws_19 ?_
    obtain rfl := Option.some.inj h
    exact hRet _ _ _ _ jP jD jS dX5_bestLaws_21
  · have h := itn c3 h
    refine lv_iload_n hx hb dX5_bestLaws_10 rfl (lv_at jl 2 rfl) ?_
    refine lv_iconst (v := (0 : Int32)) hx hb dX5_bestLaws_11 (by decide) ?_
    refine lv_iconst (v := (1 : Int32)) hx hb dX5_bestLaws_12 (by decide) ?_
    obtain ⟨t4, hc5, h⟩ := bd_some h
    refine call0 (As := [.int a2, .int (0 : Int32), .int (1 : Int32)]) (rest := []) (st1 := [.int t4]) F (kX5_isWithin l D cI cB cS  a2 (0 : Int32) (1 : Int32) _ hc5 ) okX5_isWithin w_105 (by decide) (by decide) ⟨Nat.zero_le _, Nat.zero_le _⟩ jP jD jS rfl jl.1 rfl rfl (Nat.le_of_ble_eq_true rfl) dX5_bestLaws_13 (fun H locs jP jD jS => ?_)
    refine lv_if_ne (tgt := 22) hx hb dX5_bestLaws_16 (by decide) (fun c6 => ?_) (fun c6 => ?_)
    · have h := itn c6 h
      refine lv_iconst (v := (0 : Int32)) hx hb dX5_bestLaws_22 (by decide) ?_
      refine lv_istore_n (lv' := [(3, .int (0 : Int32)), (0, .ref uL), (1, .int a1), (2, .int a2)]) hx hb dX5_bestLaws_23 rfl jl (by decide) rfl (fun ls jl => ?_)
      refine lv_aload_n hx hb dX5_bestLaws_24 rfl (lv_at jl 1 rfl) ?_
      refine lv_iconst (v := (0 : Int32)) hx hb dX5_bestLaws_25 (by decide) ?_
      refine lv_iload_n hx hb dX5_bestLaws_26 rfl (lv_at jl 2 rfl) ?_
      obtain ⟨t7, hc8, h⟩ := bd_some h
      refine callW (w1 := (lW uL uE uD uT uV uS uP L_x6 L_x7 ++ (tW cI uT aT t7.2.2.2.2.2.2.2.2.2.2.2.2.1 t7.2.2.2.2.2.2.2.2.2.2.2.2.2.1 t7.2.2.2.2.2.2.2.2.2.2.2.2.2.2.1 t7.2.2.2.2.2.2.2.2.2.2.2.2.2.2.2.1 t7.2.2.2.2.2.2.2.2.2.2.2.2.2.2.2.2.1 t7.2.2.2.2.2.2.2.2.2.2.2.2.2.2.2.2.2 t7.2.2.2.2.2.2.2.2.2.2.2.1 ++ (sW cI uS aS S_x5 S_x6 S_x7 S_x8 S_x9 S_r0 S_r1 S_r2 S_r3 S_r4 ++ (sW cI uP aP t7.2.2.2.2.2.2.1 t7.2.2.2.2.2.2.2.1 t7.2.2.2.2.2.2.2.2.1 t7.2.2.2.2.2.2.2.2.2.1 t7.2.2.2.2.2.2.2.2.2.2.1 t7.2.1 t7.2.2.1 t7.2.2.2.1 t7.2.2.2.2.1 t7.2.2.2.2.2.1))))) (As := [.int (0 : Int32), .int a1]) (rest := []) (st1 := [.int t7.1]) 0 F (kX5_outcome l D cI cB cS uL L_x6 L_x7 uT aT T_x1 T_x2 T_x3 T_x4 T_x5 T_x6 T_r0 uS aS S_x5 S_x6 S_x7 S_x8 S_x9 S_r0 S_r1 S_r2 S_r3 S_r4 uP aP P_x5 P_x6 P_x7 P_x8 P_x9 P_r0 P_r1 P_r2 P_r3 P_r4 uE uD uV (0 : Int32) a1 _ hc8 ) okX5_outcome w_687 (by decide) (by decide) ⟨Nat.zero_le _, Nat.zero_le _⟩ rfl rfl rfl jP jD jS rfl jl.1 rfl rfl (Nat.le_of_ble_eq_true rfl) dX5_bestLaws_27 (fun H locs jP jD jS => ?_)
      refine lv_istore (lv' := [(4, .int t7.1), (3, .int (0 : Int32)), (0, .ref uL), (1, .int a1), (2, .int a2)]) hx hb dX5_bestLaws_30 jl (by decide) rfl (fun ls jl => ?_)
      refine lv_iconst (v := (1 : Int32)) hx hb dX5_bestLaws_32 (by decide) ?_
      refine lv_istore (lv' := [(5, .int (1 : Int32)), (4, .int t7.1), (3, .int (0 : Int32)), (0, .ref uL), (1, .int a1), (2, .int a2)]) hx hb dX5_bestLaws_33 jl (by decide) rfl (fun ls jl => ?_)
      obtain ⟨T9, hT9, hz9⟩ := bd_some h
      clear h
      have hE9 : ∀ (H : Heap) (locs : List Loc) (ls : Array Slot), va_P D vwCl (lW uL uE uD uT uV uS uP L_x6 L_x7 ++ (tW cI uT aT T9.2.2.2.2.2.2.2.2.2.2.2.2.2.1 T9.2.2.2.2.2.2.2.2.2.2.2.2.2.2.1 T9.2.2.2.2.2.2.2.2.2.2.2.2.2.2.2.1 T9.2.2.2.2.2.2.2.2.2.2.2.2.2.2.2.2.1 T9.2.2.2.2.2.2.2.2.2.2.2.2.2.2.2.2.2.1 T9.2.2.2.2.2.2.2.2.2.2.2.2.2.2.2.2.2.2 T9.2.2.2.2.2.2.2.2.2.2.2.2.1 ++ (sW cI uS aS S_x5 S_x6 S_x7 S_x8 S_x9 S_r0 S_r1 S_r2 S_r3 S_r4 ++ (sW cI uP aP T9.2.2.2.2.2.2.2.1 T9.2.2.2.2.2.2.2.2.1 T9.2.2.2.2.2.2.2.2.2.1 T9.2.2.2.2.2.2.2.2.2.2.1 T9.2.2.2.2.2.2.2.2.2.2.2.1 T9.2.2.1 T9.2.2.2.1 T9.2.2.2.2.1 T9.2.2.2.2.2.1 T9.2.2.2.2.2.2.1)))) H → va_D A (lW uL uE uD uT uV uS uP L_x6 L_x7 ++ (tW cI uT aT T9.2.2.2.2.2.2.2.2.2.2.2.2.2.1 T9.2.2.2.2.2.2.2.2.2.2.2.2.2.2.1 T9.2.2.2.2.2.2.2.2.2.2.2.2.2.2.2.1 T9.2.2.2.2.2.2.2.2.2.2.2.2.2.2.2.2.1 T9.2.2.2.2.2.2.2.2.2.2.2.2.2.2.2.2.2.1 T9.2.2.2.2.2.2.2.2.2.2.2.2.2.2.2.2.2.2 T9.2.2.2.2.2.2.2.2.2.2.2.2.1 ++ (sW cI uS aS S_x5 S_x6 S_x7 S_x8 S_x9 S_r0 S_r1 S_r2 S_r3 S_r4 ++ (sW cI uP aP T9.2.2.2.2.2.2.2.1 T9.2.2.2.2.2.2.2.2.1 T9.2.2.2.2.2.2.2.2.2.1 T9.2.2.2.2.2.2.2.2.2.2.1 T9.2.2.2.2.2.2.2.2.2.2.2.1 T9.2.2.1 T9.2.2.2.1 T9.2.2.2.2.1 T9.2.2.2.2.2.1 T9.2.2.2.2.2.2.1)))) → va_S A s.heap H locs → lv_has ls 7 [(2, .int a2), (3, .int T9.1), (4, .int T9.2.1)] → W p l e R s m ar below meth c H locs 0 0 QQ (F0 m 80 ls []) := by
        clear jP jD jS jl
        intro H locs ls jP jD jS jl
        refine lv_iload_n hx hb dX5_bestLaws_80 rfl (lv_at jl 0 rfl) ?_
        refine lv_if_ne (tgt := 88) hx hb dX5_bestLaws_81 (by decide) (fun c18 => ?_) (fun c18 => ?_)
        · have hz9 := itn c18 hz9
          refine lv_iload hx hb dX5_bestLaws_88 (lv_at jl 2 rfl) ?_
          obtain rfl := Option.some.inj hz9
          exact hRet _ _ _ _ jP jD jS dX5_bestLaws_90
        · have hz9 := itp c18 hz9
          refine lv_iload_n hx hb dX5_bestLaws_84 rfl (lv_at jl 1 rfl) ?_
          refine lv_goto (tgt := 90) hx hb dX5_bestLaws_85 (by decide) ?_
          obtain rfl := Option.some.inj hz9
          exact hRet _ _ _ _ jP jD jS dX5_bestLaws_90
      have hL9 : ∀ (n : Nat) (v9 : (Int32 × Int32 × Int32 × (Nat → Int32) × (Nat → Int32) × (Nat → Int32) × (Nat → Int32) × (Nat → Int32) × Int32 × Int32 × Int32 × Int32 × Int32 × (Nat → Int32) × Int32 × Int32 × Int32 × Int32 × Int32 × Int32)), loopF (fX5_bestLaws_b35 a1 a2 S_x5 S_r0 S_r1 S_r2 S_r3 S_r4 S_x6 S_x7 S_x8 S_x9) n v9 = some T9 → ∀ (H : Heap) (locs : List Loc) (ls : Array Slot), va_P D vwCl (lW uL uE uD uT uV uS uP L_x6 L_x7 ++ (tW cI uT aT v9.2.2.2.2.2.2.2.2.2.2.2.2.2.2.1 v9.2.2.2.2.2.2.2.2.2.2.2.2.2.2.2.1 v9.2.2.2.2.2.2.2.2.2.2.2.2.2.2.2.2.1 v9.2.2.2.2.2.2.2.2.2.2.2.2.2.2.2.2.2.1 v9.2.2.2.2.2.2.2.2.2.2.2.2.2.2.2.2.2.2.1 v9.2.2.2.2.2.2.2.2.2.2.2.2.2.2.2.2.2.2.2 v9.2.2.2.2.2.2.2.2.2.2.2.2.2.1 ++ (sW cI uS aS S_x5 S_x6 S_x7 S_x8 S_x9 S_r0 S_r1 S_r2 S_r3 S_r4 ++ (sW cI uP aP v9.2.2.2.2.2.2.2.2.1 v9.2.2.2.2.2.2.2.2.2.1 v9.2.2.2.2.2.2.2.2.2.2.1 v9.2.2.2.2.2.2.2.2.2.2.2.1 v9.2.2.2.2.2.2.2.2.2.2.2.2.1 v9.2.2.2.1 v9.2.2.2.2.1 v9.2.2.2.2.2.1 v9.2.2.2.2.2.2.1 v9.2.2.2.2.2.2.2.1)))) H → va_D A (lW uL uE uD uT uV uS uP L_x6 L_x7 ++ (tW cI uT aT v9.2.2.2.2.2.2.2.2.2.2.2.2.2.2.1 v9.2.2.2.2.2.2.2.2.2.2.2.2.2.2.2.1 v9.2.2.2.2.2.2.2.2.2.2.2.2.2.2.2.2.1 v9.2.2.2.2.2.2.2.2.2.2.2.2.2.2.2.2.2.1 v9.2.2.2.2.2.2.2.2.2.2.2.2.2.2.2.2.2.2.1 v9.2.2.2.2.2.2.2.2.2.2.2.2.2.2.2.2.2.2.2 v9.2.2.2.2.2.2.2.2.2.2.2.2.2.1 ++ (sW cI uS aS S_x5 S_x6 S_x7 S_x8 S_x9 S_r0 S_r1 S_r2 S_r3 S_r4 ++ (sW cI uP aP v9.2.2.2.2.2.2.2.2.1 v9.2.2.2.2.2.2.2.2.2.1 v9.2.2.2.2.2.2.2.2.2.2.1 v9.2.2.2.2.2.2.2.2.2.2.2.1 v9.2.2.2.2.2.2.2.2.2.2.2.2.1 v9.2.2.2.1 v9.2.2.2.2.1 v9.2.2.2.2.2.1 v9.2.2.2.2.2.2.1 v9.2.2.2.2.2.2.2.1)))) → va_S A s.heap H locs → lv_has ls 7 [(0, .ref uL), (1, .int a1), (2, .int a2), (3, .int v9.1), (4, .int v9.2.1), (5, .int v9.2.2.1)] → W p l e R s m ar below meth c H locs 0 0 QQ (F0 m 35 ls []) := by
        clear jP jD jS jl hT9
        intro n
        induction n with
        | zero => intro v9 hq; exact (loop_none hq).elim
        | succ n ih =>
          intro v9 hq H locs ls jP jD jS jl
          obtain ⟨o9, hv9, hq9⟩ := loop_some hq
          clear hq
          unfold fX5_bestLaws_b35 at hv9
          refine lv_iload hx hb dX5_bestLaws_35 (lv_at jl 5 rfl) ?_
          refine lv_bipush (v := (16 : Int32)) hx hb dX5_bestLaws_37 (by decide) ?_
          refine lv_icmp_ge (tgt := 80) hx hb dX5_bestLaws_39 (by decide) (fun c10 => ?_) (fun c10 => ?_)
          · have hv9 := itp c10 hv9
            obtain rfl := Option.some.inj hv9
            obtain rfl := nxt_r hq9
            exact hE9 _ _ _ jP jD jS (lv_sub jl [2, 3, 4] rfl)
          · have hv9 := itn c10 hv9
            refine lv_aload_n hx hb dX5_bestLaws_42 rfl (lv_at jl 0 rfl) ?_
            refine lv_iload hx hb dX5_bestLaws_43 (lv_at jl 5 rfl) ?_
            obtain ⟨t11, hc12, hv9⟩ := bd_some hv9
            refine callP (wc := (lW uL uE uD uT uV uS uP L_x6 L_x7 ++ (sW cI uS aS S_x5 S_x6 S_x7 S_x8 S_x9 S_r0 S_r1 S_r2 S_r3 S_r4))) (wr := (tW cI uT aT v9.2.2.2.2.2.2.2.2.2.2.2.2.2.2.1 v9.2.2.2.2.2.2.2.2.2.2.2.2.2.2.2.1 v9.2.2.2.2.2.2.2.2.2.2.2.2.2.2.2.2.1 v9.2.2.2.2.2.2.2.2.2.2.2.2.2.2.2.2.2.1 v9.2.2.2.2.2.2.2.2.2.2.2.2.2.2.2.2.2.2.1 v9.2.2.2.2.2.2.2.2.2.2.2.2.2.2.2.2.2.2.2 v9.2.2.2.2.2.2.2.2.2.2.2.2.2.1 ++ (sW cI uP aP v9.2.2.2.2.2.2.2.2.1 v9.2.2.2.2.2.2.2.2.2.1 v9.2.2.2.2.2.2.2.2.2.2.1 v9.2.2.2.2.2.2.2.2.2.2.2.1 v9.2.2.2.2.2.2.2.2.2.2.2.2.1 v9.2.2.2.1 v9.2.2.2.2.1 v9.2.2.2.2.2.1 v9.2.2.2.2.2.2.1 v9.2.2.2.2.2.2.2.1))) (w1 := (lW uL uE uD uT uV uS uP L_x6 L_x7 ++ (sW cI uS aS S_x5 S_x6 S_x7 S_x8 S_x9 S_r0 S_r1 S_r2 S_r3 S_r4))) (ws1 := (lW uL uE uD uT uV uS uP L_x6 L_x7 ++ (tW cI uT aT v9.2.2.2.2.2.2.2.2.2.2.2.2.2.2.1 v9.2.2.2.2.2.2.2.2.2.2.2.2.2.2.2.1 v9.2.2.2.2.2.2.2.2.2.2.2.2.2.2.2.2.1 v9.2.2.2.2.2.2.2.2.2.2.2.2.2.2.2.2.2.1 v9.2.2.2.2.2.2.2.2.2.2.2.2.2.2.2.2.2.2.1 v9.2.2.2.2.2.2.2.2.2.2.2.2.2.2.2.2.2.2.2 v9.2.2.2.2.2.2.2.2.2.2.2.2.2.1 ++ (sW cI uS aS S_x5 S_x6 S_x7 S_x8 S_x9 S_r0 S_r1 S_r2 S_r3 S_r4 ++ (sW cI uP aP v9.2.2.2.2.2.2.2.2.1 v9.2.2.2.2.2.2.2.2.2.1 v9.2.2.2.2.2.2.2.2.2.2.1 v9.2.2.2.2.2.2.2.2.2.2.2.1 v9.2.2.2.2.2.2.2.2.2.2.2.2.1 v9.2.2.2.1 v9.2.2.2.2.1 v9.2.2.2.2.2.1 v9.2.2.2.2.2.2.1 v9.2.2.2.2.2.2.2.1))))) (As := [.int v9.2.2.1]) (rest := []) (st1 := [.int t11]) 0 [0, 3, 4, 5, 6, 7, 8] [1, 2, 9, 10, 11, 12, 13, 14] [8, 0, 1, 9, 10, 11, 12, 13, 14, 2, 3, 4, 5, 6, 7] F (kX5_goTogether l D cI cB cS uL L_x6 L_x7 uS aS S_x5 S_x6 S_x7 S_x8 S_x9 S_r0 S_r1 S_r2 S_r3 S_r4 uE uD uT uV uP v9.2.2.1 _ hc12 ) okX5_goTogether w_676 (by decide) (by decide) ⟨Nat.zero_le _, Nat.zero_le _⟩ rfl rfl rfl jP jD jS rfl jl.1 rfl rfl (Nat.le_of_ble_eq_true rfl) dX5_bestLaws_45 rfl rfl (by decide) (by decide) (by decide) rfl (by decide) (fun H locs jP jD jS => ?_)
            obtain ⟨t17, hvt17, hv9⟩ := bd_some hv9
            have hJt17 : ∀ (H : Heap) (locs : List Loc) (ls : Array Slot), va_P D vwCl (lW uL uE uD uT uV uS uP L_x6 L_x7 ++ (tW cI uT aT t17.2.2.2.2.2.2.2.2.2.2.2.2.2.1 t17.2.2.2.2.2.2.2.2.2.2.2.2.2.2.1 t17.2.2.2.2.2.2.2.2.2.2.2.2.2.2.2.1 t17.2.2.2.2.2.2.2.2.2.2.2.2.2.2.2.2.1 t17.2.2.2.2.2.2.2.2.2.2.2.2.2.2.2.2.2.1 t17.2.2.2.2.2.2.2.2.2.2.2.2.2.2.2.2.2.2 t17.2.2.2.2.2.2.2.2.2.2.2.2.1 ++ (sW cI uS aS S_x5 S_x6 S_x7 S_x8 S_x9 S_r0 S_r1 S_r2 S_r3 S_r4 ++ (sW cI uP aP t17.2.2.2.2.2.2.2.1 t17.2.2.2.2.2.2.2.2.1 t17.2.2.2.2.2.2.2.2.2.1 t17.2.2.2.2.2.2.2.2.2.2.1 t17.2.2.2.2.2.2.2.2.2.2.2.1 t17.2.2.1 t17.2.2.2.1 t17.2.2.2.2.1 t17.2.2.2.2.2.1 t17.2.2.2.2.2.2.1)))) H → va_D A (lW uL uE uD uT uV uS uP L_x6 L_x7 ++ (tW cI uT aT t17.2.2.2.2.2.2.2.2.2.2.2.2.2.1 t17.2.2.2.2.2.2.2.2.2.2.2.2.2.2.1 t17.2.2.2.2.2.2.2.2.2.2.2.2.2.2.2.1 t17.2.2.2.2.2.2.2.2.2.2.2.2.2.2.2.2.1 t17.2.2.2.2.2.2.2.2.2.2.2.2.2.2.2.2.2.1 t17.2.2.2.2.2.2.2.2.2.2.2.2.2.2.2.2.2.2 t17.2.2.2.2.2.2.2.2.2.2.2.2.1 ++ (sW cI uS aS S_x5 S_x6 S_x7 S_x8 S_x9 S_r0 S_r1 S_r2 S_r3 S_r4 ++ (sW cI uP aP t17.2.2.2.2.2.2.2.1 t17.2.2.2.2.2.2.2.2.1 t17.2.2.2.2.2.2.2.2.2.1 t17.2.2.2.2.2.2.2.2.2.2.1 t17.2.2.2.2.2.2.2.2.2.2.2.1 t17.2.2.1 t17.2.2.2.1 t17.2.2.2.2.1 t17.2.2.2.2.2.1 t17.2.2.2.2.2.2.1)))) → va_S A s.heap H locs → lv_has ls 7 [(0, .ref uL), (1, .int a1), (2, .int a2), (3, .int t17.1), (4, .int t17.2.1), (5, .int v9.2.2.1)] → W p l e R s m ar below meth c H locs 0 0 QQ (F0 m 74 ls []) := by
              clear jP jD jS jl
              intro H locs ls jP jD jS jl
              refine lv_iinc (v := (v9.2.2.1 + (1 : Int32))) (lv' := [(5, .int (v9.2.2.1 + (1 : Int32))), (0, .ref uL), (1, .int a1), (2, .int a2), (3, .int t17.1), (4, .int t17.2.1)]) hx hb dX5_bestLaws_74 jl (k := 5) rfl rfl (by decide) rfl (fun ls jl => ?_)
              refine lv_goto (tgt := 35) hx hb dX5_bestLaws_77 (by decide) ?_
              obtain rfl := Option.some.inj hv9
              exact ih _ (nxt_l hq9) _ _ _ jP jD jS (lv_sub jl [1, 2, 3, 4, 5, 0] rfl)
            clear hv9
            refine lv_if_eq (tgt := 74) hx hb dX5_bestLaws_48 (by decide) (fun c13 => ?_) (fun c13 => ?_)
            · have hvt17 := itp c13 hvt17
              obtain rfl := Option.some.inj hvt17
              exact hJt17 _ _ _ jP jD jS (lv_sub jl [0, 1, 2, 3, 4, 5] rfl)
            · have hvt17 := itn c13 hvt17
              refine lv_aload_n hx hb dX5_bestLaws_51 rfl (lv_at jl 0 rfl) ?_
              refine lv_iload hx hb dX5_bestLaws_52 (lv_at jl 5 rfl) ?_
              refine lv_iload_n hx hb dX5_bestLaws_54 rfl (lv_at jl 1 rfl) ?_
              obtain ⟨t14, hc15, hvt17⟩ := bd_some hvt17
              refine callW (w1 := (lW uL uE uD uT uV uS uP L_x6 L_x7 ++ (tW cI uT aT t14.2.2.2.2.2.2.2.2.2.2.2.2.1 t14.2.2.2.2.2.2.2.2.2.2.2.2.2.1 t14.2.2.2.2.2.2.2.2.2.2.2.2.2.2.1 t14.2.2.2.2.2.2.2.2.2.2.2.2.2.2.2.1 t14.2.2.2.2.2.2.2.2.2.2.2.2.2.2.2.2.1 t14.2.2.2.2.2.2.2.2.2.2.2.2.2.2.2.2.2 t14.2.2.2.2.2.2.2.2.2.2.2.1 ++ (sW cI uS aS S_x5 S_x6 S_x7 S_x8 S_x9 S_r0 S_r1 S_r2 S_r3 S_r4 ++ (sW cI uP aP t14.2.2.2.2.2.2.1 t14.2.2.2.2.2.2.2.1 t14.2.2.2.2.2.2.2.2.1 t14.2.2.2.2.2.2.2.2.2.1 t14.2.2.2.2.2.2.2.2.2.2.1 t14.2.1 t14.2.2.1 t14.2.2.2.1 t14.2.2.2.2.1 t14.2.2.2.2.2.1))))) (As := [.int v9.2.2.1, .int a1]) (rest := []) (st1 := [.int t14.1]) 0 F (kX5_outcome l D cI cB cS uL L_x6 L_x7 uT aT v9.2.2.2.2.2.2.2.2.2.2.2.2.2.2.1 v9.2.2.2.2.2.2.2.2.2.2.2.2.2.2.2.1 v9.2.2.2.2.2.2.2.2.2.2.2.2.2.2.2.2.1 v9.2.2.2.2.2.2.2.2.2.2.2.2.2.2.2.2.2.1 v9.2.2.2.2.2.2.2.2.2.2.2.2.2.2.2.2.2.2.1 v9.2.2.2.2.2.2.2.2.2.2.2.2.2.2.2.2.2.2.2 v9.2.2.2.2.2.2.2.2.2.2.2.2.2.1 uS aS S_x5 S_x6 S_x7 S_x8 S_x9 S_r0 S_r1 S_r2 S_r3 S_r4 uP aP v9.2.2.2.2.2.2.2.2.1 v9.2.2.2.2.2.2.2.2.2.1 v9.2.2.2.2.2.2.2.2.2.2.1 v9.2.2.2.2.2.2.2.2.2.2.2.1 v9.2.2.2.2.2.2.2.2.2.2.2.2.1 v9.2.2.2.1 v9.2.2.2.2.1 v9.2.2.2.2.2.1 v9.2.2.2.2.2.2.1 v9.2.2.2.2.2.2.2.1 uE uD uV v9.2.2.1 a1 _ hc15 ) okX5_outcome w_687 (by decide) (by decide) ⟨Nat.zero_le _, Nat.zero_le _⟩ rfl rfl rfl jP jD jS rfl jl.1 rfl rfl (Nat.le_of_ble_eq_true rfl) dX5_bestLaws_55 (fun H locs jP jD jS => ?_)
              refine lv_istore (lv' := [(6, .int t14.1), (0, .ref uL), (1, .int a1), (2, .int a2), (3, .int v9.1), (4, .int v9.2.1), (5, .int v9.2.2.1)]) hx hb dX5_bestLaws_58 jl (by decide) rfl (fun ls jl => ?_)
              refine lv_iload hx hb dX5_bestLaws_60 (lv_at jl 0 rfl) ?_
              refine lv_iload hx hb dX5_bestLaws_62 (lv_at jl 5 rfl) ?_
              refine lv_icmp_le (tgt := 74) hx hb dX5_bestLaws_64 (by decide) (fun c16 => ?_) (fun c16 => ?_)
              · have hvt17 := itp c16 hvt17
                obtain rfl := Option.some.inj hvt17
                exact hJt17 _ _ _ jP jD jS (lv_sub jl [1, 2, 3, 4, 5, 6] rfl)
              · have hvt17 := itn c16 hvt17
                refine lv_iload hx hb dX5_bestLaws_67 (lv_at jl 6 rfl) ?_
                refine lv_istore_n (lv' := [(3, .int v9.2.2.1), (6, .int t14.1), (0, .ref uL), (1, .int a1), (2, .int a2), (4, .int v9.2.1), (5, .int v9.2.2.1)]) hx hb dX5_bestLaws_69 rfl jl (by decide) rfl (fun ls jl => ?_)
                refine lv_iload hx hb dX5_bestLaws_70 (lv_at jl 1 rfl) ?_
                refine lv_istore (lv' := [(4, .int t14.1), (3, .int v9.2.2.1), (6, .int t14.1), (0, .ref uL), (1, .int a1), (2, .int a2), (5, .int v9.2.2.1)]) hx hb dX5_bestLaws_72 jl (by decide) rfl (fun ls jl => ?_)
                obtain rfl := Option.some.inj hvt17
                exact hJt17 _ _ _ jP jD jS (lv_sub jl [3, 4, 5, 1, 0, 6] rfl)
      exact hL9 1000 _ hT9 _ _ _ jP jD jS (lv_sub jl [3, 4, 5, 2, 1, 0] rfl)
    · have h := itp c6 h
      refine lv_ldc (v := (-1000000000 : Int32)) hx hb hown (hts _ w_460) dX5_bestLaws_19 ?_
      obtain rfl := Option.some.inj h
      exact hRet _ _ _ _ jP jD jS dX5_bestLaws_21
