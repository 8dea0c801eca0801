theorem okX6_byteAt : okV yX6_byteAt cX6_byteAt 2 (some .int) 1 := ⟨w_234, w_235, w_236, w_5, by decide, by decide, by decide +kernel⟩
def fX6_byteAt (M_r0 : (Nat → Int32)) (M_x1 : Int32) (a1 : Int32) : Option Int32 :=
  if M_x1 ≤ a1 then (some (-4 : Int32)) else (ckI a1 240 (some (M_r0 a1.toNatClampNeg)))
set_option maxRecDepth 100000 in
set_option maxHeartbeats 4000000 in
theorem kX6_byteAt (l : Launch) (D : va_G) (cI cB cS : ClassId) (uM : Nat) (aM : Nat → Nat) (M_x1 : Int32) (M_x2 : Int32) (M_x3 : Int32) (M_x4 : Int32) (M_x5 : Int32) (M_x6 : Int32) (M_x7 : Int32) (M_x8 : Int32) (M_x12 : Int32) (M_x14 : Int32) (M_x17 : Int32) (M_x18 : Int32) (M_x19 : Int32) (M_x20 : Int32) (M_x23 : Int32) (M_x27 : Int32) (M_x29 : Int32) (M_x33 : Int32) (M_g24 : Int64) (M_g25 : Int64) (M_g26 : Int64) (M_g28 : Int64) (M_r0 : (Nat → Int32)) (M_r9 : (Nat → Int32)) (M_r10 : (Nat → Int32)) (M_r11 : (Nat → Int32)) (M_r13 : (Nat → Int32)) (M_r15 : (Nat → Int32)) (M_r16 : (Nat → Int32)) (M_r21 : (Nat → Int32)) (M_r22 : (Nat → Int32)) (M_r30 : (Nat → Int32)) (M_r31 : (Nat → Int32)) (M_r32 : (Nat → Int32)) (a1 : Int32) (z : Int32) (h : fX6_byteAt M_r0 M_x1 a1 = some z) : Mt l yX6_byteAt cX6_byteAt 2 (some .int) 0 0 D cI cB cS (mW cI uM aM M_x1 M_x2 M_x3 M_x4 M_x5 M_x6 M_x7 M_x8 M_x12 M_x14 M_x17 M_x18 M_x19 M_x20 M_x23 M_x27 M_x29 M_x33 M_g24 M_g25 M_g26 M_g28 M_r0 M_r9 M_r10 M_r11 M_r13 M_r15 M_r16 M_r21 M_r22 M_r30 M_r31 M_r32) (mW cI uM aM M_x1 M_x2 M_x3 M_x4 M_x5 M_x6 M_x7 M_x8 M_x12 M_x14 M_x17 M_x18 M_x19 M_x20 M_x23 M_x27 M_x29 M_x33 M_g24 M_g25 M_g26 M_g28 M_r0 M_r9 M_r10 M_r11 M_r13 M_r15 M_r16 M_r21 M_r22 M_r30 M_r31 M_r32) [.ref uM, .int a1] (some (.int z)) := by
  refine entryI (by decide +kernel) rfl (Nat.le_of_ble_eq_true rfl) ?_
  intro p e s m below meth c A ls QQ R ar F hRet jP jD jS jl
  obtain ⟨hx, hb, hml, hown, hts, jK, hA, hf1, hf2⟩ := id F
  have jl : lv_has ls 2 [(0, .ref uM), (1, .int a1)] := jl
  unfold fX6_byteAt at h
  refine lv_iload_n hx hb dX6_byteAt_0 rfl (lv_at jl 1 rfl) ?_
  refine lv_aload_n hx hb dX6_byteAt_1 rfl (lv_at jl 0 rfl) ?_
  refine va_get (D := D) (ci := 6) (v := .int M_x1) (C := RX6) (T := TX6) (N := 34) hx hb hts in6 hown jK.1 jP 0 rfl rfl 1 (by decide) (hts _ w_100) (fun _ h9 => h9) rfl dX6_byteAt_2 ?_
  refine lv_icmp_ge (tgt := 17) hx hb dX6_byteAt_5 (by decide) (fun c1 => ?_) (fun c1 => ?_)
  · have h := itp c1 h
    refine lv_bipush (v := (-4 : Int32)) hx hb dX6_byteAt_17 (by decide) ?_
    obtain rfl := Option.some.inj h
    exact hRet _ _ _ _ jP jD jS dX6_byteAt_19
  · have h := itn c1 h
    refine lv_aload_n hx hb dX6_byteAt_8 rfl (lv_at jl 0 rfl) ?_
    refine va_get (D := D) (ci := 6) (v := .ref (aM 0)) (C := RX6) (T := TX6) (N := 34) hx hb hts in6 hown jK.1 jP 0 rfl rfl 0 (by decide) (hts _ w_77) (fun _ h9 => h9) rfl dX6_byteAt_9 ?_
    refine lv_iload_n hx hb dX6_byteAt_12 rfl (lv_at jl 1 rfl) ?_
    obtain ⟨hin, h⟩ := ckI_some h
    refine va_iald (f := M_r0) hx hb jK.1 jP 1 0 rfl rfl hin dX6_byteAt_13 ?_
    refine lv_goto (tgt := 19) hx hb dX6_byteAt_14 (by decide) ?_
    obtain rfl := Option.some.inj h
    exact hRet _ _ _ _ jP jD jS dX6_byteAt_19
theorem okX6_fails : okV yX6_fails cX6_fails 2 none 1 := ⟨w_242, w_243, w_244, w_5, by decide, by decide, by decide +kernel⟩
def fX6_fails (M_x3 : Int32) (M_x4 : Int32) (M_x6 : Int32) (a1 : Int32) : Option (Int32 × Int32) :=
  if M_x3 = (0 : Int32) then (some (a1, M_x6)) else (some (M_x3, M_x4))
set_option maxRecDepth 100000 in
set_option maxHeartbeats 4000000 in
theorem kX6_fails (l : Launch) (D : va_G) (cI cB cS : ClassId) (uM : Nat) (aM : Nat → Nat) (M_x1 : Int32) (M_x2 : Int32) (M_x3 : Int32) (M_x4 : Int32) (M_x5 : Int32) (M_x6 : Int32) (M_x7 : Int32) (M_x8 : Int32) (M_x12 : Int32) (M_x14 : Int32) (M_x17 : Int32) (M_x18 : Int32) (M_x19 : Int32) (M_x20 : Int32) (M_x23 : Int32) (M_x27 : Int32) (M_x29 : Int32) (M_x33 : Int32) (M_g24 : Int64) (M_g25 : Int64) (M_g26 : Int64) (M_g28 : Int64) (M_r0 : (Nat → Int32)) (M_r9 : (Nat → Int32)) (M_r10 : (Nat → Int32)) (M_r11 : (Nat → Int32)) (M_r13 : (Nat → Int32)) (M_r15 : (Nat → Int32)) (M_r16 : (Nat → Int32)) (M_r21 : (Nat → Int32)) (M_r22 : (Nat → Int32)) (M_r30 : (Nat → Int32)) (M_r31 : (Nat → Int32)) (M_r32 : (Nat → Int32)) (a1 : Int32) (z : (Int32 × Int32)) (h : fX6_fails M_x3 M_x4 M_x6 a1 = some z) : Mt l yX6_fails cX6_fails 2 none 0 0 D cI cB cS (mW cI uM aM M_x1 M_x2 M_x3 M_x4 M_x5 M_x6 M_x7 M_x8 M_x12 M_x14 M_x17 M_x18 M_x19 M_x20 M_x23 M_x27 M_x29 M_x33 M_g24 M_g25 M_g26 M_g28 M_r0 M_r9 M_r10 M_r11 M_r13 M_r15 M_r16 M_r21 M_r22 M_r30 M_r31 M_r32) (mW cI uM aM M_x1 M_x2 z.1 z.2 M_x5 M_x6 M_x7 M_x8 M_x12 M_x14 M_x17 M_x18 M_x19 M_x20 M_x23 M_x27 M_x29 M_x33 M_g24 M_g25 M_g26 M_g28 M_r0 M_r9 M_r10 M_r11 M_r13 M_r15 M_r16 M_r21 M_r22 M_r30 M_r31 M_r32) [.ref uM, .int a1] none := by
  refine entryV (by decide +kernel) rfl (Nat.le_of_ble_eq_true rfl) ?_
  intro p e s m below meth c A ls QQ R ar F hRet jP jD jS jl
  obtain ⟨hx, hb, hml, hown, hts, jK, hA, hf1, hf2⟩ := id F
  have jl : lv_has ls 2 [(0, .ref uM), (1, .int a1)] := jl
  unfold fX6_fails at h
  refine lv_aload_n hx hb dX6_fails_0 rfl (lv_at jl 0 rfl) ?_
  refine va_get (D := D) (ci := 6) (v := .int M_x3) (C := RX6) (T := TX6) (N := 34) hx hb hts in6 hown jK.1 jP 0 rfl rfl 3 (by decide) (hts _ w_215) (fun _ h9 => h9) rfl dX6_fails_1 ?_
  refine lv_if_ne (tgt := 20) hx hb dX6_fails_4 (by decide) (fun c1 => ?_) (fun c1 => ?_)
  · have h := itn c1 h
    obtain rfl := Option.some.inj h
    exact hRet _ _ _ _ jP jD jS dX6_fails_20
  · have h := itp c1 h
    refine lv_aload_n hx hb dX6_fails_7 rfl (lv_at jl 0 rfl) ?_
    refine lv_iload_n hx hb dX6_fails_8 rfl (lv_at jl 1 rfl) ?_
    refine va_put (D := D) (ci := 6) (v := .int a1) (ty := .int) (C := RX6) (T := TX6) (N := 34) hx hb hts in6 tyX6 tyX6_ok nmX6 hown jK.1 jP jD jS 0 rfl rfl 3 (by decide) (hts _ w_215) (fun _ h9 => h9) rfl (by decide +kernel) rfl rfl (Nat.le_of_ble_eq_true rfl) dX6_fails_9 (fun H locs jP jD jS => ?_)
    have jP : va_P D vwCl (mW cI uM aM M_x1 M_x2 a1 M_x4 M_x5 M_x6 M_x7 M_x8 M_x12 M_x14 M_x17 M_x18 M_x19 M_x20 M_x23 M_x27 M_x29 M_x33 M_g24 M_g25 M_g26 M_g28 M_r0 M_r9 M_r10 M_r11 M_r13 M_r15 M_r16 M_r21 M_r22 M_r30 M_r31 M_r32) H := jP
    have jD : va_D A (mW cI uM aM M_x1 M_x2 a1 M_x4 M_x5 M_x6 M_x7 M_x8 M_x12 M_x14 M_x17 M_x18 M_x19 M_x20 M_x23 M_x27 M_x29 M_x33 M_g24 M_g25 M_g26 M_g28 M_r0 M_r9 M_r10 M_r11 M_r13 M_r15 M_r16 M_r21 M_r22 M_r30 M_r31 M_r32) := jD
    refine lv_aload_n hx hb dX6_fails_12 rfl (lv_at jl 0 rfl) ?_
    refine lv_aload_n hx hb dX6_fails_13 rfl (lv_at jl 0 rfl) ?_
    refine va_get (D := D) (ci := 6) (v := .int M_x6) (C := RX6) (T := TX6) (N := 34) hx hb hts in6 hown jK.1 jP 0 rfl rfl 6 (by decide) (hts _ w_227) (fun _ h9 => h9) rfl dX6_fails_14 ?_
    refine va_put (D := D) (ci := 6) (v := .int M_x6) (ty := .int) (C := RX6) (T := TX6) (N := 34) hx hb hts in6 tyX6 tyX6_ok nmX6 hown jK.1 jP jD jS 0 rfl rfl 4 (by decide) (hts _ w_221) (fun _ h9 => h9) rfl (by decide +kernel) rfl rfl (Nat.le_of_ble_eq_true rfl) dX6_fails_17 (fun H locs jP jD jS => ?_)
    have jP : va_P D vwCl (mW cI uM aM M_x1 M_x2 a1 M_x6 M_x5 M_x6 M_x7 M_x8 M_x12 M_x14 M_x17 M_x18 M_x19 M_x20 M_x23 M_x27 M_x29 M_x33 M_g24 M_g25 M_g26 M_g28 M_r0 M_r9 M_r10 M_r11 M_r13 M_r15 M_r16 M_r21 M_r22 M_r30 M_r31 M_r32) H := jP
    have jD : va_D A (mW cI uM aM M_x1 M_x2 a1 M_x6 M_x5 M_x6 M_x7 M_x8 M_x12 M_x14 M_x17 M_x18 M_x19 M_x20 M_x23 M_x27 M_x29 M_x33 M_g24 M_g25 M_g26 M_g28 M_r0 M_r9 M_r10 M_r11 M_r13 M_r15 M_r16 M_r21 M_r22 M_r30 M_r31 M_r32) := jD
    obtain rfl := Option.some.inj h
    exact hRet _ _ _ _ jP jD jS dX6_fails_20
theorem okX6_nameAt : okV yX6_nameAt cX6_nameAt 6 (some .int) 2 := ⟨w_238, w_239, w_240, w_5, by decide, by decide, by decide +kernel⟩
def fX6_nameAt_b39 (l1 : Int32) (l2 : Int32) (l3 : Int32) (M_r0 : (Nat → Int32)) (M_x1 : Int32) (M_r9 : (Nat → Int32)) (M_r10 : (Nat → Int32)) (v1 : (Int32 × Int32)) : Option ((Int32 × Int32) ⊕ Int32) :=
  if v1.1 = (0 : Int32) then (some (.inr v1.1)) else (if (l2 - l1) ≤ v1.2 then (some (.inr v1.1)) else (bd (fX6_byteAt (M_r0) (M_x1) (l1 + v1.2)) (fun t1 => ckI l3 7 (ckI ((M_r9 (l3).toNatClampNeg) + v1.2) 24 (bd (if t1 = (M_r10 ((M_r9 (l3).toNatClampNeg) + v1.2).toNatClampNeg) then (some (1 : Int32)) else (some (0 : Int32))) (fun t2 => some (.inl (t2, (v1.2 + (1 : Int32))))))))))
def fX6_nameAt_b2 (l1 : Int32) (l2 : Int32) (M_r9 : (Nat → Int32)) (M_r0 : (Nat → Int32)) (M_x1 : Int32) (M_r10 : (Nat → Int32)) (v1 : Int32) : Option (Int32 ⊕ (Int32 ⊕ Unit)) :=
  if (6 : Int32) ≤ v1 then (some (.inr (.inr ()))) else (ckI (v1 + (1 : Int32)) 7 (ckI v1 7 (bd (if (l2 - l1) = ((M_r9 (v1 + (1 : Int32)).toNatClampNeg) - (M_r9 v1.toNatClampNeg)) then (some (1 : Int32)) else (some (0 : Int32))) (fun t1 => bd (loopF (fX6_nameAt_b39 l1 l2 v1 M_r0 M_x1 M_r9 M_r10) 1000 (t1, (0 : Int32))) (fun T1 => if T1 = (0 : Int32) then (some (.inl (v1 + (1 : Int32)))) else (some (.inr (.inl v1))))))))
def fX6_nameAt (M_r0 : (Nat → Int32)) (M_r9 : (Nat → Int32)) (M_r10 : (Nat → Int32)) (M_x1 : Int32) (a1 : Int32) (a2 : Int32) : Option Int32 :=
  bd (loopF (fX6_nameAt_b2 a1 a2 M_r9 M_r0 M_x1 M_r10) 1000 (0 : Int32)) (fun T1 => sm T1 (fun z => some z) (fun e1 => some (-4 : Int32)))
set_option maxRecDepth 100000 in
set_option maxHeartbeats 4000000 in
theorem kX6_nameAt (l : Launch) (D : va_G) (cI cB cS : ClassId) (uM : Nat) (aM : Nat → Nat) (M_x1 : Int32) (M_x2 : Int32) (M_x3 : Int32) (M_x4 : Int32) (M_x5 : Int32) (M_x6 : Int32) (M_x7 : Int32) (M_x8 : Int32) (M_x12 : Int32) (M_x14 : Int32) (M_x17 : Int32) (M_x18 : Int32) (M_x19 : Int32) (M_x20 : Int32) (M_x23 : Int32) (M_x27 : Int32) (M_x29 : Int32) (M_x33 : Int32) (M_g24 : Int64) (M_g25 : Int64) (M_g26 : Int64) (M_g28 : Int64) (M_r0 : (Nat → Int32)) (M_r9 : (Nat → Int32)) (M_r10 : (Nat → Int32)) (M_r11 : (Nat → Int32)) (M_r13 : (Nat → Int32)) (M_r15 : (Nat → Int32)) (M_r16 : (Nat → Int32)) (M_r21 : (Nat → Int32)) (M_r22 : (Nat → Int32)) (M_r30 : (Nat → Int32)) (M_r31 : (Nat → Int32)) (M_r32 : (Nat → Int32)) (a1 : Int32) (a2 : Int32) (z : Int32) (h : fX6_nameAt M_r0 M_r9 M_r10 M_x1 a1 a2 = some z) : Mt l yX6_nameAt cX6_nameAt 6 (some .int) 1 21 D cI cB cS (mW cI uM aM M_x1 M_x2 M_x3 M_x4 M_x5 M_x6 M_x7 M_x8 M_x12 M_x14 M_x17 M_x18 M_x19 M_x20 M_x23 M_x27 M_x29 M_x33 M_g24 M_g25 M_g26 M_g28 M_r0 M_r9 M_r10 M_r11 M_r13 M_r15 M_r16 M_r21 M_r22 M_r30 M_r31 M_r32) (mW cI uM aM M_x1 M_x2 M_x3 M_x4 M_x5 M_x6 M_x7 M_x8 M_x12 M_x14 M_x17 M_x18 M_x19 M_x20 M_x23 M_x27 M_x29 M_x33 M_g24 M_g25 M_g26 M_g28 M_r0 M_r9 M_r10 M_r11 M_r13 M_r15 M_r16 M_r21 M_r22 M_r30 M_r31 M_r32) [.ref uM, .int a1, .int a2] (some (.int z)) := by
  refine entryI (by decide +kernel) rfl (Nat.le_of_ble_eq_true rfl) ?_
  intro p e s m below meth c A ls QQ R ar F hRet jP jD jS jl
  obtain ⟨hx, hb, hml, hown, hts, jK, hA, hf1, hf2⟩ := id F
  have jl : lv_has ls 6 [(0, .ref uM), (1, .int a1), (2, .int a2)] := jl
  unfold fX6_nameAt at h
  refine lv_iconst (v := (0 : Int32)) hx hb dX6_nameAt_0 (by decide) ?_
  refine lv_istore_n (lv' := [(3, .int (0 : Int32)), (0, .ref uM), (1, .int a1), (2, .int a2)]) hx hb dX6_nameAt_1 rfl jl (by decide) rfl (fun ls jl => ?_)
  obtain ⟨T1, hT1, hz1⟩ := bd_some h
  clear h
  have hE1 : ∀ (e1 : Unit), T1 = .inr e1 → ∀ (H : Heap) (locs : List Loc) (ls : Array Slot), va_P D vwCl (mW cI uM aM M_x1 M_x2 M_x3 M_x4 M_x5 M_x6 M_x7 M_x8 M_x12 M_x14 M_x17 M_x18 M_x19 M_x20 M_x23 M_x27 M_x29 M_x33 M_g24 M_g25 M_g26 M_g28 M_r0 M_r9 M_r10 M_r11 M_r13 M_r15 M_r16 M_r21 M_r22 M_r30 M_r31 M_r32) H → va_D A (mW cI uM aM M_x1 M_x2 M_x3 M_x4 M_x5 M_x6 M_x7 M_x8 M_x12 M_x14 M_x17 M_x18 M_x19 M_x20 M_x23 M_x27 M_x29 M_x33 M_g24 M_g25 M_g26 M_g28 M_r0 M_r9 M_r10 M_r11 M_r13 M_r15 M_r16 M_r21 M_r22 M_r30 M_r31 M_r32) → va_S A s.heap H locs → lv_has ls 6 [] → W p l e R s m ar below meth c H locs 0 0 QQ (F0 m 103 ls []) := by
    intro e1 ho
    subst ho
    have hz1 := sm_r hz1
    clear jP jD jS jl
    intro H locs ls jP jD jS jl
    refine lv_bipush (v := (-4 : Int32)) hx hb dX6_nameAt_103 (by decide) ?_
    obtain rfl := Option.some.inj hz1
    exact hRet _ _ _ _ jP jD jS dX6_nameAt_105
  have hL1 : ∀ (n : Nat) (v1 : Int32), loopF (fX6_nameAt_b2 a1 a2 M_r9 M_r0 M_x1 M_r10) n v1 = some T1 → ∀ (H : Heap) (locs : List Loc) (ls : Array Slot), va_P D vwCl (mW cI uM aM M_x1 M_x2 M_x3 M_x4 M_x5 M_x6 M_x7 M_x8 M_x12 M_x14 M_x17 M_x18 M_x19 M_x20 M_x23 M_x27 M_x29 M_x33 M_g24 M_g25 M_g26 M_g28 M_r0 M_r9 M_r10 M_r11 M_r13 M_r15 M_r16 M_r21 M_r22 M_r30 M_r31 M_r32) H → va_D A (mW cI uM aM M_x1 M_x2 M_x3 M_x4 M_x5 M_x6 M_x7 M_x8 M_x12 M_x14 M_x17 M_x18 M_x19 M_x20 M_x23 M_x27 M_x29 M_x33 M_g24 M_g25 M_g26 M_g28 M_r0 M_r9 M_r10 M_r11 M_r13 M_r15 M_r16 M_r21 M_r22 M_r30 M_r31 M_r32) → va_S A s.heap H locs → lv_has ls 6 [(0, .ref uM), (1, .int a1), (2, .int a2), (3, .int v1)] → W p l e R s m ar below meth c H locs 0 0 QQ (F0 m 2 ls []) := by
    clear jP jD jS jl hT1
    intro n
    induction n with
    | zero => intro v1 hq; exact (loop_none hq).elim
    | succ n ih =>
      intro v1 hq H locs ls jP jD jS jl
      obtain ⟨o1, hv1, hq1⟩ := loop_some hq
      clear hq
      unfold fX6_nameAt_b2 at hv1
      refine lv_iload_n hx hb dX6_nameAt_2 rfl (lv_at jl 3 rfl) ?_
      refine lv_bipush (v := (6 : Int32)) hx hb dX6_nameAt_3 (by decide) ?_
      refine lv_icmp_ge (tgt := 103) hx hb dX6_nameAt_5 (by decide) (fun c2 => ?_) (fun c2 => ?_)
      · have hv1 := itp c2 hv1
        obtain rfl := Option.some.inj hv1
        obtain rfl := nxt_r hq1
        exact hE1 _ rfl _ _ _ jP jD jS (lv_sub jl [] rfl)
      · have hv1 := itn c2 hv1
        refine lv_iload_n hx hb dX6_nameAt_8 rfl (lv_at jl 2 rfl) ?_
        refine lv_iload_n hx hb dX6_nameAt_9 rfl (lv_at jl 1 rfl) ?_
        refine lv_isub hx hb dX6_nameAt_10 ?_
        refine lv_aload_n hx hb dX6_nameAt_11 rfl (lv_at jl 0 rfl) ?_
        refine va_get (D := D) (ci := 6) (v := .ref (aM 9)) (C := RX6) (T := TX6) (N := 34) hx hb hts in6 hown jK.1 jP 0 rfl rfl 9 (by decide) (hts _ w_78) (fun _ h9 => h9) rfl dX6_nameAt_12 ?_
        refine lv_iload_n hx hb dX6_nameAt_15 rfl (lv_at jl 3 rfl) ?_
        refine lv_iconst (v := (1 : Int32)) hx hb dX6_nameAt_16 (by decide) ?_
        refine lv_iadd hx hb dX6_nameAt_17 ?_
        obtain ⟨hin, hv1⟩ := ckI_some hv1
        refine va_iald (f := M_r9) hx hb jK.1 jP 2 0 rfl rfl hin dX6_nameAt_18 ?_
        refine lv_aload_n hx hb dX6_nameAt_19 rfl (lv_at jl 0 rfl) ?_
        refine va_get (D := D) (ci := 6) (v := .ref (aM 9)) (C := RX6) (T := TX6) (N := 34) hx hb hts in6 hown jK.1 jP 0 rfl rfl 9 (by decide) (hts _ w_78) (fun _ h9 => h9) rfl dX6_nameAt_20 ?_
        refine lv_iload_n hx hb dX6_nameAt_23 rfl (lv_at jl 3 rfl) ?_
        obtain ⟨hin, hv1⟩ := ckI_some hv1
        refine va_iald (f := M_r9) hx hb jK.1 jP 2 0 rfl rfl hin dX6_nameAt_24 ?_
        refine lv_isub hx hb dX6_nameAt_25 ?_
        obtain ⟨t4, hvt4, hv1⟩ := bd_some hv1
        have hJt4 : ∀ (H : Heap) (locs : List Loc) (ls : Array Slot), va_P D vwCl (mW cI uM aM M_x1 M_x2 M_x3 M_x4 M_x5 M_x6 M_x7 M_x8 M_x12 M_x14 M_x17 M_x18 M_x19 M_x20 M_x23 M_x27 M_x29 M_x33 M_g24 M_g25 M_g26 M_g28 M_r0 M_r9 M_r10 M_r11 M_r13 M_r15 M_r16 M_r21 M_r22 M_r30 M_r31 M_r32) H → va_D A (mW cI uM aM M_x1 M_x2 M_x3 M_x4 M_x5 M_x6 M_x7 M_x8 M_x12 M_x14 M_x17 M_x18 M_x19 M_x20 M_x23 M_x27 M_x29 M_x33 M_g24 M_g25 M_g26 M_g28 M_r0 M_r9 M_r10 M_r11 M_r13 M_r15 M_r16 M_r21 M_r22 M_r30 M_r31 M_r32) → va_S A s.heap H locs → lv_has ls 6 [(0, .ref uM), (1, .int a1), (2, .int a2), (3, .int v1)] → W p l e R s m ar below meth c H locs 0 0 QQ (F0 m 34 ls [.int t4]) := by
          clear jP jD jS jl
          intro H locs ls jP jD jS jl
          refine lv_istore (lv' := [(4, .int t4), (0, .ref uM), (1, .int a1), (2, .int a2), (3, .int v1)]) hx hb dX6_nameAt_34 jl (by decide) rfl (fun ls jl => ?_)
          refine lv_iconst (v := (0 : Int32)) hx hb dX6_nameAt_36 (by decide) ?_
          refine lv_istore (lv' := [(5, .int (0 : Int32)), (4, .int t4), (0, .ref uM), (1, .int a1), (2, .int a2), (3, .int v1)]) hx hb dX6_nameAt_37 jl (by decide) rfl (fun ls jl => ?_)
          obtain ⟨T5, hT5, hz5⟩ := bd_some hv1
          clear hv1
          have hE5 : ∀ (H : Heap) (locs : List Loc) (ls : Array Slot), va_P D vwCl (mW cI uM aM M_x1 M_x2 M_x3 M_x4 M_x5 M_x6 M_x7 M_x8 M_x12 M_x14 M_x17 M_x18 M_x19 M_x20 M_x23 M_x27 M_x29 M_x33 M_g24 M_g25 M_g26 M_g28 M_r0 M_r9 M_r10 M_r11 M_r13 M_r15 M_r16 M_r21 M_r22 M_r30 M_r31 M_r32) H → va_D A (mW cI uM aM M_x1 M_x2 M_x3 M_x4 M_x5 M_x6 M_x7 M_x8 M_x12 M_x14 M_x17 M_x18 M_x19 M_x20 M_x23 M_x27 M_x29 M_x33 M_g24 M_g25 M_g26 M_g28 M_r0 M_r9 M_r10 M_r11 M_r13 M_r15 M_r16 M_r21 M_r22 M_r30 M_r31 M_r32) → va_S A s.heap H locs → lv_has ls 6 [(0, .ref uM), (1, .int a1), (2, .int a2), (3, .int v1), (4, .int T5)] → W p l e R s m ar below meth c H locs 0 0 QQ (F0 m 90 ls []) := by
            clear jP jD jS jl
            intro H locs ls jP jD jS jl
            refine lv_iload hx hb dX6_nameAt_90 (lv_at jl 4 rfl) ?_
            refine lv_if_eq (tgt := 97) hx hb dX6_nameAt_92 (by decide) (fun c12 => ?_) (fun c12 => ?_)
            · have hz5 := itp c12 hz5
              refine lv_iinc (v := (v1 + (1 : Int32))) (lv' := [(3, .int (v1 + (1 : Int32))), (0, .ref uM), (1, .int a1), (2, .int a2), (4, .int T5)]) hx hb dX6_nameAt_97 jl (k := 3) rfl rfl (by decide) rfl (fun ls jl => ?_)
              refine lv_goto (tgt := 2) hx hb dX6_nameAt_100 (by decide) ?_
              obtain rfl := Option.some.inj hz5
              exact ih _ (nxt_l hq1) _ _ _ jP jD jS (lv_sub jl [1, 2, 3, 0] rfl)
            · have hz5 := itn c12 hz5
              refine lv_iload_n hx hb dX6_nameAt_95 rfl (lv_at jl 3 rfl) ?_
              obtain rfl := Option.some.inj hz5
              obtain rfl := nxt_r hq1
              have hz1 := sm_l hz1
              obtain rfl := Option.some.inj hz1
              exact hRet _ _ _ _ jP jD jS dX6_nameAt_96
          have hL5 : ∀ (n : Nat) (v5 : (Int32 × Int32)), loopF (fX6_nameAt_b39 a1 a2 v1 M_r0 M_x1 M_r9 M_r10) n v5 = some T5 → ∀ (H : Heap) (locs : List Loc) (ls : Array Slot), va_P D vwCl (mW cI uM aM M_x1 M_x2 M_x3 M_x4 M_x5 M_x6 M_x7 M_x8 M_x12 M_x14 M_x17 M_x18 M_x19 M_x20 M_x23 M_x27 M_x29 M_x33 M_g24 M_g25 M_g26 M_g28 M_r0 M_r9 M_r10 M_r11 M_r13 M_r15 M_r16 M_r21 M_r22 M_r30 M_r31 M_r32) H → va_D A (mW cI uM aM M_x1 M_x2 M_x3 M_x4 M_x5 M_x6 M_x7 M_x8 M_x12 M_x14 M_x17 M_x18 M_x19 M_x20 M_x23 M_x27 M_x29 M_x33 M_g24 M_g25 M_g26 M_g28 M_r0 M_r9 M_r10 M_r11 M_r13 M_r15 M_r16 M_r21 M_r22 M_r30 M_r31 M_r32) → va_S A s.heap H locs → lv_has ls 6 [(0, .ref uM), (1, .int a1), (2, .int a2), (3, .int v1), (4, .int v5.1), (5, .int v5.2)] → W p l e R s m ar below meth c H locs 0 0 QQ (F0 m 39 ls []) := by
            clear jP jD jS jl hT5
            intro n
            induction n with
            | zero => intro v5 hq; exact (loop_none hq).elim
            | succ n ih =>
              intro v5 hq H locs ls jP jD jS jl
              obtain ⟨o5, hv5, hq5⟩ := loop_some hq
              clear hq
              unfold fX6_nameAt_b39 at hv5
              refine lv_iload hx hb dX6_nameAt_39 (lv_at jl 4 rfl) ?_
              refine lv_if_eq (tgt := 90) hx hb dX6_nameAt_41 (by decide) (fun c6 => ?_) (fun c6 => ?_)
              · have hv5 := itp c6 hv5
                obtain rfl := Option.some.inj hv5
                obtain rfl := nxt_r hq5
                exact hE5 _ _ _ jP jD jS (lv_sub jl [0, 1, 2, 3, 4] rfl)
              · have hv5 := itn c6 hv5
                refine lv_iload hx hb dX6_nameAt_44 (lv_at jl 5 rfl) ?_
                refine lv_iload_n hx hb dX6_nameAt_46 rfl (lv_at jl 2 rfl) ?_
                refine lv_iload_n hx hb dX6_nameAt_47 rfl (lv_at jl 1 rfl) ?_
                refine lv_isub hx hb dX6_nameAt_48 ?_
                refine lv_icmp_ge (tgt := 90) hx hb dX6_nameAt_49 (by decide) (fun c7 => ?_) (fun c7 => ?_)
                · have hv5 := itp c7 hv5
                  obtain rfl := Option.some.inj hv5
                  obtain rfl := nxt_r hq5
                  exact hE5 _ _ _ jP jD jS (lv_sub jl [0, 1, 2, 3, 4] rfl)
                · have hv5 := itn c7 hv5
                  refine lv_aload_n hx hb dX6_nameAt_52 rfl (lv_at jl 0 rfl) ?_
                  refine lv_iload_n hx hb dX6_nameAt_53 rfl (lv_at jl 1 rfl) ?_
                  refine lv_iload hx hb dX6_nameAt_54 (lv_at jl 5 rfl) ?_
                  refine lv_iadd hx hb dX6_nameAt_56 ?_
                  obtain ⟨t8, hc9, hv5⟩ := bd_some hv5
                  refine callW (w1 := (mW cI uM aM M_x1 M_x2 M_x3 M_x4 M_x5 M_x6 M_x7 M_x8 M_x12 M_x14 M_x17 M_x18 M_x19 M_x20 M_x23 M_x27 M_x29 M_x33 M_g24 M_g25 M_g26 M_g28 M_r0 M_r9 M_r10 M_r11 M_r13 M_r15 M_r16 M_r21 M_r22 M_r30 M_r31 M_r32)) (As := [.int (a1 + v5.2)]) (rest := []) (st1 := [.int t8]) 0 F (kX6_byteAt l D cI cB cS uM aM M_x1 M_x2 M_x3 M_x4 M_x5 M_x6 M_x7 M_x8 M_x12 M_x14 M_x17 M_x18 M_x19 M_x20 M_x23 M_x27 M_x29 M_x33 M_g24 M_g25 M_g26 M_g28 M_r0 M_r9 M_r10 M_r11 M_r13 M_r15 M_r16 M_r21 M_r22 M_r30 M_r31 M_r32 (a1 + v5.2) _ hc9 ) okX6_byteAt w_233 (by decide) (by decide) ⟨Nat.zero_le _, Nat.zero_le _⟩ rfl rfl rfl jP jD jS rfl jl.1 rfl rfl (Nat.le_of_ble_eq_true rfl) dX6_nameAt_57 (fun H locs jP jD jS => ?_)
                  refine lv_aload_n hx hb dX6_nameAt_60 rfl (lv_at jl 0 rfl) ?_
                  refine va_get (D := D) (ci := 6) (v := .ref (aM 10)) (C := RX6) (T := TX6) (N := 34) hx hb hts in6 hown jK.1 jP 0 rfl rfl 10 (by decide) (hts _ w_79) (fun _ h9 => h9) rfl dX6_nameAt_61 ?_
                  refine lv_aload_n hx hb dX6_nameAt_64 rfl (lv_at jl 0 rfl) ?_
                  refine va_get (D := D) (ci := 6) (v := .ref (aM 9)) (C := RX6) (T := TX6) (N := 34) hx hb hts in6 hown jK.1 jP 0 rfl rfl 9 (by decide) (hts _ w_78) (fun _ h9 => h9) rfl dX6_nameAt_65 ?_
                  refine lv_iload_n hx hb dX6_nameAt_68 rfl (lv_at jl 3 rfl) ?_
                  obtain ⟨hin, hv5⟩ := ckI_some hv5
                  refine va_iald (f := M_r9) hx hb jK.1 jP 2 0 rfl rfl hin dX6_nameAt_69 ?_
                  refine lv_iload hx hb dX6_nameAt_70 (lv_at jl 5 rfl) ?_
                  refine lv_iadd hx hb dX6_nameAt_72 ?_
                  obtain ⟨hin, hv5⟩ := ckI_some hv5
                  refine va_iald (f := M_r10) hx hb jK.1 jP 3 0 rfl rfl hin dX6_nameAt_73 ?_
                  obtain ⟨t11, hvt11, hv5⟩ := bd_some hv5
                  have hJt11 : ∀ (H : Heap) (locs : List Loc) (ls : Array Slot), va_P D vwCl (mW cI uM aM M_x1 M_x2 M_x3 M_x4 M_x5 M_x6 M_x7 M_x8 M_x12 M_x14 M_x17 M_x18 M_x19 M_x20 M_x23 M_x27 M_x29 M_x33 M_g24 M_g25 M_g26 M_g28 M_r0 M_r9 M_r10 M_r11 M_r13 M_r15 M_r16 M_r21 M_r22 M_r30 M_r31 M_r32) H → va_D A (mW cI uM aM M_x1 M_x2 M_x3 M_x4 M_x5 M_x6 M_x7 M_x8 M_x12 M_x14 M_x17 M_x18 M_x19 M_x20 M_x23 M_x27 M_x29 M_x33 M_g24 M_g25 M_g26 M_g28 M_r0 M_r9 M_r10 M_r11 M_r13 M_r15 M_r16 M_r21 M_r22 M_r30 M_r31 M_r32) → va_S A s.heap H locs → lv_has ls 6 [(0, .ref uM), (1, .int a1), (2, .int a2), (3, .int v1), (5, .int v5.2)] → W p l e R s m ar below meth c H locs 0 0 QQ (F0 m 82 ls [.int t11]) := by
                    clear jP jD jS jl
                    intro H locs ls jP jD jS jl
                    refine lv_istore (lv' := [(4, .int t11), (0, .ref uM), (1, .int a1), (2, .int a2), (3, .int v1), (5, .int v5.2)]) hx hb dX6_nameAt_82 jl (by decide) rfl (fun ls jl => ?_)
                    refine lv_iinc (v := (v5.2 + (1 : Int32))) (lv' := [(5, .int (v5.2 + (1 : Int32))), (4, .int t11), (0, .ref uM), (1, .int a1), (2, .int a2), (3, .int v1)]) hx hb dX6_nameAt_84 jl (k := 5) rfl rfl (by decide) rfl (fun ls jl => ?_)
                    refine lv_goto (tgt := 39) hx hb dX6_nameAt_87 (by decide) ?_
                    obtain rfl := Option.some.inj hv5
                    exact ih _ (nxt_l hq5) _ _ _ jP jD jS (lv_sub jl [2, 3, 4, 5, 1, 0] rfl)
                  clear hv5
                  refine lv_icmp_ne (tgt := 81) hx hb dX6_nameAt_74 (by decide) (fun c10 => ?_) (fun c10 => ?_)
                  · have hvt11 := itn c10 hvt11
                    refine lv_iconst (v := (0 : Int32)) hx hb dX6_nameAt_81 (by decide) ?_
                    obtain rfl := Option.some.inj hvt11
                    exact hJt11 _ _ _ jP jD jS (lv_sub jl [0, 1, 2, 3, 5] rfl)
                  · have hvt11 := itp c10 hvt11
                    refine lv_iconst (v := (1 : Int32)) hx hb dX6_nameAt_77 (by decide) ?_
                    refine lv_goto (tgt := 82) hx hb dX6_nameAt_78 (by decide) ?_
                    obtain rfl := Option.some.inj hvt11
                    exact hJt11 _ _ _ jP jD jS (lv_sub jl [0, 1, 2, 3, 5] rfl)
          exact hL5 1000 _ hT5 _ _ _ jP jD jS (lv_sub jl [2, 3, 4, 5, 1, 0] rfl)
        clear hv1
        refine lv_icmp_ne (tgt := 33) hx hb dX6_nameAt_26 (by decide) (fun c3 => ?_) (fun c3 => ?_)
        · have hvt4 := itn c3 hvt4
          refine lv_iconst (v := (0 : Int32)) hx hb dX6_nameAt_33 (by decide) ?_
          obtain rfl := Option.some.inj hvt4
          exact hJt4 _ _ _ jP jD jS (lv_sub jl [0, 1, 2, 3] rfl)
        · have hvt4 := itp c3 hvt4
          refine lv_iconst (v := (1 : Int32)) hx hb dX6_nameAt_29 (by decide) ?_
          refine lv_goto (tgt := 34) hx hb dX6_nameAt_30 (by decide) ?_
          obtain rfl := Option.some.inj hvt4
          exact hJt4 _ _ _ jP jD jS (lv_sub jl [0, 1, 2, 3] rfl)
  exact hL1 1000 _ hT1 _ _ _ jP jD jS (lv_sub jl [1, 2, 3, 0] rfl)
theorem okX6_next : okV yX6_next cX6_next 2 none 0 := ⟨w_224, w_225, w_226, w_5, by decide, by decide, by decide +kernel⟩
def fX6_next_b8 (M_r0 : (Nat → Int32)) (M_x1 : Int32) (v1 : Int32) : Option (Int32 ⊕ Int32) :=
  bd (fX6_byteAt (M_r0) (M_x1) v1) (fun t1 => if t1 = (32 : Int32) then (some (.inl (v1 + (1 : Int32)))) else (some (.inr v1)))
def fX6_next_b170 (M_r0 : (Nat → Int32)) (M_x1 : Int32) (M_x6 : Int32) (v1 : (Int32 × Int32)) : Option ((Int32 × Int32) ⊕ (Int32 × Int32)) :=
  bd (fX6_byteAt (M_r0) (M_x1) v1.1) (fun t1 => bd (fX6_in t1.toInt64 (48 : Int64) (57 : Int64)) (fun t2 => if t2 = (0 : Int32) then (some (.inr (v1.1, v1.2))) else (bd (if (2 : Int32) ≤ (v1.1 - M_x6) then some v1.2 else (bd (fX6_byteAt (M_r0) (M_x1) v1.1) (fun t3 => some ((((10 : Int32) * v1.2) + t3) - (48 : Int32))))) (fun t4 => some (.inl ((v1.1 + (1 : Int32)), t4))))))
def fX6_next_b84 (M_r0 : (Nat → Int32)) (M_x1 : Int32) (v1 : Int32) : Option (Int32 ⊕ Int32) :=
  bd (fX6_byteAt (M_r0) (M_x1) v1) (fun t1 => bd (fX6_in t1.toInt64 (97 : Int64) (122 : Int64)) (fun t2 => if t2 = (0 : Int32) then (some (.inr v1)) else (some (.inl (v1 + (1 : Int32))))))
def fX6_next (M_r0 : (Nat → Int32)) (M_r9 : (Nat → Int32)) (M_r10 : (Nat → Int32)) (M_x1 : Int32) (M_x3 : Int32) (M_x4 : Int32) (M_x5 : Int32) (M_x6 : Int32) (M_x7 : Int32) (M_x8 : Int32) : Option (Int32 × Int32 × Int32 × Int32 × Int32 × Int32) :=
  if M_x3 ≤ (0 : Int32) then (bd (loopF (fX6_next_b8 M_r0 M_x1) 1000 M_x5) (fun T2 => bd (fX6_byteAt (M_r0) (M_x1) T2) (fun t6 => if t6 = (-4 : Int32) then (some (M_x3, M_x4, T2, T2, (0 : Int32), (0 : Int32))) else (bd (fX6_in t6.toInt64 (97 : Int64) (122 : Int64)) (fun t9 => if t9 = (0 : Int32) then (bd (fX6_in t6.toInt64 (48 : Int64) (57 : Int64)) (fun t12 => if t12 = (0 : Int32) then (if t6 = (59 : Int32) then (some (M_x3, M_x4, (T2 + (1 : Int32)), T2, (3 : Int32), (0 : Int32))) else (bd (fX6_fails (M_x3) (M_x4) T2 (1 : Int32)) (fun t16 => some (t16.1, t16.2, (T2 + (1 : Int32)), T2, (3 : Int32), (0 : Int32))))) else (bd (loopF (fX6_next_b170 M_r0 M_x1 T2) 1000 (T2, (0 : Int32))) (fun T18 => if (T18.1 - T2) ≤ (2 : Int32) then (some (M_x3, M_x4, T18.1, T2, (2 : Int32), T18.2)) else (bd (fX6_fails (M_x3) (M_x4) T2 (1 : Int32)) (fun t29 => some (t29.1, t29.2, T18.1, T2, (2 : Int32), T18.2))))))) else (bd (loopF (fX6_next_b84 M_r0 M_x1) 1000 T2) (fun T31 => bd (fX6_nameAt (M_r0) (M_r9) (M_r10) (M_x1) T2 T31) (fun t37 => if t37 = (-4 : Int32) then (bd (fX6_fails (M_x3) (M_x4) T2 (1 : Int32)) (fun t40 => some (t40.1, t40.2, T31, T2, (1 : Int32), t37))) else (some (M_x3, M_x4, T31, T2, (1 : Int32), t37)))))))))) else (some (M_x3, M_x4, M_x5, M_x6, M_x7, M_x8))
set_option maxRecDepth 100000 in
set_option maxHeartbeats 4000000 in
theorem kX6_next (l : Launch) (D : va_G) (cI cB cS : ClassId) (uM : Nat) (aM : Nat → Nat) (M_x1 : Int32) (M_x2 : Int32) (M_x3 : Int32) (M_x4 : Int32) (M_x5 : Int32) (M_x6 : Int32) (M_x7 : Int32) (M_x8 : Int32) (M_x12 : Int32) (M_x14 : Int32) (M_x17 : Int32) (M_x18 : Int32) (M_x19 : Int32) (M_x20 : Int32) (M_x23 : Int32) (M_x27 : Int32) (M_x29 : Int32) (M_x33 : Int32) (M_g24 : Int64) (M_g25 : Int64) (M_g26 : Int64) (M_g28 : Int64) (M_r0 : (Nat → Int32)) (M_r9 : (Nat → Int32)) (M_r10 : (Nat → Int32)) (M_r11 : (Nat → Int32)) (M_r13 : (Nat → Int32)) (M_r15 : (Nat → Int32)) (M_r16 : (Nat → Int32)) (M_r21 : (Nat → Int32)) (M_r22 : (Nat → Int32)) (M_r30 : (Nat → Int32)) (M_r31 : (Nat → Int32)) (M_r32 : (Nat → Int32)) (z : (Int32 × Int32 × Int32 × Int32 × Int32 × Int32)) (h : fX6_next M_r0 M_r9 M_r10 M_x1 M_x3 M_x4 M_x5 M_x6 M_x7 M_x8 = some z) : Mt l yX6_next cX6_next 2 none 2 46 D cI cB cS (mW cI uM aM M_x1 M_x2 M_x3 M_x4 M_x5 M_x6 M_x7 M_x8 M_x12 M_x14 M_x17 M_x18 M_x19 M_x20 M_x23 M_x27 M_x29 M_x33 M_g24 M_g25 M_g26 M_g28 M_r0 M_r9 M_r10 M_r11 M_r13 M_r15 M_r16 M_r21 M_r22 M_r30 M_r31 M_r32) (mW cI uM aM M_x1 M_x2 z.1 z.2.1 z.2.2.1 z.2.2.2.1 z.2.2.2.2.1 z.2.2.2.2.2 M_x12 M_x14 M_x17 M_x18 M_x19 M_x20 M_x23 M_x27 M_x29 M_x33 M_g24 M_g25 M_g26 M_g28 M_r0 M_r9 M_r10 M_r11 M_r13 M_r15 M_r16 M_r21 M_r22 M_r30 M_r31 M_r32) [.ref uM] none := by
  refine entryV (by decide +kernel) rfl (Nat.le_of_ble_eq_true rfl) ?_
  intro p e s m below meth c A ls QQ R ar F hRet jP jD jS jl
  obtain ⟨hx, hb, hml, hown, hts, jK, hA, hf1, hf2⟩ := id F
  have jl : lv_has ls 2 [(0, .ref uM)] := jl
  unfold fX6_next at h
  refine lv_aload_n hx hb dX6_next_0 rfl (lv_at jl 0 rfl) ?_
  refine va_get (D := D) (ci := 6) (v := .int M_x3) (C := RX6) (T := TX6) (N := 34) hx hb hts in6 hown jK.1 jP 0 rfl rfl 3 (by decide) (hts _ w_215) (fun _ h9 => h9) rfl dX6_next_1 ?_
  refine lv_if_le (tgt := 8) hx hb dX6_next_4 (by decide) (fun c1 => ?_) (fun c1 => ?_)
  · have h := itp c1 h
    obtain ⟨T2, hT2, hz2⟩ := bd_some h
    clear h
    have hE2 : ∀ (H : Heap) (locs : List Loc) (ls : Array Slot), va_P D vwCl (mW cI uM aM M_x1 M_x2 M_x3 M_x4 T2 M_x6 M_x7 M_x8 M_x12 M_x14 M_x17 M_x18 M_x19 M_x20 M_x23 M_x27 M_x29 M_x33 M_g24 M_g25 M_g26 M_g28 M_r0 M_r9 M_r10 M_r11 M_r13 M_r15 M_r16 M_r21 M_r22 M_r30 M_r31 M_r32) H → va_D A (mW cI uM aM M_x1 M_x2 M_x3 M_x4 T2 M_x6 M_x7 M_x8 M_x12 M_x14 M_x17 M_x18 M_x19 M_x20 M_x23 M_x27 M_x29 M_x33 M_g24 M_g25 M_g26 M_g28 M_r0 M_r9 M_r10 M_r11 M_r13 M_r15 M_r16 M_r21 M_r22 M_r30 M_r31 M_r32) → va_S A s.heap H locs → lv_has ls 2 [(0, .ref uM)] → W p l e R s m ar below meth c H locs 0 0 QQ (F0 m 34 ls []) := by
      clear jP jD jS jl
      intro H locs ls jP jD jS jl
      refine lv_aload_n hx hb dX6_next_34 rfl (lv_at jl 0 rfl) ?_
      refine lv_aload_n hx hb dX6_next_35 rfl (lv_at jl 0 rfl) ?_
      refine va_get (D := D) (ci := 6) (v := .int T2) (C := RX6) (T := TX6) (N := 34) hx hb hts in6 hown jK.1 jP 0 rfl rfl 5 (by decide) (hts _ w_216) (fun _ h9 => h9) rfl dX6_next_36 ?_
      refine va_put (D := D) (ci := 6) (v := .int T2) (ty := .int) (C := RX6) (T := TX6) (N := 34) hx hb hts in6 tyX6 tyX6_ok nmX6 hown jK.1 jP jD jS 0 rfl rfl 6 (by decide) (hts _ w_227) (fun _ h9 => h9) rfl (by decide +kernel) rfl rfl (Nat.le_of_ble_eq_true rfl) dX6_next_39 (fun H locs jP jD jS => ?_)
      have jP : va_P D vwCl (mW cI uM aM M_x1 M_x2 M_x3 M_x4 T2 T2 M_x7 M_x8 M_x12 M_x14 M_x17 M_x18 M_x19 M_x20 M_x23 M_x27 M_x29 M_x33 M_g24 M_g25 M_g26 M_g28 M_r0 M_r9 M_r10 M_r11 M_r13 M_r15 M_r16 M_r21 M_r22 M_r30 M_r31 M_r32) H := jP
      have jD : va_D A (mW cI uM aM M_x1 M_x2 M_x3 M_x4 T2 T2 M_x7 M_x8 M_x12 M_x14 M_x17 M_x18 M_x19 M_x20 M_x23 M_x27 M_x29 M_x33 M_g24 M_g25 M_g26 M_g28 M_r0 M_r9 M_r10 M_r11 M_r13 M_r15 M_r16 M_r21 M_r22 M_r30 M_r31 M_r32) := jD
      refine lv_aload_n hx hb dX6_next_42 rfl (lv_at jl 0 rfl) ?_
      refine lv_aload_n hx hb dX6_next_43 rfl (lv_at jl 0 rfl) ?_
      refine va_get (D := D) (ci := 6) (v := .int T2) (C := RX6) (T := TX6) (N := 34) hx hb hts in6 hown jK.1 jP 0 rfl rfl 5 (by decide) (hts _ w_216) (fun _ h9 => h9) rfl dX6_next_44 ?_
      obtain ⟨t6, hc7, hz2⟩ := bd_some hz2
      refine callW (w1 := (mW cI uM aM M_x1 M_x2 M_x3 M_x4 T2 T2 M_x7 M_x8 M_x12 M_x14 M_x17 M_x18 M_x19 M_x20 M_x23 M_x27 M_x29 M_x33 M_g24 M_g25 M_g26 M_g28 M_r0 M_r9 M_r10 M_r11 M_r13 M_r15 M_r16 M_r21 M_r22 M_r30 M_r31 M_r32)) (As := [.int T2]) (rest := []) (st1 := [.int t6]) 0 F (kX6_byteAt l D cI cB cS uM aM M_x1 M_x2 M_x3 M_x4 T2 T2 M_x7 M_x8 M_x12 M_x14 M_x17 M_x18 M_x19 M_x20 M_x23 M_x27 M_x29 M_x33 M_g24 M_g25 M_g26 M_g28 M_r0 M_r9 M_r10 M_r11 M_r13 M_r15 M_r16 M_r21 M_r22 M_r30 M_r31 M_r32 T2 _ hc7 ) okX6_byteAt w_233 (by decide) (by decide) ⟨Nat.zero_le _, Nat.zero_le _⟩ rfl rfl rfl jP jD jS rfl jl.1 rfl rfl (Nat.le_of_ble_eq_true rfl) dX6_next_47 (fun H locs jP jD jS => ?_)
      refine lv_istore_n (lv' := [(1, .int t6), (0, .ref uM)]) hx hb dX6_next_50 rfl jl (by decide) rfl (fun ls jl => ?_)
      refine lv_aload_n hx hb dX6_next_51 rfl (lv_at jl 1 rfl) ?_
      refine lv_iconst (v := (0 : Int32)) hx hb dX6_next_52 (by decide) ?_
      refine va_put (D := D) (ci := 6) (v := .int (0 : Int32)) (ty := .int) (C := RX6) (T := TX6) (N := 34) hx hb hts in6 tyX6 tyX6_ok nmX6 hown jK.1 jP jD jS 0 rfl rfl 8 (by decide) (hts _ w_228) (fun _ h9 => h9) rfl (by decide +kernel) rfl rfl (Nat.le_of_ble_eq_true rfl) dX6_next_53 (fun H locs jP jD jS => ?_)
      have jP : va_P D vwCl (mW cI uM aM M_x1 M_x2 M_x3 M_x4 T2 T2 M_x7 (0 : Int32) M_x12 M_x14 M_x17 M_x18 M_x19 M_x20 M_x23 M_x27 M_x29 M_x33 M_g24 M_g25 M_g26 M_g28 M_r0 M_r9 M_r10 M_r11 M_r13 M_r15 M_r16 M_r21 M_r22 M_r30 M_r31 M_r32) H := jP
      have jD : va_D A (mW cI uM aM M_x1 M_x2 M_x3 M_x4 T2 T2 M_x7 (0 : Int32) M_x12 M_x14 M_x17 M_x18 M_x19 M_x20 M_x23 M_x27 M_x29 M_x33 M_g24 M_g25 M_g26 M_g28 M_r0 M_r9 M_r10 M_r11 M_r13 M_r15 M_r16 M_r21 M_r22 M_r30 M_r31 M_r32) := jD
      refine lv_iload_n hx hb dX6_next_56 rfl (lv_at jl 0 rfl) ?_
      refine lv_bipush (v := (-4 : Int32)) hx hb dX6_next_57 (by decide) ?_
      refine lv_icmp_ne (tgt := 70) hx hb dX6_next_59 (by decide) (fun c8 => ?_) (fun c8 => ?_)
      · have hz2 := itn c8 hz2
        refine lv_iload_n hx hb dX6_next_70 rfl (lv_at jl 0 rfl) ?_
        refine lv_i2l (v := t6.toInt64) hx hb dX6_next_71 rfl ?_
        refine lv_ldc2 (v := (97 : Int64)) hx hb hown (hts _ w_229) dX6_next_72 ?_
        refine lv_ldc2 (v := (122 : Int64)) hx hb hown (hts _ w_230) dX6_next_75 ?_
        obtain ⟨t9, hc10, hz2⟩ := bd_some hz2
        refine call0 (As := [.long t6.toInt64, .long (97 : Int64), .long (122 : Int64)]) (rest := []) (st1 := [.int t9]) F (kX6_in l D cI cB cS  t6.toInt64 (97 : Int64) (122 : Int64) _ hc10 ) okX6_in w_112 (by decide) (by decide) ⟨Nat.zero_le _, Nat.zero_le _⟩ jP jD jS rfl jl.1 rfl rfl (Nat.le_of_ble_eq_true rfl) dX6_next_78 (fun H locs jP jD jS => ?_)
        refine lv_if_eq (tgt := 156) hx hb dX6_next_81 (by decide) (fun c11 => ?_) (fun c11 => ?_)
        · have hz2 := itp c11 hz2
          refine lv_iload_n hx hb dX6_next_156 rfl (lv_at jl 0 rfl) ?_
          refine lv_i2l (v := t6.toInt64) hx hb dX6_next_157 rfl ?_
          refine lv_ldc2 (v := (48 : Int64)) hx hb hown (hts _ w_231) dX6_next_158 ?_
          refine lv_ldc2 (v := (57 : Int64)) hx hb hown (hts _ w_232) dX6_next_161 ?_
          obtain ⟨t12, hc13, hz2⟩ := bd_some hz2
          refine call0 (As := [.long t6.toInt64, .long (48 : Int64), .long (57 : Int64)]) (rest := []) (st1 := [.int t12]) F (kX6_in l D cI cB cS  t6.toInt64 (48 : Int64) (57 : Int64) _ hc13 ) okX6_in w_112 (by decide) (by decide) ⟨Nat.zero_le _, Nat.zero_le _⟩ jP jD jS rfl jl.1 rfl rfl (Nat.le_of_ble_eq_true rfl) dX6_next_164 (fun H locs jP jD jS => ?_)
          refine lv_if_eq (tgt := 273) hx hb dX6_next_167 (by decide) (fun c14 => ?_) (fun c14 => ?_)
          · have hz2 := itp c14 hz2
            refine lv_aload_n hx hb dX6_next_273 rfl (lv_at jl 1 rfl) ?_
            refine lv_iconst (v := (3 : Int32)) hx hb dX6_next_274 (by decide) ?_
            refine va_put (D := D) (ci := 6) (v := .int (3 : Int32)) (ty := .int) (C := RX6) (T := TX6) (N := 34) hx hb hts in6 tyX6 tyX6_ok nmX6 hown jK.1 jP jD jS 0 rfl rfl 7 (by decide) (hts _ w_219) (fun _ h9 => h9) rfl (by decide +kernel) rfl rfl (Nat.le_of_ble_eq_true rfl) dX6_next_275 (fun H locs jP jD jS => ?_)
            have jP : va_P D vwCl (mW cI uM aM M_x1 M_x2 M_x3 M_x4 T2 T2 (3 : Int32) (0 : Int32) M_x12 M_x14 M_x17 M_x18 M_x19 M_x20 M_x23 M_x27 M_x29 M_x33 M_g24 M_g25 M_g26 M_g28 M_r0 M_r9 M_r10 M_r11 M_r13 M_r15 M_r16 M_r21 M_r22 M_r30 M_r31 M_r32) H := jP
            have jD : va_D A (mW cI uM aM M_x1 M_x2 M_x3 M_x4 T2 T2 (3 : Int32) (0 : Int32) M_x12 M_x14 M_x17 M_x18 M_x19 M_x20 M_x23 M_x27 M_x29 M_x33 M_g24 M_g25 M_g26 M_g28 M_r0 M_r9 M_r10 M_r11 M_r13 M_r15 M_r16 M_r21 M_r22 M_r30 M_r31 M_r32) := jD
            refine lv_aload_n hx hb dX6_next_278 rfl (lv_at jl 1 rfl) ?_
            refine lv_dup hx hb dX6_next_279 rfl ?_
            refine va_get (D := D) (ci := 6) (v := .int T2) (C := RX6) (T := TX6) (N := 34) hx hb hts in6 hown jK.1 jP 0 rfl rfl 5 (by decide) (hts _ w_216) (fun _ h9 => h9) rfl dX6_next_280 ?_
            refine lv_iconst (v := (1 : Int32)) hx hb dX6_next_283 (by decide) ?_
            refine lv_iadd hx hb dX6_next_284 ?_
            refine va_put (D := D) (ci := 6) (v := .int (T2 + (1 : Int32))) (ty := .int) (C := RX6) (T := TX6) (N := 34) hx hb hts in6 tyX6 tyX6_ok nmX6 hown jK.1 jP jD jS 0 rfl rfl 5 (by decide) (hts _ w_216) (fun _ h9 => h9) rfl (by decide +kernel) rfl rfl (Nat.le_of_ble_eq_true rfl) dX6_next_285 (fun H locs jP jD jS => ?_)
            have jP : va_P D vwCl (mW cI uM aM M_x1 M_x2 M_x3 M_x4 (T2 + (1 : Int32)) T2 (3 : Int32) (0 : Int32) M_x12 M_x14 M_x17 M_x18 M_x19 M_x20 M_x23 M_x27 M_x29 M_x33 M_g24 M_g25 M_g26 M_g28 M_r0 M_r9 M_r10 M_r11 M_r13 M_r15 M_r16 M_r21 M_r22 M_r30 M_r31 M_r32) H := jP
            have jD : va_D A (mW cI uM aM M_x1 M_x2 M_x3 M_x4 (T2 + (1 : Int32)) T2 (3 : Int32) (0 : Int32) M_x12 M_x14 M_x17 M_x18 M_x19 M_x20 M_x23 M_x27 M_x29 M_x33 M_g24 M_g25 M_g26 M_g28 M_r0 M_r9 M_r10 M_r11 M_r13 M_r15 M_r16 M_r21 M_r22 M_r30 M_r31 M_r32) := jD
            refine lv_iload_n hx hb dX6_next_288 rfl (lv_at jl 0 rfl) ?_
            refine lv_bipush (v := (59 : Int32)) hx hb dX6_next_289 (by decide) ?_
            refine lv_icmp_eq (tgt := 299) hx hb dX6_next_291 (by decide) (fun c15 => ?_) (fun c15 => ?_)
            · have hz2 := itp c15 hz2
              obtain rfl := Option.some.inj hz2
              exact hRet _ _ _ _ jP jD jS dX6_next_299
            · have hz2 := itn c15 hz2
              refine lv_aload_n hx hb dX6_next_294 rfl (lv_at jl 1 rfl) ?_
              refine lv_iconst (v := (1 : Int32)) hx hb dX6_next_295 (by decide) ?_
              obtain ⟨t16, hc17, hz2⟩ := bd_some hz2
              refine callW (w1 := (mW cI uM aM M_x1 M_x2 t16.1 t16.2 (T2 + (1 : Int32)) T2 (3 : Int32) (0 : Int32) M_x12 M_x14 M_x17 M_x18 M_x19 M_x20 M_x23 M_x27 M_x29 M_x33 M_g24 M_g25 M_g26 M_g28 M_r0 M_r9 M_r10 M_r11 M_r13 M_r15 M_r16 M_r21 M_r22 M_r30 M_r31 M_r32)) (As := [.int (1 : Int32)]) (rest := []) (st1 := []) 0 F (kX6_fails l D cI cB cS uM aM M_x1 M_x2 M_x3 M_x4 (T2 + (1 : Int32)) T2 (3 : Int32) (0 : Int32) M_x12 M_x14 M_x17 M_x18 M_x19 M_x20 M_x23 M_x27 M_x29 M_x33 M_g24 M_g25 M_g26 M_g28 M_r0 M_r9 M_r10 M_r11 M_r13 M_r15 M_r16 M_r21 M_r22 M_r30 M_r31 M_r32 (1 : Int32) _ hc17 ) okX6_fails w_241 (by decide) (by decide) ⟨Nat.zero_le _, Nat.zero_le _⟩ rfl rfl rfl jP jD jS rfl jl.1 rfl rfl (Nat.le_of_ble_eq_true rfl) dX6_next_296 (fun H locs jP jD jS => ?_)
              obtain rfl := Option.some.inj hz2
              exact hRet _ _ _ _ jP jD jS dX6_next_299
          · have hz2 := itn c14 hz2
            obtain ⟨T18, hT18, hz18⟩ := bd_some hz2
            clear hz2
            have hE18 : ∀ (H : Heap) (locs : List Loc) (ls : Array Slot), va_P D vwCl (mW cI uM aM M_x1 M_x2 M_x3 M_x4 T18.1 T2 M_x7 T18.2 M_x12 M_x14 M_x17 M_x18 M_x19 M_x20 M_x23 M_x27 M_x29 M_x33 M_g24 M_g25 M_g26 M_g28 M_r0 M_r9 M_r10 M_r11 M_r13 M_r15 M_r16 M_r21 M_r22 M_r30 M_r31 M_r32) H → va_D A (mW cI uM aM M_x1 M_x2 M_x3 M_x4 T18.1 T2 M_x7 T18.2 M_x12 M_x14 M_x17 M_x18 M_x19 M_x20 M_x23 M_x27 M_x29 M_x33 M_g24 M_g25 M_g26 M_g28 M_r0 M_r9 M_r10 M_r11 M_r13 M_r15 M_r16 M_r21 M_r22 M_r30 M_r31 M_r32) → va_S A s.heap H locs → lv_has ls 2 [(0, .ref uM)] → W p l e R s m ar below meth c H locs 0 0 QQ (F0 m 247 ls []) := by
              clear jP jD jS jl
              intro H locs ls jP jD jS jl
              refine lv_aload_n hx hb dX6_next_247 rfl (lv_at jl 0 rfl) ?_
              refine lv_iconst (v := (2 : Int32)) hx hb dX6_next_248 (by decide) ?_
              refine va_put (D := D) (ci := 6) (v := .int (2 : Int32)) (ty := .int) (C := RX6) (T := TX6) (N := 34) hx hb hts in6 tyX6 tyX6_ok nmX6 hown jK.1 jP jD jS 0 rfl rfl 7 (by decide) (hts _ w_219) (fun _ h9 => h9) rfl (by decide +kernel) rfl rfl (Nat.le_of_ble_eq_true rfl) dX6_next_249 (fun H locs jP jD jS => ?_)
              have jP : va_P D vwCl (mW cI uM aM M_x1 M_x2 M_x3 M_x4 T18.1 T2 (2 : Int32) T18.2 M_x12 M_x14 M_x17 M_x18 M_x19 M_x20 M_x23 M_x27 M_x29 M_x33 M_g24 M_g25 M_g26 M_g28 M_r0 M_r9 M_r10 M_r11 M_r13 M_r15 M_r16 M_r21 M_r22 M_r30 M_r31 M_r32) H := jP
              have jD : va_D A (mW cI uM aM M_x1 M_x2 M_x3 M_x4 T18.1 T2 (2 : Int32) T18.2 M_x12 M_x14 M_x17 M_x18 M_x19 M_x20 M_x23 M_x27 M_x29 M_x33 M_g24 M_g25 M_g26 M_g28 M_r0 M_r9 M_r10 M_r11 M_r13 M_r15 M_r16 M_r21 M_r22 M_r30 M_r31 M_r32) := jD
              refine lv_aload_n hx hb dX6_next_252 rfl (lv_at jl 0 rfl) ?_
              refine va_get (D := D) (ci := 6) (v := .int T18.1) (C := RX6) (T := TX6) (N := 34) hx hb hts in6 hown jK.1 jP 0 rfl rfl 5 (by decide) (hts _ w_216) (fun _ h9 => h9) rfl dX6_next_253 ?_
              refine lv_aload_n hx hb dX6_next_256 rfl (lv_at jl 0 rfl) ?_
              refine va_get (D := D) (ci := 6) (v := .int T2) (C := RX6) (T := TX6) (N := 34) hx hb hts in6 hown jK.1 jP 0 rfl rfl 6 (by decide) (hts _ w_227) (fun _ h9 => h9) rfl dX6_next_257 ?_
              refine lv_isub hx hb dX6_next_260 ?_
              refine lv_iconst (v := (2 : Int32)) hx hb dX6_next_261 (by decide) ?_
              refine lv_icmp_le (tgt := 299) hx hb dX6_next_262 (by decide) (fun c28 => ?_) (fun c28 => ?_)
              · have hz18 := itp c28 hz18
                obtain rfl := Option.some.inj hz18
                exact hRet _ _ _ _ jP jD jS dX6_next_299
              · have hz18 := itn c28 hz18
                refine lv_aload_n hx hb dX6_next_265 rfl (lv_at jl 0 rfl) ?_
                refine lv_iconst (v := (1 : Int32)) hx hb dX6_next_266 (by decide) ?_
                obtain ⟨t29, hc30, hz18⟩ := bd_some hz18
                refine callW (w1 := (mW cI uM aM M_x1 M_x2 t29.1 t29.2 T18.1 T2 (2 : Int32) T18.2 M_x12 M_x14 M_x17 M_x18 M_x19 M_x20 M_x23 M_x27 M_x29 M_x33 M_g24 M_g25 M_g26 M_g28 M_r0 M_r9 M_r10 M_r11 M_r13 M_r15 M_r16 M_r21 M_r22 M_r30 M_r31 M_r32)) (As := [.int (1 : Int32)]) (rest := []) (st1 := []) 0 F (kX6_fails l D cI cB cS uM aM M_x1 M_x2 M_x3 M_x4 T18.1 T2 (2 : Int32) T18.2 M_x12 M_x14 M_x17 M_x18 M_x19 M_x20 M_x23 M_x27 M_x29 M_x33 M_g24 M_g25 M_g26 M_g28 M_r0 M_r9 M_r10 M_r11 M_r13 M_r15 M_r16 M_r21 M_r22 M_r30 M_r31 M_r32 (1 : Int32) _ hc30 ) okX6_fails w_241 (by decide) (by decide) ⟨Nat.zero_le _, Nat.zero_le _⟩ rfl rfl rfl jP jD jS rfl jl.1 rfl rfl (Nat.le_of_ble_eq_true rfl) dX6_next_267 (fun H locs jP jD jS => ?_)
                refine lv_goto (tgt := 299) hx hb dX6_next_270 (by decide) ?_
                obtain rfl := Option.some.inj hz18
                exact hRet _ _ _ _ jP jD jS dX6_next_299
            have hL18 : ∀ (n : Nat) (v18 : (Int32 × Int32)), loopF (fX6_next_b170 M_r0 M_x1 T2) n v18 = some T18 → ∀ (H : Heap) (locs : List Loc) (ls : Array Slot), va_P D vwCl (mW cI uM aM M_x1 M_x2 M_x3 M_x4 v18.1 T2 M_x7 v18.2 M_x12 M_x14 M_x17 M_x18 M_x19 M_x20 M_x23 M_x27 M_x29 M_x33 M_g24 M_g25 M_g26 M_g28 M_r0 M_r9 M_r10 M_r11 M_r13 M_r15 M_r16 M_r21 M_r22 M_r30 M_r31 M_r32) H → va_D A (mW cI uM aM M_x1 M_x2 M_x3 M_x4 v18.1 T2 M_x7 v18.2 M_x12 M_x14 M_x17 M_x18 M_x19 M_x20 M_x23 M_x27 M_x29 M_x33 M_g24 M_g25 M_g26 M_g28 M_r0 M_r9 M_r10 M_r11 M_r13 M_r15 M_r16 M_r21 M_r22 M_r30 M_r31 M_r32) → va_S A s.heap H locs → lv_has ls 2 [(0, .ref uM)] → W p l e R s m ar below meth c H locs 0 0 QQ (F0 m 170 ls []) := by
              clear jP jD jS jl hT18
              intro n
              induction n with
              | zero => intro v18 hq; exact (loop_none hq).elim
              | succ n ih =>
                intro v18 hq H locs ls jP jD jS jl
                obtain ⟨o18, hv18, hq18⟩ := loop_some hq
                clear hq
                unfold fX6_next_b170 at hv18
                refine lv_aload_n hx hb dX6_next_170 rfl (lv_at jl 0 rfl) ?_
                refine lv_aload_n hx hb dX6_next_171 rfl (lv_at jl 0 rfl) ?_
                refine va_get (D := D) (ci := 6) (v := .int v18.1) (C := RX6) (T := TX6) (N := 34) hx hb hts in6 hown jK.1 jP 0 rfl rfl 5 (by decide) (hts _ w_216) (fun _ h9 => h9) rfl dX6_next_172 ?_
                obtain ⟨t19, hc20, hv18⟩ := bd_some hv18
                refine callW (w1 := (mW cI uM aM M_x1 M_x2 M_x3 M_x4 v18.1 T2 M_x7 v18.2 M_x12 M_x14 M_x17 M_x18 M_x19 M_x20 M_x23 M_x27 M_x29 M_x33 M_g24 M_g25 M_g26 M_g28 M_r0 M_r9 M_r10 M_r11 M_r13 M_r15 M_r16 M_r21 M_r22 M_r30 M_r31 M_r32)) (As := [.int v18.1]) (rest := []) (st1 := [.int t19]) 0 F (kX6_byteAt l D cI cB cS uM aM M_x1 M_x2 M_x3 M_x4 v18.1 T2 M_x7 v18.2 M_x12 M_x14 M_x17 M_x18 M_x19 M_x20 M_x23 M_x27 M_x29 M_x33 M_g24 M_g25 M_g26 M_g28 M_r0 M_r9 M_r10 M_r11 M_r13 M_r15 M_r16 M_r21 M_r22 M_r30 M_r31 M_r32 v18.1 _ hc20 ) okX6_byteAt w_233 (by decide) (by decide) ⟨Nat.zero_le _, Nat.zero_le _⟩ rfl rfl rfl jP jD jS rfl jl.1 rfl rfl (Nat.le_of_ble_eq_true rfl) dX6_next_175 (fun H locs jP jD jS => ?_)
                refine lv_i2l (v := t19.toInt64) hx hb dX6_next_178 rfl ?_
                refine lv_ldc2 (v := (48 : Int64)) hx hb hown (hts _ w_231) dX6_next_179 ?_
                refine lv_ldc2 (v := (57 : Int64)) hx hb hown (hts _ w_232) dX6_next_182 ?_
                obtain ⟨t21, hc22, hv18⟩ := bd_some hv18
                refine call0 (As := [.long t19.toInt64, .long (48 : Int64), .long (57 : Int64)]) (rest := []) (st1 := [.int t21]) F (kX6_in l D cI cB cS  t19.toInt64 (48 : Int64) (57 : Int64) _ hc22 ) okX6_in w_112 (by decide) (by decide) ⟨Nat.zero_le _, Nat.zero_le _⟩ jP jD jS rfl jl.1 rfl rfl (Nat.le_of_ble_eq_true rfl) dX6_next_185 (fun H locs jP jD jS => ?_)
                refine lv_if_eq (tgt := 247) hx hb dX6_next_188 (by decide) (fun c23 => ?_) (fun c23 => ?_)
                · have hv18 := itp c23 hv18
                  obtain rfl := Option.some.inj hv18
                  obtain rfl := nxt_r hq18
                  exact hE18 _ _ _ jP jD jS (lv_sub jl [0] rfl)
                · have hv18 := itn c23 hv18
                  refine lv_aload_n hx hb dX6_next_191 rfl (lv_at jl 0 rfl) ?_
                  refine lv_aload_n hx hb dX6_next_192 rfl (lv_at jl 0 rfl) ?_
                  refine va_get (D := D) (ci := 6) (v := .int v18.1) (C := RX6) (T := TX6) (N := 34) hx hb hts in6 hown jK.1 jP 0 rfl rfl 5 (by decide) (hts _ w_216) (fun _ h9 => h9) rfl dX6_next_193 ?_
                  refine lv_aload_n hx hb dX6_next_196 rfl (lv_at jl 0 rfl) ?_
                  refine va_get (D := D) (ci := 6) (v := .int T2) (C := RX6) (T := TX6) (N := 34) hx hb hts in6 hown jK.1 jP 0 rfl rfl 6 (by decide) (hts _ w_227) (fun _ h9 => h9) rfl dX6_next_197 ?_
                  refine lv_isub hx hb dX6_next_200 ?_
                  refine lv_iconst (v := (2 : Int32)) hx hb dX6_next_201 (by decide) ?_
                  obtain ⟨t27, hvt27, hv18⟩ := bd_some hv18
                  have hJt27 : ∀ (H : Heap) (locs : List Loc) (ls : Array Slot), va_P D vwCl (mW cI uM aM M_x1 M_x2 M_x3 M_x4 v18.1 T2 M_x7 v18.2 M_x12 M_x14 M_x17 M_x18 M_x19 M_x20 M_x23 M_x27 M_x29 M_x33 M_g24 M_g25 M_g26 M_g28 M_r0 M_r9 M_r10 M_r11 M_r13 M_r15 M_r16 M_r21 M_r22 M_r30 M_r31 M_r32) H → va_D A (mW cI uM aM M_x1 M_x2 M_x3 M_x4 v18.1 T2 M_x7 v18.2 M_x12 M_x14 M_x17 M_x18 M_x19 M_x20 M_x23 M_x27 M_x29 M_x33 M_g24 M_g25 M_g26 M_g28 M_r0 M_r9 M_r10 M_r11 M_r13 M_r15 M_r16 M_r21 M_r22 M_r30 M_r31 M_r32) → va_S A s.heap H locs → lv_has ls 2 [(0, .ref uM)] → W p l e R s m ar below meth c H locs 0 0 QQ (F0 m 231 ls [.int t27, .ref uM]) := by
                    clear jP jD jS jl
                    intro H locs ls jP jD jS jl
                    refine va_put (D := D) (ci := 6) (v := .int t27) (ty := .int) (C := RX6) (T := TX6) (N := 34) hx hb hts in6 tyX6 tyX6_ok nmX6 hown jK.1 jP jD jS 0 rfl rfl 8 (by decide) (hts _ w_228) (fun _ h9 => h9) rfl (by decide +kernel) rfl rfl (Nat.le_of_ble_eq_true rfl) dX6_next_231 (fun H locs jP jD jS => ?_)
                    have jP : va_P D vwCl (mW cI uM aM M_x1 M_x2 M_x3 M_x4 v18.1 T2 M_x7 t27 M_x12 M_x14 M_x17 M_x18 M_x19 M_x20 M_x23 M_x27 M_x29 M_x33 M_g24 M_g25 M_g26 M_g28 M_r0 M_r9 M_r10 M_r11 M_r13 M_r15 M_r16 M_r21 M_r22 M_r30 M_r31 M_r32) H := jP
                    have jD : va_D A (mW cI uM aM M_x1 M_x2 M_x3 M_x4 v18.1 T2 M_x7 t27 M_x12 M_x14 M_x17 M_x18 M_x19 M_x20 M_x23 M_x27 M_x29 M_x33 M_g24 M_g25 M_g26 M_g28 M_r0 M_r9 M_r10 M_r11 M_r13 M_r15 M_r16 M_r21 M_r22 M_r30 M_r31 M_r32) := jD
                    refine lv_aload_n hx hb dX6_next_234 rfl (lv_at jl 0 rfl) ?_
                    refine lv_dup hx hb dX6_next_235 rfl ?_
                    refine va_get (D := D) (ci := 6) (v := .int v18.1) (C := RX6) (T := TX6) (N := 34) hx hb hts in6 hown jK.1 jP 0 rfl rfl 5 (by decide) (hts _ w_216) (fun _ h9 => h9) rfl dX6_next_236 ?_
                    refine lv_iconst (v := (1 : Int32)) hx hb dX6_next_239 (by decide) ?_
                    refine lv_iadd hx hb dX6_next_240 ?_
                    refine va_put (D := D) (ci := 6) (v := .int (v18.1 + (1 : Int32))) (ty := .int) (C := RX6) (T := TX6) (N := 34) hx hb hts in6 tyX6 tyX6_ok nmX6 hown jK.1 jP jD jS 0 rfl rfl 5 (by decide) (hts _ w_216) (fun _ h9 => h9) rfl (by decide +kernel) rfl rfl (Nat.le_of_ble_eq_true rfl) dX6_next_241 (fun H locs jP jD jS => ?_)
                    have jP : va_P D vwCl (mW cI uM aM M_x1 M_x2 M_x3 M_x4 (v18.1 + (1 : Int32)) T2 M_x7 t27 M_x12 M_x14 M_x17 M_x18 M_x19 M_x20 M_x23 M_x27 M_x29 M_x33 M_g24 M_g25 M_g26 M_g28 M_r0 M_r9 M_r10 M_r11 M_r13 M_r15 M_r16 M_r21 M_r22 M_r30 M_r31 M_r32) H := jP
                    have jD : va_D A (mW cI uM aM M_x1 M_x2 M_x3 M_x4 (v18.1 + (1 : Int32)) T2 M_x7 t27 M_x12 M_x14 M_x17 M_x18 M_x19 M_x20 M_x23 M_x27 M_x29 M_x33 M_g24 M_g25 M_g26 M_g28 M_r0 M_r9 M_r10 M_r11 M_r13 M_r15 M_r16 M_r21 M_r22 M_r30 M_r31 M_r32) := jD
                    refine lv_goto (tgt := 170) hx hb dX6_next_244 (by decide) ?_
                    obtain rfl := Option.some.inj hv18
                    exact ih _ (nxt_l hq18) _ _ _ jP jD jS (lv_sub jl [0] rfl)
                  clear hv18
                  refine lv_icmp_ge (tgt := 227) hx hb dX6_next_202 (by decide) (fun c24 => ?_) (fun c24 => ?_)
                  · have hvt27 := itp c24 hvt27
                    refine lv_aload_n hx hb dX6_next_227 rfl (lv_at jl 0 rfl) ?_
                    refine va_get (D := D) (ci := 6) (v := .int v18.2) (C := RX6) (T := TX6) (N := 34) hx hb hts in6 hown jK.1 jP 0 rfl rfl 8 (by decide) (hts _ w_228) (fun _ h9 => h9) rfl dX6_next_228 ?_
                    obtain rfl := Option.some.inj hvt27
                    exact hJt27 _ _ _ jP jD jS (lv_sub jl [0] rfl)
                  · have hvt27 := itn c24 hvt27
                    refine lv_bipush (v := (10 : Int32)) hx hb dX6_next_205 (by decide) ?_
                    refine lv_aload_n hx hb dX6_next_207 rfl (lv_at jl 0 rfl) ?_
                    refine va_get (D := D) (ci := 6) (v := .int v18.2) (C := RX6) (T := TX6) (N := 34) hx hb hts in6 hown jK.1 jP 0 rfl rfl 8 (by decide) (hts _ w_228) (fun _ h9 => h9) rfl dX6_next_208 ?_
                    refine lv_imul hx hb dX6_next_211 ?_
                    refine lv_aload_n hx hb dX6_next_212 rfl (lv_at jl 0 rfl) ?_
                    refine lv_aload_n hx hb dX6_next_213 rfl (lv_at jl 0 rfl) ?_
                    refine va_get (D := D) (ci := 6) (v := .int v18.1) (C := RX6) (T := TX6) (N := 34) hx hb hts in6 hown jK.1 jP 0 rfl rfl 5 (by decide) (hts _ w_216) (fun _ h9 => h9) rfl dX6_next_214 ?_
                    obtain ⟨t25, hc26, hvt27⟩ := bd_some hvt27
                    refine callW (w1 := (mW cI uM aM M_x1 M_x2 M_x3 M_x4 v18.1 T2 M_x7 v18.2 M_x12 M_x14 M_x17 M_x18 M_x19 M_x20 M_x23 M_x27 M_x29 M_x33 M_g24 M_g25 M_g26 M_g28 M_r0 M_r9 M_r10 M_r11 M_r13 M_r15 M_r16 M_r21 M_r22 M_r30 M_r31 M_r32)) (As := [.int v18.1]) (rest := [.int ((10 : Int32) * v18.2), .ref uM]) (st1 := [.int t25, .int ((10 : Int32) * v18.2), .ref uM]) 0 F (kX6_byteAt l D cI cB cS uM aM M_x1 M_x2 M_x3 M_x4 v18.1 T2 M_x7 v18.2 M_x12 M_x14 M_x17 M_x18 M_x19 M_x20 M_x23 M_x27 M_x29 M_x33 M_g24 M_g25 M_g26 M_g28 M_r0 M_r9 M_r10 M_r11 M_r13 M_r15 M_r16 M_r21 M_r22 M_r30 M_r31 M_r32 v18.1 _ hc26 ) okX6_byteAt w_233 (by decide) (by decide) ⟨Nat.zero_le _, Nat.zero_le _⟩ rfl rfl rfl jP jD jS rfl jl.1 rfl rfl (Nat.le_of_ble_eq_true rfl) dX6_next_217 (fun H locs jP jD jS => ?_)
                    refine lv_iadd hx hb dX6_next_220 ?_
                    refine lv_bipush (v := (48 : Int32)) hx hb dX6_next_221 (by decide) ?_
                    refine lv_isub hx hb dX6_next_223 ?_
                    refine lv_goto (tgt := 231) hx hb dX6_next_224 (by decide) ?_
                    obtain rfl := Option.some.inj hvt27
                    exact hJt27 _ _ _ jP jD jS (lv_sub jl [0] rfl)
            exact hL18 1000 _ hT18 _ _ _ jP jD jS (lv_sub jl [1] rfl)
        · have hz2 := itn c11 hz2
          obtain ⟨T31, hT31, hz31⟩ := bd_some hz2
          clear hz2
          have hE31 : ∀ (H : Heap) (locs : List Loc) (ls : Array Slot), va_P D vwCl (mW cI uM aM M_x1 M_x2 M_x3 M_x4 T31 T2 M_x7 (0 : Int32) M_x12 M_x14 M_x17 M_x18 M_x19 M_x20 M_x23 M_x27 M_x29 M_x33 M_g24 M_g25 M_g26 M_g28 M_r0 M_r9 M_r10 M_r11 M_r13 M_r15 M_r16 M_r21 M_r22 M_r30 M_r31 M_r32) H → va_D A (mW cI uM aM M_x1 M_x2 M_x3 M_x4 T31 T2 M_x7 (0 : Int32) M_x12 M_x14 M_x17 M_x18 M_x19 M_x20 M_x23 M_x27 M_x29 M_x33 M_g24 M_g25 M_g26 M_g28 M_r0 M_r9 M_r10 M_r11 M_r13 M_r15 M_r16 M_r21 M_r22 M_r30 M_r31 M_r32) → va_S A s.heap H locs → lv_has ls 2 [(0, .ref uM)] → W p l e R s m ar below meth c H locs 0 0 QQ (F0 m 118 ls []) := by
            clear jP jD jS jl
            intro H locs ls jP jD jS jl
            refine lv_aload_n hx hb dX6_next_118 rfl (lv_at jl 0 rfl) ?_
            refine lv_iconst (v := (1 : Int32)) hx hb dX6_next_119 (by decide) ?_
            refine va_put (D := D) (ci := 6) (v := .int (1 : Int32)) (ty := .int) (C := RX6) (T := TX6) (N := 34) hx hb hts in6 tyX6 tyX6_ok nmX6 hown jK.1 jP jD jS 0 rfl rfl 7 (by decide) (hts _ w_219) (fun _ h9 => h9) rfl (by decide +kernel) rfl rfl (Nat.le_of_ble_eq_true rfl) dX6_next_120 (fun H locs jP jD jS => ?_)
            have jP : va_P D vwCl (mW cI uM aM M_x1 M_x2 M_x3 M_x4 T31 T2 (1 : Int32) (0 : Int32) M_x12 M_x14 M_x17 M_x18 M_x19 M_x20 M_x23 M_x27 M_x29 M_x33 M_g24 M_g25 M_g26 M_g28 M_r0 M_r9 M_r10 M_r11 M_r13 M_r15 M_r16 M_r21 M_r22 M_r30 M_r31 M_r32) H := jP
            have jD : va_D A (mW cI uM aM M_x1 M_x2 M_x3 M_x4 T31 T2 (1 : Int32) (0 : Int32) M_x12 M_x14 M_x17 M_x18 M_x19 M_x20 M_x23 M_x27 M_x29 M_x33 M_g24 M_g25 M_g26 M_g28 M_r0 M_r9 M_r10 M_r11 M_r13 M_r15 M_r16 M_r21 M_r22 M_r30 M_r31 M_r32) := jD
            refine lv_aload_n hx hb dX6_next_123 rfl (lv_at jl 0 rfl) ?_
            refine lv_aload_n hx hb dX6_next_124 rfl (lv_at jl 0 rfl) ?_
            refine lv_aload_n hx hb dX6_next_125 rfl (lv_at jl 0 rfl) ?_
            refine va_get (D := D) (ci := 6) (v := .int T2) (C := RX6) (T := TX6) (N := 34) hx hb hts in6 hown jK.1 jP 0 rfl rfl 6 (by decide) (hts _ w_227) (fun _ h9 => h9) rfl dX6_next_126 ?_
            refine lv_aload_n hx hb dX6_next_129 rfl (lv_at jl 0 rfl) ?_
            refine va_get (D := D) (ci := 6) (v := .int T31) (C := RX6) (T := TX6) (N := 34) hx hb hts in6 hown jK.1 jP 0 rfl rfl 5 (by decide) (hts _ w_216) (fun _ h9 => h9) rfl dX6_next_130 ?_
            obtain ⟨t37, hc38, hz31⟩ := bd_some hz31
            refine callW (w1 := (mW cI uM aM M_x1 M_x2 M_x3 M_x4 T31 T2 (1 : Int32) (0 : Int32) M_x12 M_x14 M_x17 M_x18 M_x19 M_x20 M_x23 M_x27 M_x29 M_x33 M_g24 M_g25 M_g26 M_g28 M_r0 M_r9 M_r10 M_r11 M_r13 M_r15 M_r16 M_r21 M_r22 M_r30 M_r31 M_r32)) (As := [.int T2, .int T31]) (rest := [.ref uM]) (st1 := [.int t37, .ref uM]) 0 F (kX6_nameAt l D cI cB cS uM aM M_x1 M_x2 M_x3 M_x4 T31 T2 (1 : Int32) (0 : Int32) M_x12 M_x14 M_x17 M_x18 M_x19 M_x20 M_x23 M_x27 M_x29 M_x33 M_g24 M_g25 M_g26 M_g28 M_r0 M_r9 M_r10 M_r11 M_r13 M_r15 M_r16 M_r21 M_r22 M_r30 M_r31 M_r32 T2 T31 _ hc38 ) okX6_nameAt w_237 (by decide) (by decide) ⟨Nat.zero_le _, Nat.zero_le _⟩ rfl rfl rfl jP jD jS rfl jl.1 rfl rfl (Nat.le_of_ble_eq_true rfl) dX6_next_133 (fun H locs jP jD jS => ?_)
            refine va_put (D := D) (ci := 6) (v := .int t37) (ty := .int) (C := RX6) (T := TX6) (N := 34) hx hb hts in6 tyX6 tyX6_ok nmX6 hown jK.1 jP jD jS 0 rfl rfl 8 (by decide) (hts _ w_228) (fun _ h9 => h9) rfl (by decide +kernel) rfl rfl (Nat.le_of_ble_eq_true rfl) dX6_next_136 (fun H locs jP jD jS => ?_)
            have jP : va_P D vwCl (mW cI uM aM M_x1 M_x2 M_x3 M_x4 T31 T2 (1 : Int32) t37 M_x12 M_x14 M_x17 M_x18 M_x19 M_x20 M_x23 M_x27 M_x29 M_x33 M_g24 M_g25 M_g26 M_g28 M_r0 M_r9 M_r10 M_r11 M_r13 M_r15 M_r16 M_r21 M_r22 M_r30 M_r31 M_r32) H := jP
            have jD : va_D A (mW cI uM aM M_x1 M_x2 M_x3 M_x4 T31 T2 (1 : Int32) t37 M_x12 M_x14 M_x17 M_x18 M_x19 M_x20 M_x23 M_x27 M_x29 M_x33 M_g24 M_g25 M_g26 M_g28 M_r0 M_r9 M_r10 M_r11 M_r13 M_r15 M_r16 M_r21 M_r22 M_r30 M_r31 M_r32) := jD
            refine lv_aload_n hx hb dX6_next_139 rfl (lv_at jl 0 rfl) ?_
            refine va_get (D := D) (ci := 6) (v := .int t37) (C := RX6) (T := TX6) (N := 34) hx hb hts in6 hown jK.1 jP 0 rfl rfl 8 (by decide) (hts _ w_228) (fun _ h9 => h9) rfl dX6_next_140 ?_
            refine lv_bipush (v := (-4 : Int32)) hx hb dX6_next_143 (by decide) ?_
            refine lv_icmp_ne (tgt := 299) hx hb dX6_next_145 (by decide) (fun c39 => ?_) (fun c39 => ?_)
            · have hz31 := itn c39 hz31
              obtain rfl := Option.some.inj hz31
              exact hRet _ _ _ _ jP jD jS dX6_next_299
            · have hz31 := itp c39 hz31
              refine lv_aload_n hx hb dX6_next_148 rfl (lv_at jl 0 rfl) ?_
              refine lv_iconst (v := (1 : Int32)) hx hb dX6_next_149 (by decide) ?_
              obtain ⟨t40, hc41, hz31⟩ := bd_some hz31
              refine callW (w1 := (mW cI uM aM M_x1 M_x2 t40.1 t40.2 T31 T2 (1 : Int32) t37 M_x12 M_x14 M_x17 M_x18 M_x19 M_x20 M_x23 M_x27 M_x29 M_x33 M_g24 M_g25 M_g26 M_g28 M_r0 M_r9 M_r10 M_r11 M_r13 M_r15 M_r16 M_r21 M_r22 M_r30 M_r31 M_r32)) (As := [.int (1 : Int32)]) (rest := []) (st1 := []) 0 F (kX6_fails l D cI cB cS uM aM M_x1 M_x2 M_x3 M_x4 T31 T2 (1 : Int32) t37 M_x12 M_x14 M_x17 M_x18 M_x19 M_x20 M_x23 M_x27 M_x29 M_x33 M_g24 M_g25 M_g26 M_g28 M_r0 M_r9 M_r10 M_r11 M_r13 M_r15 M_r16 M_r21 M_r22 M_r30 M_r31 M_r32 (1 : Int32) _ hc41 ) okX6_fails w_241 (by decide) (by decide) ⟨Nat.zero_le _, Nat.zero_le _⟩ rfl rfl rfl jP jD jS rfl jl.1 rfl rfl (Nat.le_of_ble_eq_true rfl) dX6_next_150 (fun H locs jP jD jS => ?_)
              refine lv_goto (tgt := 299) hx hb dX6_next_153 (by decide) ?_
              obtain rfl := Option.some.inj hz31
              exact hRet _ _ _ _ jP jD jS dX6_next_299
          have hL31 : ∀ (n : Nat) (v31 : Int32), loopF (fX6_next_b84 M_r0 M_x1) n v31 = some T31 → ∀ (H : Heap) (locs : List Loc) (ls : Array Slot), va_P D vwCl (mW cI uM aM M_x1 M_x2 M_x3 M_x4 v31 T2 M_x7 (0 : Int32) M_x12 M_x14 M_x17 M_x18 M_x19 M_x20 M_x23 M_x27 M_x29 M_x33 M_g24 M_g25 M_g26 M_g28 M_r0 M_r9 M_r10 M_r11 M_r13 M_r15 M_r16 M_r21 M_r22 M_r30 M_r31 M_r32) H → va_D A (mW cI uM aM M_x1 M_x2 M_x3 M_x4 v31 T2 M_x7 (0 : Int32) M_x12 M_x14 M_x17 M_x18 M_x19 M_x20 M_x23 M_x27 M_x29 M_x33 M_g24 M_g25 M_g26 M_g28 M_r0 M_r9 M_r10 M_r11 M_r13 M_r15 M_r16 M_r21 M_r22 M_r30 M_r31 M_r32) → va_S A s.heap H locs → lv_has ls 2 [(0, .ref uM)] → W p l e R s m ar below meth c H locs 0 0 QQ (F0 m 84 ls []) := by
            clear jP jD jS jl hT31
            intro n
            induction n with
            | zero => intro v31 hq; exact (loop_none hq).elim
            | succ n ih =>
              intro v31 hq H locs ls jP jD jS jl
              obtain ⟨o31, hv31, hq31⟩ := loop_some hq
              clear hq
              unfold fX6_next_b84 at hv31
              refine lv_aload_n hx hb dX6_next_84 rfl (lv_at jl 0 rfl) ?_
              refine lv_aload_n hx hb dX6_next_85 rfl (lv_at jl 0 rfl) ?_
              refine va_get (D := D) (ci := 6) (v := .int v31) (C := RX6) (T := TX6) (N := 34) hx hb hts in6 hown jK.1 jP 0 rfl rfl 5 (by decide) (hts _ w_216) (fun _ h9 => h9) rfl dX6_next_86 ?_
              obtain ⟨t32, hc33, hv31⟩ := bd_some hv31
              refine callW (w1 := (mW cI uM aM M_x1 M_x2 M_x3 M_x4 v31 T2 M_x7 (0 : Int32) M_x12 M_x14 M_x17 M_x18 M_x19 M_x20 M_x23 M_x27 M_x29 M_x33 M_g24 M_g25 M_g26 M_g28 M_r0 M_r9 M_r10 M_r11 M_r13 M_r15 M_r16 M_r21 M_r22 M_r30 M_r31 M_r32)) (As := [.int v31]) (rest := []) (st1 := [.int t32]) 0 F (kX6_byteAt l D cI cB cS uM aM M_x1 M_x2 M_x3 M_x4 v31 T2 M_x7 (0 : Int32) M_x12 M_x14 M_x17 M_x18 M_x19 M_x20 M_x23 M_x27 M_x29 M_x33 M_g24 M_g25 M_g26 M_g28 M_r0 M_r9 M_r10 M_r11 M_r13 M_r15 M_r16 M_r21 M_r22 M_r30 M_r31 M_r32 v31 _ hc33 ) okX6_byteAt w_233 (by decide) (by decide) ⟨Nat.zero_le _, Nat.zero_le _⟩ rfl rfl rfl jP jD jS rfl jl.1 rfl rfl (Nat.le_of_ble_eq_true rfl) dX6_next_89 (fun H locs jP jD jS => ?_)
              refine lv_i2l (v := t32.toInt64) hx hb dX6_next_92 rfl ?_
              refine lv_ldc2 (v := (97 : Int64)) hx hb hown (hts _ w_229) dX6_next_93 ?_
              refine lv_ldc2 (v := (122 : Int64)) hx hb hown (hts _ w_230) dX6_next_96 ?_
              obtain ⟨t34, hc35, hv31⟩ := bd_some hv31
              refine call0 (As := [.long t32.toInt64, .long (97 : Int64), .long (122 : Int64)]) (rest := []) (st1 := [.int t34]) F (kX6_in l D cI cB cS  t32.toInt64 (97 : Int64) (122 : Int64) _ hc35 ) okX6_in w_112 (by decide) (by decide) ⟨Nat.zero_le _, Nat.zero_le _⟩ jP jD jS rfl jl.1 rfl rfl (Nat.le_of_ble_eq_true rfl) dX6_next_99 (fun H locs jP jD jS => ?_)
              refine lv_if_eq (tgt := 118) hx hb dX6_next_102 (by decide) (fun c36 => ?_) (fun c36 => ?_)
              · have hv31 := itp c36 hv31
                obtain rfl := Option.some.inj hv31
                obtain rfl := nxt_r hq31
                exact hE31 _ _ _ jP jD jS (lv_sub jl [0] rfl)
              · have hv31 := itn c36 hv31
                refine lv_aload_n hx hb dX6_next_105 rfl (lv_at jl 0 rfl) ?_
                refine lv_dup hx hb dX6_next_106 rfl ?_
                refine va_get (D := D) (ci := 6) (v := .int v31) (C := RX6) (T := TX6) (N := 34) hx hb hts in6 hown jK.1 jP 0 rfl rfl 5 (by decide) (hts _ w_216) (fun _ h9 => h9) rfl dX6_next_107 ?_
                refine lv_iconst (v := (1 : Int32)) hx hb dX6_next_110 (by decide) ?_
                refine lv_iadd hx hb dX6_next_111 ?_
                refine va_put (D := D) (ci := 6) (v := .int (v31 + (1 : Int32))) (ty := .int) (C := RX6) (T := TX6) (N := 34) hx hb hts in6 tyX6 tyX6_ok nmX6 hown jK.1 jP jD jS 0 rfl rfl 5 (by decide) (hts _ w_216) (fun _ h9 => h9) rfl (by decide +kernel) rfl rfl (Nat.le_of_ble_eq_true rfl) dX6_next_112 (fun H locs jP jD jS => ?_)
                have jP : va_P D vwCl (mW cI uM aM M_x1 M_x2 M_x3 M_x4 (v31 + (1 : Int32)) T2 M_x7 (0 : Int32) M_x12 M_x14 M_x17 M_x18 M_x19 M_x20 M_x23 M_x27 M_x29 M_x33 M_g24 M_g25 M_g26 M_g28 M_r0 M_r9 M_r10 M_r11 M_r13 M_r15 M_r16 M_r21 M_r22 M_r30 M_r31 M_r32) H := jP
                have jD : va_D A (mW cI uM aM M_x1 M_x2 M_x3 M_x4 (v31 + (1 : Int32)) T2 M_x7 (0 : Int32) M_x12 M_x14 M_x17 M_x18 M_x19 M_x20 M_x23 M_x27 M_x29 M_x33 M_g24 M_g25 M_g26 M_g28 M_r0 M_r9 M_r10 M_r11 M_r13 M_r15 M_r16 M_r21 M_r22 M_r30 M_r31 M_r32) := jD
                refine lv_goto (tgt := 84) hx hb dX6_next_115 (by decide) ?_
                obtain rfl := Option.some.inj hv31
                exact ih _ (nxt_l hq31) _ _ _ jP jD jS (lv_sub jl [0] rfl)
          exact hL31 1000 _ hT31 _ _ _ jP jD jS (lv_sub jl [1] rfl)
      · have hz2 := itp c8 hz2
        refine lv_aload_n hx hb dX6_next_62 rfl (lv_at jl 1 rfl) ?_
        refine lv_iconst (v := (0 : Int32)) hx hb dX6_next_63 (by decide) ?_
        refine va_put (D := D) (ci := 6) (v := .int (0 : Int32)) (ty := .int) (C := RX6) (T := TX6) (N := 34) hx hb hts in6 tyX6 tyX6_ok nmX6 hown jK.1 jP jD jS 0 rfl rfl 7 (by decide) (hts _ w_219) (fun _ h9 => h9) rfl (by decide +kernel) rfl rfl (Nat.le_of_ble_eq_true rfl) dX6_next_64 (fun H locs jP jD jS => ?_)
        have jP : va_P D vwCl (mW cI uM aM M_x1 M_x2 M_x3 M_x4 T2 T2 (0 : Int32) (0 : Int32) M_x12 M_x14 M_x17 M_x18 M_x19 M_x20 M_x23 M_x27 M_x29 M_x33 M_g24 M_g25 M_g26 M_g28 M_r0 M_r9 M_r10 M_r11 M_r13 M_r15 M_r16 M_r21 M_r22 M_r30 M_r31 M_r32) H := jP
        have jD : va_D A (mW cI uM aM M_x1 M_x2 M_x3 M_x4 T2 T2 (0 : Int32) (0 : Int32) M_x12 M_x14 M_x17 M_x18 M_x19 M_x20 M_x23 M_x27 M_x29 M_x33 M_g24 M_g25 M_g26 M_g28 M_r0 M_r9 M_r10 M_r11 M_r13 M_r15 M_r16 M_r21 M_r22 M_r30 M_r31 M_r32) := jD
        refine lv_goto (tgt := 299) hx hb dX6_next_67 (by decide) ?_
        obtain rfl := Option.some.inj hz2
        exact hRet _ _ _ _ jP jD jS dX6_next_299
    have hL2 : ∀ (n : Nat) (v2 : Int32), loopF (fX6_next_b8 M_r0 M_x1) n v2 = some T2 → ∀ (H : Heap) (locs : List Loc) (ls : Array Slot), va_P D vwCl (mW cI uM aM M_x1 M_x2 M_x3 M_x4 v2 M_x6 M_x7 M_x8 M_x12 M_x14 M_x17 M_x18 M_x19 M_x20 M_x23 M_x27 M_x29 M_x33 M_g24 M_g25 M_g26 M_g28 M_r0 M_r9 M_r10 M_r11 M_r13 M_r15 M_r16 M_r21 M_r22 M_r30 M_r31 M_r32) H → va_D A (mW cI uM aM M_x1 M_x2 M_x3 M_x4 v2 M_x6 M_x7 M_x8 M_x12 M_x14 M_x17 M_x18 M_x19 M_x20 M_x23 M_x27 M_x29 M_x33 M_g24 M_g25 M_g26 M_g28 M_r0 M_r9 M_r10 M_r11 M_r13 M_r15 M_r16 M_r21 M_r22 M_r30 M_r31 M_r32) → va_S A s.heap H locs → lv_has ls 2 [(0, .ref uM)] → W p l e R s m ar below meth c H locs 0 0 QQ (F0 m 8 ls []) := by
      clear jP jD jS jl hT2
      intro n
      induction n with
      | zero => intro v2 hq; exact (loop_none hq).elim
      | succ n ih =>
        intro v2 hq H locs ls jP jD jS jl
        obtain ⟨o2, hv2, hq2⟩ := loop_some hq
        clear hq
        unfold fX6_next_b8 at hv2
        refine lv_aload_n hx hb dX6_next_8 rfl (lv_at jl 0 rfl) ?_
        refine lv_aload_n hx hb dX6_next_9 rfl (lv_at jl 0 rfl) ?_
        refine va_get (D := D) (ci := 6) (v := .int v2) (C := RX6) (T := TX6) (N := 34) hx hb hts in6 hown jK.1 jP 0 rfl rfl 5 (by decide) (hts _ w_216) (fun _ h9 => h9) rfl dX6_next_10 ?_
        obtain ⟨t3, hc4, hv2⟩ := bd_some hv2
        refine callW (w1 := (mW cI uM aM M_x1 M_x2 M_x3 M_x4 v2 M_x6 M_x7 M_x8 M_x12 M_x14 M_x17 M_x18 M_x19 M_x20 M_x23 M_x27 M_x29 M_x33 M_g24 M_g25 M_g26 M_g28 M_r0 M_r9 M_r10 M_r11 M_r13 M_r15 M_r16 M_r21 M_r22 M_r30 M_r31 M_r32)) (As := [.int v2]) (rest := []) (st1 := [.int t3]) 0 F (kX6_byteAt l D cI cB cS uM aM M_x1 M_x2 M_x3 M_x4 v2 M_x6 M_x7 M_x8 M_x12 M_x14 M_x17 M_x18 M_x19 M_x20 M_x23 M_x27 M_x29 M_x33 M_g24 M_g25 M_g26 M_g28 M_r0 M_r9 M_r10 M_r11 M_r13 M_r15 M_r16 M_r21 M_r22 M_r30 M_r31 M_r32 v2 _ hc4 ) okX6_byteAt w_233 (by decide) (by decide) ⟨Nat.zero_le _, Nat.zero_le _⟩ rfl rfl rfl jP jD jS rfl jl.1 rfl rfl (Nat.le_of_ble_eq_true rfl) dX6_next_13 (fun H locs jP jD jS => ?_)
        refine lv_bipush (v := (32 : Int32)) hx hb dX6_next_16 (by decide) ?_
        refine lv_icmp_ne (tgt := 34) hx hb dX6_next_18 (by decide) (fun c5 => ?_) (fun c5 => ?_)
        · have hv2 := itn c5 hv2
          obtain rfl := Option.some.inj hv2
          obtain rfl := nxt_r hq2
          exact hE2 _ _ _ jP jD jS (lv_sub jl [0] rfl)
        · have hv2 := itp c5 hv2
          refine lv_aload_n hx hb dX6_next_21 rfl (lv_at jl 0 rfl) ?_
          refine lv_dup hx hb dX6_next_22 rfl ?_
          refine va_get (D := D) (ci := 6) (v := .int v2) (C := RX6) (T := TX6) (N := 34) hx hb hts in6 hown jK.1 jP 0 rfl rfl 5 (by decide) (hts _ w_216) (fun _ h9 => h9) rfl dX6_next_23 ?_
          refine lv_iconst (v := (1 : Int32)) hx hb dX6_next_26 (by decide) ?_
          refine lv_iadd hx hb dX6_next_27 ?_
          refine va_put (D := D) (ci := 6) (v := .int (v2 + (1 : Int32))) (ty := .int) (C := RX6) (T := TX6) (N := 34) hx hb hts in6 tyX6 tyX6_ok nmX6 hown jK.1 jP jD jS 0 rfl rfl 5 (by decide) (hts _ w_216) (fun _ h9 => h9) rfl (by decide +kernel) rfl rfl (Nat.le_of_ble_eq_true rfl) dX6_next_28 (fun H locs jP jD jS => ?_)
          have jP : va_P D vwCl (mW cI uM aM M_x1 M_x2 M_x3 M_x4 (v2 + (1 : Int32)) M_x6 M_x7 M_x8 M_x12 M_x14 M_x17 M_x18 M_x19 M_x20 M_x23 M_x27 M_x29 M_x33 M_g24 M_g25 M_g26 M_g28 M_r0 M_r9 M_r10 M_r11 M_r13 M_r15 M_r16 M_r21 M_r22 M_r30 M_r31 M_r32) H := jP
          have jD : va_D A (mW cI uM aM M_x1 M_x2 M_x3 M_x4 (v2 + (1 : Int32)) M_x6 M_x7 M_x8 M_x12 M_x14 M_x17 M_x18 M_x19 M_x20 M_x23 M_x27 M_x29 M_x33 M_g24 M_g25 M_g26 M_g28 M_r0 M_r9 M_r10 M_r11 M_r13 M_r15 M_r16 M_r21 M_r22 M_r30 M_r31 M_r32) := jD
          refine lv_goto (tgt := 8) hx hb dX6_next_31 (by decide) ?_
          obtain rfl := Option.some.inj hv2
          exact ih _ (nxt_l hq2) _ _ _ jP jD jS (lv_sub jl [0] rfl)
    exact hL2 1000 _ hT2 _ _ _ jP jD jS (lv_sub jl [0] rfl)
  · have h := itn c1 h
    obtain rfl := Option.some.inj h
    exact hRet _ _ _ _ jP jD jS dX6_next_7
theorem okX6_number : okV yX6_number cX6_number 3 (some .int) 2 := ⟨w_254, w_255, w_256, w_5, by decide, by decide, by decide +kernel⟩
def fX6_number (M_x3 : Int32) (M_x4 : Int32) (M_x6 : Int32) (M_x7 : Int32) (M_x8 : Int32) (a1 : Int32) (a2 : Int32) : Option (Int32 × Int32 × Int32) :=
  bd (if M_x3 = (0 : Int32) then (if M_x7 = (2 : Int32) then (some (M_x3, M_x4)) else (bd (fX6_fails (M_x3) (M_x4) (M_x6) (2 : Int32)) (fun t3 => some (t3.1, t3.2)))) else (some (M_x3, M_x4))) (fun t5 => bd (if t5.1 = (0 : Int32) then (bd (fX6_in ((M_x8).toInt64) a1.toInt64 a2.toInt64) (fun t7 => if t7 = (0 : Int32) then (bd (fX6_fails t5.1 t5.2 (M_x6) (3 : Int32)) (fun t10 => some (t10.1, t10.2))) else (some (t5.1, t5.2)))) else (some (t5.1, t5.2))) (fun t12 => if t12.1 = (0 : Int32) then (some (M_x8, t12.1, t12.2)) else (some (a1, t12.1, t12.2))))
set_option maxRecDepth 100000 in
set_option maxHeartbeats 4000000 in
theorem kX6_number (l : Launch) (D : va_G) (cI cB cS : ClassId) (uM : Nat) (aM : Nat → Nat) (M_x1 : Int32) (M_x2 : Int32) (M_x3 : Int32) (M_x4 : Int32) (M_x5 : Int32) (M_x6 : Int32) (M_x7 : Int32) (M_x8 : Int32) (M_x12 : Int32) (M_x14 : Int32) (M_x17 : Int32) (M_x18 : Int32) (M_x19 : Int32) (M_x20 : Int32) (M_x23 : Int32) (M_x27 : Int32) (M_x29 : Int32) (M_x33 : Int32) (M_g24 : Int64) (M_g25 : Int64) (M_g26 : Int64) (M_g28 : Int64) (M_r0 : (Nat → Int32)) (M_r9 : (Nat → Int32)) (M_r10 : (Nat → Int32)) (M_r11 : (Nat → Int32)) (M_r13 : (Nat → Int32)) (M_r15 : (Nat → Int32)) (M_r16 : (Nat → Int32)) (M_r21 : (Nat → Int32)) (M_r22 : (Nat → Int32)) (M_r30 : (Nat → Int32)) (M_r31 : (Nat → Int32)) (M_r32 : (Nat → Int32)) (a1 : Int32) (a2 : Int32) (z : (Int32 × Int32 × Int32)) (h : fX6_number M_x3 M_x4 M_x6 M_x7 M_x8 a1 a2 = some z) : Mt l yX6_number cX6_number 3 (some .int) 1 25 D cI cB cS (mW cI uM aM M_x1 M_x2 M_x3 M_x4 M_x5 M_x6 M_x7 M_x8 M_x12 M_x14 M_x17 M_x18 M_x19 M_x20 M_x23 M_x27 M_x29 M_x33 M_g24 M_g25 M_g26 M_g28 M_r0 M_r9 M_r10 M_r11 M_r13 M_r15 M_r16 M_r21 M_r22 M_r30 M_r31 M_r32) (mW cI uM aM M_x1 M_x2 z.2.1 z.2.2 M_x5 M_x6 M_x7 M_x8 M_x12 M_x14 M_x17 M_x18 M_x19 M_x20 M_x23 M_x27 M_x29 M_x33 M_g24 M_g25 M_g26 M_g28 M_r0 M_r9 M_r10 M_r11 M_r13 M_r15 M_r16 M_r21 M_r22 M_r30 M_r31 M_r32) [.ref uM, .int a1, .int a2] (some (.int z.1)) := by
  refine entryI (by decide +kernel) rfl (Nat.le_of_ble_eq_true rfl) ?_
  intro p e s m below meth c A ls QQ R ar F hRet jP jD jS jl
  obtain ⟨hx, hb, hml, hown, hts, jK, hA, hf1, hf2⟩ := id F
  have jl : lv_has ls 3 [(0, .ref uM), (1, .int a1), (2, .int a2)] := jl
  unfold fX6_number at h
  refine lv_aload_n hx hb dX6_number_0 rfl (lv_at jl 0 rfl) ?_
  refine va_get (D := D) (ci := 6) (v := .int M_x3) (C := RX6) (T := TX6) (N := 34) hx hb hts in6 hown jK.1 jP 0 rfl rfl 3 (by decide) (hts _ w_215) (fun _ h9 => h9) rfl dX6_number_1 ?_
  obtain ⟨t5, hvt5, h⟩ := bd_some h
  have hJt5 : ∀ (H : Heap) (locs : List Loc) (ls : Array Slot), va_P D vwCl (mW cI uM aM M_x1 M_x2 t5.1 t5.2 M_x5 M_x6 M_x7 M_x8 M_x12 M_x14 M_x17 M_x18 M_x19 M_x20 M_x23 M_x27 M_x29 M_x33 M_g24 M_g25 M_g26 M_g28 M_r0 M_r9 M_r10 M_r11 M_r13 M_r15 M_r16 M_r21 M_r22 M_r30 M_r31 M_r32) H → va_D A (mW cI uM aM M_x1 M_x2 t5.1 t5.2 M_x5 M_x6 M_x7 M_x8 M_x12 M_x14 M_x17 M_x18 M_x19 M_x20 M_x23 M_x27 M_x29 M_x33 M_g24 M_g25 M_g26 M_g28 M_r0 M_r9 M_r10 M_r11 M_r13 M_r15 M_r16 M_r21 M_r22 M_r30 M_r31 M_r32) → va_S A s.heap H locs → lv_has ls 3 [(0, .ref uM), (1, .int a1), (2, .int a2)] → W p l e R s m ar below meth c H locs 0 0 QQ (F0 m 20 ls []) := by
    clear jP jD jS jl
    intro H locs ls jP jD jS jl
    refine lv_aload_n hx hb dX6_number_20 rfl (lv_at jl 0 rfl) ?_
    refine va_get (D := D) (ci := 6) (v := .int t5.1) (C := RX6) (T := TX6) (N := 34) hx hb hts in6 hown jK.1 jP 0 rfl rfl 3 (by decide) (hts _ w_215) (fun _ h9 => h9) rfl dX6_number_21 ?_
    obtain ⟨t12, hvt12, h⟩ := bd_some h
    have hJt12 : ∀ (H : Heap) (locs : List Loc) (ls : Array Slot), va_P D vwCl (mW cI uM aM M_x1 M_x2 t12.1 t12.2 M_x5 M_x6 M_x7 M_x8 M_x12 M_x14 M_x17 M_x18 M_x19 M_x20 M_x23 M_x27 M_x29 M_x33 M_g24 M_g25 M_g26 M_g28 M_r0 M_r9 M_r10 M_r11 M_r13 M_r15 M_r16 M_r21 M_r22 M_r30 M_r31 M_r32) H → va_D A (mW cI uM aM M_x1 M_x2 t12.1 t12.2 M_x5 M_x6 M_x7 M_x8 M_x12 M_x14 M_x17 M_x18 M_x19 M_x20 M_x23 M_x27 M_x29 M_x33 M_g24 M_g25 M_g26 M_g28 M_r0 M_r9 M_r10 M_r11 M_r13 M_r15 M_r16 M_r21 M_r22 M_r30 M_r31 M_r32) → va_S A s.heap H locs → lv_has ls 3 [(0, .ref uM), (1, .int a1)] → W p l e R s m ar below meth c H locs 0 0 QQ (F0 m 47 ls []) := by
      clear jP jD jS jl
      intro H locs ls jP jD jS jl
      refine lv_aload_n hx hb dX6_number_47 rfl (lv_at jl 0 rfl) ?_
      refine va_get (D := D) (ci := 6) (v := .int t12.1) (C := RX6) (T := TX6) (N := 34) hx hb hts in6 hown jK.1 jP 0 rfl rfl 3 (by decide) (hts _ w_215) (fun _ h9 => h9) rfl dX6_number_48 ?_
      refine lv_if_ne (tgt := 61) hx hb dX6_number_51 (by decide) (fun c13 => ?_) (fun c13 => ?_)
      · have h := itn c13 h
        refine lv_iload_n hx hb dX6_number_61 rfl (lv_at jl 1 rfl) ?_
        obtain rfl := Option.some.inj h
        exact hRet _ _ _ _ jP jD jS dX6_number_62
      · have h := itp c13 h
        refine lv_aload_n hx hb dX6_number_54 rfl (lv_at jl 0 rfl) ?_
        refine va_get (D := D) (ci := 6) (v := .int M_x8) (C := RX6) (T := TX6) (N := 34) hx hb hts in6 hown jK.1 jP 0 rfl rfl 8 (by decide) (hts _ w_228) (fun _ h9 => h9) rfl dX6_number_55 ?_
        refine lv_goto (tgt := 62) hx hb dX6_number_58 (by decide) ?_
        obtain rfl := Option.some.inj h
        exact hRet _ _ _ _ jP jD jS dX6_number_62
    clear h
    refine lv_if_ne (tgt := 47) hx hb dX6_number_24 (by decide) (fun c6 => ?_) (fun c6 => ?_)
    · have hvt12 := itn c6 hvt12
      obtain rfl := Option.some.inj hvt12
      exact hJt12 _ _ _ jP jD jS (lv_sub jl [0, 1] rfl)
    · have hvt12 := itp c6 hvt12
      refine lv_aload_n hx hb dX6_number_27 rfl (lv_at jl 0 rfl) ?_
      refine va_get (D := D) (ci := 6) (v := .int M_x8) (C := RX6) (T := TX6) (N := 34) hx hb hts in6 hown jK.1 jP 0 rfl rfl 8 (by decide) (hts _ w_228) (fun _ h9 => h9) rfl dX6_number_28 ?_
      refine lv_i2l (v := (M_x8).toInt64) hx hb dX6_number_31 rfl ?_
      refine lv_iload_n hx hb dX6_number_32 rfl (lv_at jl 1 rfl) ?_
      refine lv_i2l (v := a1.toInt64) hx hb dX6_number_33 rfl ?_
      refine lv_iload_n hx hb dX6_number_34 rfl (lv_at jl 2 rfl) ?_
      refine lv_i2l (v := a2.toInt64) hx hb dX6_number_35 rfl ?_
      obtain ⟨t7, hc8, hvt12⟩ := bd_some hvt12
      refine call0 (As := [.long ((M_x8).toInt64), .long a1.toInt64, .long a2.toInt64]) (rest := []) (st1 := [.int t7]) F (kX6_in l D cI cB cS  ((M_x8).toInt64) a1.toInt64 a2.toInt64 _ hc8 ) okX6_in w_112 (by decide) (by decide) ⟨Nat.zero_le _, Nat.zero_le _⟩ jP jD jS rfl jl.1 rfl rfl (Nat.le_of_ble_eq_true rfl) dX6_number_36 (fun H locs jP jD jS => ?_)
      refine lv_if_ne (tgt := 47) hx hb dX6_number_39 (by decide) (fun c9 => ?_) (fun c9 => ?_)
      · have hvt12 := itn c9 hvt12
        obtain rfl := Option.some.inj hvt12
        exact hJt12 _ _ _ jP jD jS (lv_sub jl [0, 1] rfl)
      · have hvt12 := itp c9 hvt12
        refine lv_aload_n hx hb dX6_number_42 rfl (lv_at jl 0 rfl) ?_
        refine lv_iconst (v := (3 : Int32)) hx hb dX6_number_43 (by decide) ?_
        obtain ⟨t10, hc11, hvt12⟩ := bd_some hvt12
        refine callW (w1 := (mW cI uM aM M_x1 M_x2 t10.1 t10.2 M_x5 M_x6 M_x7 M_x8 M_x12 M_x14 M_x17 M_x18 M_x19 M_x20 M_x23 M_x27 M_x29 M_x33 M_g24 M_g25 M_g26 M_g28 M_r0 M_r9 M_r10 M_r11 M_r13 M_r15 M_r16 M_r21 M_r22 M_r30 M_r31 M_r32)) (As := [.int (3 : Int32)]) (rest := []) (st1 := []) 0 F (kX6_fails l D cI cB cS uM aM M_x1 M_x2 t5.1 t5.2 M_x5 M_x6 M_x7 M_x8 M_x12 M_x14 M_x17 M_x18 M_x19 M_x20 M_x23 M_x27 M_x29 M_x33 M_g24 M_g25 M_g26 M_g28 M_r0 M_r9 M_r10 M_r11 M_r13 M_r15 M_r16 M_r21 M_r22 M_r30 M_r31 M_r32 (3 : Int32) _ hc11 ) okX6_fails w_241 (by decide) (by decide) ⟨Nat.zero_le _, Nat.zero_le _⟩ rfl rfl rfl jP jD jS rfl jl.1 rfl rfl (Nat.le_of_ble_eq_true rfl) dX6_number_44 (fun H locs jP jD jS => ?_)
        obtain rfl := Option.some.inj hvt12
        exact hJt12 _ _ _ jP jD jS (lv_sub jl [0, 1] rfl)
  clear h
  refine lv_if_ne (tgt := 20) hx hb dX6_number_4 (by decide) (fun c1 => ?_) (fun c1 => ?_)
  · have hvt5 := itn c1 hvt5
    obtain rfl := Option.some.inj hvt5
    exact hJt5 _ _ _ jP jD jS (lv_sub jl [0, 1, 2] rfl)
  · have hvt5 := itp c1 hvt5
    refine lv_aload_n hx hb dX6_number_7 rfl (lv_at jl 0 rfl) ?_
    refine va_get (D := D) (ci := 6) (v := .int M_x7) (C := RX6) (T := TX6) (N := 34) hx hb hts in6 hown jK.1 jP 0 rfl rfl 7 (by decide) (hts _ w_219) (fun _ h9 => h9) rfl dX6_number_8 ?_
    refine lv_iconst (v := (2 : Int32)) hx hb dX6_number_11 (by decide) ?_
    refine lv_icmp_eq (tgt := 20) hx hb dX6_number_12 (by decide) (fun c2 => ?_) (fun c2 => ?_)
    · have hvt5 := itp c2 hvt5
      obtain rfl := Option.some.inj hvt5
      exact hJt5 _ _ _ jP jD jS (lv_sub jl [0, 1, 2] rfl)
    · have hvt5 := itn c2 hvt5
      refine lv_aload_n hx hb dX6_number_15 rfl (lv_at jl 0 rfl) ?_
      refine lv_iconst (v := (2 : Int32)) hx hb dX6_number_16 (by decide) ?_
      obtain ⟨t3, hc4, hvt5⟩ := bd_some hvt5
      refine callW (w1 := (mW cI uM aM M_x1 M_x2 t3.1 t3.2 M_x5 M_x6 M_x7 M_x8 M_x12 M_x14 M_x17 M_x18 M_x19 M_x20 M_x23 M_x27 M_x29 M_x33 M_g24 M_g25 M_g26 M_g28 M_r0 M_r9 M_r10 M_r11 M_r13 M_r15 M_r16 M_r21 M_r22 M_r30 M_r31 M_r32)) (As := [.int (2 : Int32)]) (rest := []) (st1 := []) 0 F (kX6_fails l D cI cB cS uM aM M_x1 M_x2 M_x3 M_x4 M_x5 M_x6 M_x7 M_x8 M_x12 M_x14 M_x17 M_x18 M_x19 M_x20 M_x23 M_x27 M_x29 M_x33 M_g24 M_g25 M_g26 M_g28 M_r0 M_r9 M_r10 M_r11 M_r13 M_r15 M_r16 M_r21 M_r22 M_r30 M_r31 M_r32 (2 : Int32) _ hc4 ) okX6_fails w_241 (by decide) (by decide) ⟨Nat.zero_le _, Nat.zero_le _⟩ rfl rfl rfl jP jD jS rfl jl.1 rfl rfl (Nat.le_of_ble_eq_true rfl) dX6_number_17 (fun H locs jP jD jS => ?_)
      obtain rfl := Option.some.inj hvt5
      exact hJt5 _ _ _ jP jD jS (lv_sub jl [0, 1, 2] rfl)
theorem okX6_layRow : okS yX6_layRow cX6_layRow 6 none 6 := ⟨w_258, w_259, w_5, by decide, by decide, by decide +kernel⟩
def fX6_layRowa (M_r11 : (Nat → Int32)) (a1 : Int32) (a2 : Int32) (a3 : Int32) (a4 : Int32) (a5 : Int32) : Option (Nat → Int32) :=
  ckI ((5 : Int32) * a1) 40 (ckI (((5 : Int32) * a1) + (1 : Int32)) 40 (ckI (((5 : Int32) * a1) + (2 : Int32)) 40 (ckI (((5 : Int32) * a1) + (3 : Int32)) 40 (ckI (((5 : Int32) * a1) + (4 : Int32)) 40 (some (upd (upd (upd (upd (upd M_r11 ((5 : Int32) * a1).toNatClampNeg a2) (((5 : Int32) * a1) + (1 : Int32)).toNatClampNeg a3) (((5 : Int32) * a1) + (2 : Int32)).toNatClampNeg a4) (((5 : Int32) * a1) + (3 : Int32)).toNatClampNeg a5) (((5 : Int32) * a1) + (4 : Int32)).toNatClampNeg (0 : Int32)))))))
set_option maxRecDepth 100000 in
set_option maxHeartbeats 4000000 in
theorem kX6_layRowa (l : Launch) (D : va_G) (cI cB cS : ClassId) (uM : Nat) (aM : Nat → Nat) (M_x1 : Int32) (M_x2 : Int32) (M_x3 : Int32) (M_x4 : Int32) (M_x5 : Int32) (M_x6 : Int32) (M_x7 : Int32) (M_x8 : Int32) (M_x12 : Int32) (M_x14 : Int32) (M_x17 : Int32) (M_x18 : Int32) (M_x19 : Int32) (M_x20 : Int32) (M_x23 : Int32) (M_x27 : Int32) (M_x29 : Int32) (M_x33 : Int32) (M_g24 : Int64) (M_g25 : Int64) (M_g26 : Int64) (M_g28 : Int64) (M_r0 : (Nat → Int32)) (M_r9 : (Nat → Int32)) (M_r10 : (Nat → Int32)) (M_r11 : (Nat → Int32)) (M_r13 : (Nat → Int32)) (M_r15 : (Nat → Int32)) (M_r16 : (Nat → Int32)) (M_r21 : (Nat → Int32)) (M_r22 : (Nat → Int32)) (M_r30 : (Nat → Int32)) (M_r31 : (Nat → Int32)) (M_r32 : (Nat → Int32)) (a1 : Int32) (a2 : Int32) (a3 : Int32) (a4 : Int32) (a5 : Int32) (z : (Nat → Int32)) (h : fX6_layRowa M_r11 a1 a2 a3 a4 a5 = some z) : Mt l yX6_layRow cX6_layRow 6 none 0 0 D cI cB cS (mW cI uM aM M_x1 M_x2 M_x3 M_x4 M_x5 M_x6 M_x7 M_x8 M_x12 M_x14 M_x17 M_x18 M_x19 M_x20 M_x23 M_x27 M_x29 M_x33 M_g24 M_g25 M_g26 M_g28 M_r0 M_r9 M_r10 M_r11 M_r13 M_r15 M_r16 M_r21 M_r22 M_r30 M_r31 M_r32) (mW cI uM aM M_x1 M_x2 M_x3 M_x4 M_x5 M_x6 M_x7 M_x8 M_x12 M_x14 M_x17 M_x18 M_x19 M_x20 M_x23 M_x27 M_x29 M_x33 M_g24 M_g25 M_g26 M_g28 M_r0 M_r9 M_r10 z M_r13 M_r15 M_r16 M_r21 M_r22 M_r30 M_r31 M_r32) [.ref (aM 11), .int a1, .int a2, .int a3, .int a4, .int a5] none := by
  refine entryV (by decide +kernel) rfl (Nat.le_of_ble_eq_true rfl) ?_
  intro p e s m below meth c A ls QQ R ar F hRet jP jD jS jl
  obtain ⟨hx, hb, hml, hown, hts, jK, hA, hf1, hf2⟩ := id F
  have jl : lv_has ls 6 [(0, .ref (aM 11)), (1, .int a1), (2, .int a2), (3, .int a3), (4, .int a4), (5, .int a5)] := jl
  unfold fX6_layRowa at h
  refine lv_aload_n hx hb dX6_layRow_0 rfl (lv_at jl 0 rfl) ?_
  refine lv_iconst (v := (5 : Int32)) hx hb dX6_layRow_1 (by decide) ?_
  refine lv_iload_n hx hb dX6_layRow_2 rfl (lv_at jl 1 rfl) ?_
  refine lv_imul hx hb dX6_layRow_3 ?_
  refine lv_iload_n hx hb dX6_layRow_4 rfl (lv_at jl 2 rfl) ?_
  obtain ⟨hin, h⟩ := ckI_some h
  refine va_iast (f := M_r11) hx hb jK.1 jP jD jS 4 0 rfl rfl hin dX6_layRow_5 (fun H locs jP jD jS => ?_)
  have jP : va_P D vwCl (mW cI uM aM M_x1 M_x2 M_x3 M_x4 M_x5 M_x6 M_x7 M_x8 M_x12 M_x14 M_x17 M_x18 M_x19 M_x20 M_x23 M_x27 M_x29 M_x33 M_g24 M_g25 M_g26 M_g28 M_r0 M_r9 M_r10 (upd M_r11 ((5 : Int32) * a1).toNatClampNeg a2) M_r13 M_r15 M_r16 M_r21 M_r22 M_r30 M_r31 M_r32) H := jP
  have jD : va_D A (mW cI uM aM M_x1 M_x2 M_x3 M_x4 M_x5 M_x6 M_x7 M_x8 M_x12 M_x14 M_x17 M_x18 M_x19 M_x20 M_x23 M_x27 M_x29 M_x33 M_g24 M_g25 M_g26 M_g28 M_r0 M_r9 M_r10 (upd M_r11 ((5 : Int32) * a1).toNatClampNeg a2) M_r13 M_r15 M_r16 M_r21 M_r22 M_r30 M_r31 M_r32) := jD
  refine lv_aload_n hx hb dX6_layRow_6 rfl (lv_at jl 0 rfl) ?_
  refine lv_iconst (v := (5 : Int32)) hx hb dX6_layRow_7 (by decide) ?_
  refine lv_iload_n hx hb dX6_layRow_8 rfl (lv_at jl 1 rfl) ?_
  refine lv_imul hx hb dX6_layRow_9 ?_
  refine lv_iconst (v := (1 : Int32)) hx hb dX6_layRow_10 (by decide) ?_
  refine lv_iadd hx hb dX6_layRow_11 ?_
  refine lv_iload_n hx hb dX6_layRow_12 rfl (lv_at jl 3 rfl) ?_
  obtain ⟨hin, h⟩ := ckI_some h
  refine va_iast (f := (upd M_r11 ((5 : Int32) * a1).toNatClampNeg a2)) hx hb jK.1 jP jD jS 4 0 rfl rfl hin dX6_layRow_13 (fun H locs jP jD jS => ?_)
  have jP : va_P D vwCl (mW cI uM aM M_x1 M_x2 M_x3 M_x4 M_x5 M_x6 M_x7 M_x8 M_x12 M_x14 M_x17 M_x18 M_x19 M_x20 M_x23 M_x27 M_x29 M_x33 M_g24 M_g25 M_g26 M_g28 M_r0 M_r9 M_r10 (upd (upd M_r11 ((5 : Int32) * a1).toNatClampNeg a2) (((5 : Int32) * a1) + (1 : Int32)).toNatClampNeg a3) M_r13 M_r15 M_r16 M_r21 M_r22 M_r30 M_r31 M_r32) H := jP
  have jD : va_D A (mW cI uM aM M_x1 M_x2 M_x3 M_x4 M_x5 M_x6 M_x7 M_x8 M_x12 M_x14 M_x17 M_x18 M_x19 M_x20 M_x23 M_x27 M_x29 M_x33 M_g24 M_g25 M_g26 M_g28 M_r0 M_r9 M_r10 (upd (upd M_r11 ((5 : Int32) * a1).toNatClampNeg a2) (((5 : Int32) * a1) + (1 : Int32)).toNatClampNeg a3) M_r13 M_r15 M_r16 M_r21 M_r22 M_r30 M_r31 M_r32) := jD
  refine lv_aload_n hx hb dX6_layRow_14 rfl (lv_at jl 0 rfl) ?_
  refine lv_iconst (v := (5 : Int32)) hx hb dX6_layRow_15 (by decide) ?_
  refine lv_iload_n hx hb dX6_layRow_16 rfl (lv_at jl 1 rfl) ?_
  refine lv_imul hx hb dX6_layRow_17 ?_
  refine lv_iconst (v := (2 : Int32)) hx hb dX6_layRow_18 (by decide) ?_
  refine lv_iadd hx hb dX6_layRow_19 ?_
  refine lv_iload hx hb dX6_layRow_20 (lv_at jl 4 rfl) ?_
  obtain ⟨hin, h⟩ := ckI_some h
  refine va_iast (f := (upd (upd M_r11 ((5 : Int32) * a1).toNatClampNeg a2) (((5 : Int32) * a1) + (1 : Int32)).toNatClampNeg a3)) hx hb jK.1 jP jD jS 4 0 rfl rfl hin dX6_layRow_22 (fun H locs jP jD jS => ?_)
  have jP : va_P D vwCl (mW cI uM aM M_x1 M_x2 M_x3 M_x4 M_x5 M_x6 M_x7 M_x8 M_x12 M_x14 M_x17 M_x18 M_x19 M_x20 M_x23 M_x27 M_x29 M_x33 M_g24 M_g25 M_g26 M_g28 M_r0 M_r9 M_r10 (upd (upd (upd M_r11 ((5 : Int32) * a1).toNatClampNeg a2) (((5 : Int32) * a1) + (1 : Int32)).toNatClampNeg a3) (((5 : Int32) * a1) + (2 : Int32)).toNatClampNeg a4) M_r13 M_r15 M_r16 M_r21 M_r22 M_r30 M_r31 M_r32) H := jP
  have jD : va_D A (mW cI uM aM M_x1 M_x2 M_x3 M_x4 M_x5 M_x6 M_x7 M_x8 M_x12 M_x14 M_x17 M_x18 M_x19 M_x20 M_x23 M_x27 M_x29 M_x33 M_g24 M_g25 M_g26 M_g28 M_r0 M_r9 M_r10 (upd (upd (upd M_r11 ((5 : Int32) * a1).toNatClampNeg a2) (((5 : Int32) * a1) + (1 : Int32)).toNatClampNeg a3) (((5 : Int32) * a1) + (2 : Int32)).toNatClampNeg a4) M_r13 M_r15 M_r16 M_r21 M_r22 M_r30 M_r31 M_r32) := jD
  refine lv_aload_n hx hb dX6_layRow_23 rfl (lv_at jl 0 rfl) ?_
  refine lv_iconst (v := (5 : Int32)) hx hb dX6_layRow_24 (by decide) ?_
  refine lv_iload_n hx hb dX6_layRow_25 rfl (lv_at jl 1 rfl) ?_
  refine lv_imul hx hb dX6_layRow_26 ?_
  refine lv_iconst (v := (3 : Int32)) hx hb dX6_layRow_27 (by decide) ?_
  refine lv_iadd hx hb dX6_layRow_28 ?_
  refine lv_iload hx hb dX6_layRow_29 (lv_at jl 5 rfl) ?_
  obtain ⟨hin, h⟩ := ckI_some h
  refine va_iast (f := (upd (upd (upd M_r11 ((5 : Int32) * a1).toNatClampNeg a2) (((5 : Int32) * a1) + (1 : Int32)).toNatClampNeg a3) (((5 : Int32) * a1) + (2 : Int32)).toNatClampNeg a4)) hx hb jK.1 jP jD jS 4 0 rfl rfl hin dX6_layRow_31 (fun H locs jP jD jS => ?_)
  have jP : va_P D vwCl (mW cI uM aM M_x1 M_x2 M_x3 M_x4 M_x5 M_x6 M_x7 M_x8 M_x12 M_x14 M_x17 M_x18 M_x19 M_x20 M_x23 M_x27 M_x29 M_x33 M_g24 M_g25 M_g26 M_g28 M_r0 M_r9 M_r10 (upd (upd (upd (upd M_r11 ((5 : Int32) * a1).toNatClampNeg a2) (((5 : Int32) * a1) + (1 : Int32)).toNatClampNeg a3) (((5 : Int32) * a1) + (2 : Int32)).toNatClampNeg a4) (((5 : Int32) * a1) + (3 : Int32)).toNatClampNeg a5) M_r13 M_r15 M_r16 M_r21 M_r22 M_r30 M_r31 M_r32) H := jP
  have jD : va_D A (mW cI uM aM M_x1 M_x2 M_x3 M_x4 M_x5 M_x6 M_x7 M_x8 M_x12 M_x14 M_x17 M_x18 M_x19 M_x20 M_x23 M_x27 M_x29 M_x33 M_g24 M_g25 M_g26 M_g28 M_r0 M_r9 M_r10 (upd (upd (upd (upd M_r11 ((5 : Int32) * a1).toNatClampNeg a2) (((5 : Int32) * a1) + (1 : Int32)).toNatClampNeg a3) (((5 : Int32) * a1) + (2 : Int32)).toNatClampNeg a4) (((5 : Int32) * a1) + (3 : Int32)).toNatClampNeg a5) M_r13 M_r15 M_r16 M_r21 M_r22 M_r30 M_r31 M_r32) := jD
  refine lv_aload_n hx hb dX6_layRow_32 rfl (lv_at jl 0 rfl) ?_
  refine lv_iconst (v := (5 : Int32)) hx hb dX6_layRow_33 (by decide) ?_
  refine lv_iload_n hx hb dX6_layRow_34 rfl (lv_at jl 1 rfl) ?_
  refine lv_imul hx hb dX6_layRow_35 ?_
  refine lv_iconst (v := (4 : Int32)) hx hb dX6_layRow_36 (by decide) ?_
  refine lv_iadd hx hb dX6_layRow_37 ?_
  refine lv_iconst (v := (0 : Int32)) hx hb dX6_layRow_38 (by decide) ?_
  obtain ⟨hin, h⟩ := ckI_some h
  refine va_iast (f := (upd (upd (upd (upd M_r11 ((5 : Int32) * a1).toNatClampNeg a2) (((5 : Int32) * a1) + (1 : Int32)).toNatClampNeg a3) (((5 : Int32) * a1) + (2 : Int32)).toNatClampNeg a4) (((5 : Int32) * a1) + (3 : Int32)).toNatClampNeg a5)) hx hb jK.1 jP jD jS 4 0 rfl rfl hin dX6_layRow_39 (fun H locs jP jD jS => ?_)
  have jP : va_P D vwCl (mW cI uM aM M_x1 M_x2 M_x3 M_x4 M_x5 M_x6 M_x7 M_x8 M_x12 M_x14 M_x17 M_x18 M_x19 M_x20 M_x23 M_x27 M_x29 M_x33 M_g24 M_g25 M_g26 M_g28 M_r0 M_r9 M_r10 (upd (upd (upd (upd (upd M_r11 ((5 : Int32) * a1).toNatClampNeg a2) (((5 : Int32) * a1) + (1 : Int32)).toNatClampNeg a3) (((5 : Int32) * a1) + (2 : Int32)).toNatClampNeg a4) (((5 : Int32) * a1) + (3 : Int32)).toNatClampNeg a5) (((5 : Int32) * a1) + (4 : Int32)).toNatClampNeg (0 : Int32)) M_r13 M_r15 M_r16 M_r21 M_r22 M_r30 M_r31 M_r32) H := jP
  have jD : va_D A (mW cI uM aM M_x1 M_x2 M_x3 M_x4 M_x5 M_x6 M_x7 M_x8 M_x12 M_x14 M_x17 M_x18 M_x19 M_x20 M_x23 M_x27 M_x29 M_x33 M_g24 M_g25 M_g26 M_g28 M_r0 M_r9 M_r10 (upd (upd (upd (upd (upd M_r11 ((5 : Int32) * a1).toNatClampNeg a2) (((5 : Int32) * a1) + (1 : Int32)).toNatClampNeg a3) (((5 : Int32) * a1) + (2 : Int32)).toNatClampNeg a4) (((5 : Int32) * a1) + (3 : Int32)).toNatClampNeg a5) (((5 : Int32) * a1) + (4 : Int32)).toNatClampNeg (0 : Int32)) M_r13 M_r15 M_r16 M_r21 M_r22 M_r30 M_r31 M_r32) := jD
  obtain rfl := Option.some.inj h
  exact hRet _ _ _ _ jP jD jS dX6_layRow_40
def fX6_layRowb (M_r13 : (Nat → Int32)) (a1 : Int32) (a2 : Int32) (a3 : Int32) (a4 : Int32) (a5 : Int32) : Option (Nat → Int32) :=
  ckI ((5 : Int32) * a1) 40 (ckI (((5 : Int32) * a1) + (1 : Int32)) 40 (ckI (((5 : Int32) * a1) + (2 : Int32)) 40 (ckI (((5 : Int32) * a1) + (3 : Int32)) 40 (ckI (((5 : Int32) * a1) + (4 : Int32)) 40 (some (upd (upd (upd (upd (upd M_r13 ((5 : Int32) * a1).toNatClampNeg a2) (((5 : Int32) * a1) + (1 : Int32)).toNatClampNeg a3) (((5 : Int32) * a1) + (2 : Int32)).toNatClampNeg a4) (((5 : Int32) * a1) + (3 : Int32)).toNatClampNeg a5) (((5 : Int32) * a1) + (4 : Int32)).toNatClampNeg (0 : Int32)))))))
set_option maxRecDepth 100000 in
set_option maxHeartbeats 4000000 in
theorem kX6_layRowb (l : Launch) (D : va_G) (cI cB cS : ClassId) (uM : Nat) (aM : Nat → Nat) (M_x1 : Int32) (M_x2 : Int32) (M_x3 : Int32) (M_x4 : Int32) (M_x5 : Int32) (M_x6 : Int32) (M_x7 : Int32) (M_x8 : Int32) (M_x12 : Int32) (M_x14 : Int32) (M_x17 : Int32) (M_x18 : Int32) (M_x19 : Int32) (M_x20 : Int32) (M_x23 : Int32) (M_x27 : Int32) (M_x29 : Int32) (M_x33 : Int32) (M_g24 : Int64) (M_g25 : Int64) (M_g26 : Int64) (M_g28 : Int64) (M_r0 : (Nat → Int32)) (M_r9 : (Nat → Int32)) (M_r10 : (Nat → Int32)) (M_r11 : (Nat → Int32)) (M_r13 : (Nat → Int32)) (M_r15 : (Nat → Int32)) (M_r16 : (Nat → Int32)) (M_r21 : (Nat → Int32)) (M_r22 : (Nat → Int32)) (M_r30 : (Nat → Int32)) (M_r31 : (Nat → Int32)) (M_r32 : (Nat → Int32)) (a1 : Int32) (a2 : Int32) (a3 : Int32) (a4 : Int32) (a5 : Int32) (z : (Nat → Int32)) (h : fX6_layRowb M_r13 a1 a2 a3 a4 a5 = some z) : Mt l yX6_layRow cX6_layRow 6 none 0 0 D cI cB cS (mW cI uM aM M_x1 M_x2 M_x3 M_x4 M_x5 M_x6 M_x7 M_x8 M_x12 M_x14 M_x17 M_x18 M_x19 M_x20 M_x23 M_x27 M_x29 M_x33 M_g24 M_g25 M_g26 M_g28 M_r0 M_r9 M_r10 M_r11 M_r13 M_r15 M_r16 M_r21 M_r22 M_r30 M_r31 M_r32) (mW cI uM aM M_x1 M_x2 M_x3 M_x4 M_x5 M_x6 M_x7 M_x8 M_x12 M_x14 M_x17 M_x18 M_x19 M_x20 M_x23 M_x27 M_x29 M_x33 M_g24 M_g25 M_g26 M_g28 M_r0 M_r9 M_r10 M_r11 z M_r15 M_r16 M_r21 M_r22 M_r30 M_r31 M_r32) [.ref (aM 13), .int a1, .int a2, .int a3, .int a4, .int a5] none := by
  refine entryV (by decide +kernel) rfl (Nat.le_of_ble_eq_true rfl) ?_
  intro p e s m below meth c A ls QQ R ar F hRet jP jD jS jl
  obtain ⟨hx, hb, hml, hown, hts, jK, hA, hf1, hf2⟩ := id F
  have jl : lv_has ls 6 [(0, .ref (aM 13)), (1, .int a1), (2, .int a2), (3, .int a3), (4, .int a4), (5, .int a5)] := jl
  unfold fX6_layRowb at h
  refine lv_aload_n hx hb dX6_layRow_0 rfl (lv_at jl 0 rfl) ?_
  refine lv_iconst (v := (5 : Int32)) hx hb dX6_layRow_1 (by decide) ?_
  refine lv_iload_n hx hb dX6_layRow_2 rfl (lv_at jl 1 rfl) ?_
  refine lv_imul hx hb dX6_layRow_3 ?_
  refine lv_iload_n hx hb dX6_layRow_4 rfl (lv_at jl 2 rfl) ?_
  obtain ⟨hin, h⟩ := ckI_some h
  refine va_iast (f := M_r13) hx hb jK.1 jP jD jS 5 0 rfl rfl hin dX6_layRow_5 (fun H locs jP jD jS => ?_)
  have jP : va_P D vwCl (mW cI uM aM M_x1 M_x2 M_x3 M_x4 M_x5 M_x6 M_x7 M_x8 M_x12 M_x14 M_x17 M_x18 M_x19 M_x20 M_x23 M_x27 M_x29 M_x33 M_g24 M_g25 M_g26 M_g28 M_r0 M_r9 M_r10 M_r11 (upd M_r13 ((5 : Int32) * a1).toNatClampNeg a2) M_r15 M_r16 M_r21 M_r22 M_r30 M_r31 M_r32) H := jP
  have jD : va_D A (mW cI uM aM M_x1 M_x2 M_x3 M_x4 M_x5 M_x6 M_x7 M_x8 M_x12 M_x14 M_x17 M_x18 M_x19 M_x20 M_x23 M_x27 M_x29 M_x33 M_g24 M_g25 M_g26 M_g28 M_r0 M_r9 M_r10 M_r11 (upd M_r13 ((5 : Int32) * a1).toNatClampNeg a2) M_r15 M_r16 M_r21 M_r22 M_r30 M_r31 M_r32) := jD
  refine lv_aload_n hx hb dX6_layRow_6 rfl (lv_at jl 0 rfl) ?_
  refine lv_iconst (v := (5 : Int32)) hx hb dX6_layRow_7 (by decide) ?_
  refine lv_iload_n hx hb dX6_layRow_8 rfl (lv_at jl 1 rfl) ?_
  refine lv_imul hx hb dX6_layRow_9 ?_
  refine lv_iconst (v := (1 : Int32)) hx hb dX6_layRow_10 (by decide) ?_
  refine lv_iadd hx hb dX6_layRow_11 ?_
  refine lv_iload_n hx hb dX6_layRow_12 rfl (lv_at jl 3 rfl) ?_
  obtain ⟨hin, h⟩ := ckI_some h
  refine va_iast (f := (upd M_r13 ((5 : Int32) * a1).toNatClampNeg a2)) hx hb jK.1 jP jD jS 5 0 rfl rfl hin dX6_layRow_13 (fun H locs jP jD jS => ?_)
  have jP : va_P D vwCl (mW cI uM aM M_x1 M_x2 M_x3 M_x4 M_x5 M_x6 M_x7 M_x8 M_x12 M_x14 M_x17 M_x18 M_x19 M_x20 M_x23 M_x27 M_x29 M_x33 M_g24 M_g25 M_g26 M_g28 M_r0 M_r9 M_r10 M_r11 (upd (upd M_r13 ((5 : Int32) * a1).toNatClampNeg a2) (((5 : Int32) * a1) + (1 : Int32)).toNatClampNeg a3) M_r15 M_r16 M_r21 M_r22 M_r30 M_r31 M_r32) H := jP
  have jD : va_D A (mW cI uM aM M_x1 M_x2 M_x3 M_x4 M_x5 M_x6 M_x7 M_x8 M_x12 M_x14 M_x17 M_x18 M_x19 M_x20 M_x23 M_x27 M_x29 M_x33 M_g24 M_g25 M_g26 M_g28 M_r0 M_r9 M_r10 M_r11 (upd (upd M_r13 ((5 : Int32) * a1).toNatClampNeg a2) (((5 : Int32) * a1) + (1 : Int32)).toNatClampNeg a3) M_r15 M_r16 M_r21 M_r22 M_r30 M_r31 M_r32) := jD
  refine lv_aload_n hx hb dX6_layRow_14 rfl (lv_at jl 0 rfl) ?_
  refine lv_iconst (v := (5 : Int32)) hx hb dX6_layRow_15 (by decide) ?_
  refine lv_iload_n hx hb dX6_layRow_16 rfl (lv_at jl 1 rfl) ?_
  refine lv_imul hx hb dX6_layRow_17 ?_
  refine lv_iconst (v := (2 : Int32)) hx hb dX6_layRow_18 (by decide) ?_
  refine lv_iadd hx hb dX6_layRow_19 ?_
  refine lv_iload hx hb dX6_layRow_20 (lv_at jl 4 rfl) ?_
  obtain ⟨hin, h⟩ := ckI_some h
  refine va_iast (f := (upd (upd M_r13 ((5 : Int32) * a1).toNatClampNeg a2) (((5 : Int32) * a1) + (1 : Int32)).toNatClampNeg a3)) hx hb jK.1 jP jD jS 5 0 rfl rfl hin dX6_layRow_22 (fun H locs jP jD jS => ?_)
  have jP : va_P D vwCl (mW cI uM aM M_x1 M_x2 M_x3 M_x4 M_x5 M_x6 M_x7 M_x8 M_x12 M_x14 M_x17 M_x18 M_x19 M_x20 M_x23 M_x27 M_x29 M_x33 M_g24 M_g25 M_g26 M_g28 M_r0 M_r9 M_r10 M_r11 (upd (upd (upd M_r13 ((5 : Int32) * a1).toNatClampNeg a2) (((5 : Int32) * a1) + (1 : Int32)).toNatClampNeg a3) (((5 : Int32) * a1) + (2 : Int32)).toNatClampNeg a4) M_r15 M_r16 M_r21 M_r22 M_r30 M_r31 M_r32) H := jP
  have jD : va_D A (mW cI uM aM M_x1 M_x2 M_x3 M_x4 M_x5 M_x6 M_x7 M_x8 M_x12 M_x14 M_x17 M_x18 M_x19 M_x20 M_x23 M_x27 M_x29 M_x33 M_g24 M_g25 M_g26 M_g28 M_r0 M_r9 M_r10 M_r11 (upd (upd (upd M_r13 ((5 : Int32) * a1).toNatClampNeg a2) (((5 : Int32) * a1) + (1 : Int32)).toNatClampNeg a3) (((5 : Int32) * a1) + (2 : Int32)).toNatClampNeg a4) M_r15 M_r16 M_r21 M_r22 M_r30 M_r31 M_r32) := jD
  refine lv_aload_n hx hb dX6_layRow_23 rfl (lv_at jl 0 rfl) ?_
  refine lv_iconst (v := (5 : Int32)) hx hb dX6_layRow_24 (by decide) ?_
  refine lv_iload_n hx hb dX6_layRow_25 rfl (lv_at jl 1 rfl) ?_
  refine lv_imul hx hb dX6_layRow_26 ?_
  refine lv_iconst (v := (3 : Int32)) hx hb dX6_layRow_27 (by decide) ?_
  refine lv_iadd hx hb dX6_layRow_28 ?_
  refine lv_iload hx hb dX6_layRow_29 (lv_at jl 5 rfl) ?_
  obtain ⟨hin, h⟩ := ckI_some h
  refine va_iast (f := (upd (upd (upd M_r13 ((5 : Int32) * a1).toNatClampNeg a2) (((5 : Int32) * a1) + (1 : Int32)).toNatClampNeg a3) (((5 : Int32) * a1) + (2 : Int32)).toNatClampNeg a4)) hx hb jK.1 jP jD jS 5 0 rfl rfl hin dX6_layRow_31 (fun H locs jP jD jS => ?_)
  have jP : va_P D vwCl (mW cI uM aM M_x1 M_x2 M_x3 M_x4 M_x5 M_x6 M_x7 M_x8 M_x12 M_x14 M_x17 M_x18 M_x19 M_x20 M_x23 M_x27 M_x29 M_x33 M_g24 M_g25 M_g26 M_g28 M_r0 M_r9 M_r10 M_r11 (upd (upd (upd (upd M_r13 ((5 : Int32) * a1).toNatClampNeg a2) (((5 : Int32) * a1) + (1 : Int32)).toNatClampNeg a3) (((5 : Int32) * a1) + (2 : Int32)).toNatClampNeg a4) (((5 : Int32) * a1) + (3 : Int32)).toNatClampNeg a5) M_r15 M_r16 M_r21 M_r22 M_r30 M_r31 M_r32) H := jP
  have jD : va_D A (mW cI uM aM M_x1 M_x2 M_x3 M_x4 M_x5 M_x6 M_x7 M_x8 M_x12 M_x14 M_x17 M_x18 M_x19 M_x20 M_x23 M_x27 M_x29 M_x33 M_g24 M_g25 M_g26 M_g28 M_r0 M_r9 M_r10 M_r11 (upd (upd (upd (upd M_r13 ((5 : Int32) * a1).toNatClampNeg a2) (((5 : Int32) * a1) + (1 : Int32)).toNatClampNeg a3) (((5 : Int32) * a1) + (2 : Int32)).toNatClampNeg a4) (((5 : Int32) * a1) + (3 : Int32)).toNatClampNeg a5) M_r15 M_r16 M_r21 M_r22 M_r30 M_r31 M_r32) := jD
  refine lv_aload_n hx hb dX6_layRow_32 rfl (lv_at jl 0 rfl) ?_
  refine lv_iconst (v := (5 : Int32)) hx hb dX6_layRow_33 (by decide) ?_
  refine lv_iload_n hx hb dX6_layRow_34 rfl (lv_at jl 1 rfl) ?_
  refine lv_imul hx hb dX6_layRow_35 ?_
  refine lv_iconst (v := (4 : Int32)) hx hb dX6_layRow_36 (by decide) ?_
  refine lv_iadd hx hb dX6_layRow_37 ?_
  refine lv_iconst (v := (0 : Int32)) hx hb dX6_layRow_38 (by decide) ?_
  obtain ⟨hin, h⟩ := ckI_some h
  refine va_iast (f := (upd (upd (upd (upd M_r13 ((5 : Int32) * a1).toNatClampNeg a2) (((5 : Int32) * a1) + (1 : Int32)).toNatClampNeg a3) (((5 : Int32) * a1) + (2 : Int32)).toNatClampNeg a4) (((5 : Int32) * a1) + (3 : Int32)).toNatClampNeg a5)) hx hb jK.1 jP jD jS 5 0 rfl rfl hin dX6_layRow_39 (fun H locs jP jD jS => ?_)
  have jP : va_P D vwCl (mW cI uM aM M_x1 M_x2 M_x3 M_x4 M_x5 M_x6 M_x7 M_x8 M_x12 M_x14 M_x17 M_x18 M_x19 M_x20 M_x23 M_x27 M_x29 M_x33 M_g24 M_g25 M_g26 M_g28 M_r0 M_r9 M_r10 M_r11 (upd (upd (upd (upd (upd M_r13 ((5 : Int32) * a1).toNatClampNeg a2) (((5 : Int32) * a1) + (1 : Int32)).toNatClampNeg a3) (((5 : Int32) * a1) + (2 : Int32)).toNatClampNeg a4) (((5 : Int32) * a1) + (3 : Int32)).toNatClampNeg a5) (((5 : Int32) * a1) + (4 : Int32)).toNatClampNeg (0 : Int32)) M_r15 M_r16 M_r21 M_r22 M_r30 M_r31 M_r32) H := jP
  have jD : va_D A (mW cI uM aM M_x1 M_x2 M_x3 M_x4 M_x5 M_x6 M_x7 M_x8 M_x12 M_x14 M_x17 M_x18 M_x19 M_x20 M_x23 M_x27 M_x29 M_x33 M_g24 M_g25 M_g26 M_g28 M_r0 M_r9 M_r10 M_r11 (upd (upd (upd (upd (upd M_r13 ((5 : Int32) * a1).toNatClampNeg a2) (((5 : Int32) * a1) + (1 : Int32)).toNatClampNeg a3) (((5 : Int32) * a1) + (2 : Int32)).toNatClampNeg a4) (((5 : Int32) * a1) + (3 : Int32)).toNatClampNeg a5) (((5 : Int32) * a1) + (4 : Int32)).toNatClampNeg (0 : Int32)) M_r15 M_r16 M_r21 M_r22 M_r30 M_r31 M_r32) := jD
  obtain rfl := Option.some.inj h
  exact hRet _ _ _ _ jP jD jS dX6_layRow_40
theorem okX6_readSort : okV yX6_readSort cX6_readSort 4 none 0 := ⟨w_250, w_251, w_252, w_5, by decide, by decide, by decide +kernel⟩
def fX6_readSort (M_r0 : (Nat → Int32)) (M_r9 : (Nat → Int32)) (M_r10 : (Nat → Int32)) (M_r13 : (Nat → Int32)) (M_x1 : Int32) (M_x3 : Int32) (M_x4 : Int32) (M_x5 : Int32) (M_x6 : Int32) (M_x7 : Int32) (M_x8 : Int32) (M_x14 : Int32) : Option ((Nat → Int32) × Int32 × Int32 × Int32 × Int32 × Int32 × Int32 × Int32) :=
  bd (fX6_next (M_r0) (M_r9) (M_r10) (M_x1) (M_x3) (M_x4) (M_x5) (M_x6) (M_x7) (M_x8)) (fun t1 => bd (fX6_number t1.1 t1.2.1 t1.2.2.2.1 t1.2.2.2.2.1 t1.2.2.2.2.2 (1 : Int32) (50 : Int32)) (fun t3 => bd (fX6_next (M_r0) (M_r9) (M_r10) (M_x1) t3.2.1 t3.2.2 t1.2.2.1 t1.2.2.2.1 t1.2.2.2.2.1 t1.2.2.2.2.2) (fun t5 => bd (fX6_number t5.1 t5.2.1 t5.2.2.2.1 t5.2.2.2.2.1 t5.2.2.2.2.2 (0 : Int32) (99 : Int32)) (fun t7 => bd (fX6_next (M_r0) (M_r9) (M_r10) (M_x1) t7.2.1 t7.2.2 t5.2.2.1 t5.2.2.2.1 t5.2.2.2.2.1 t5.2.2.2.2.2) (fun t9 => bd (fX6_number t9.1 t9.2.1 t9.2.2.2.1 t9.2.2.2.2.1 t9.2.2.2.2.2 (0 : Int32) (99 : Int32)) (fun t11 => bd (fX6_next (M_r0) (M_r9) (M_r10) (M_x1) t11.2.1 t11.2.2 t9.2.2.1 t9.2.2.2.1 t9.2.2.2.2.1 t9.2.2.2.2.2) (fun t13 => if t13.1 = (0 : Int32) then (bd (fX6_layRowb (M_r13) (M_x14) t3.1 t7.1 t11.1 (0 : Int32)) (fun t16 => some (t16, t13.1, t13.2.1, t13.2.2.1, t13.2.2.2.1, t13.2.2.2.2.1, t13.2.2.2.2.2, (M_x14 + (1 : Int32))))) else (some (M_r13, t13.1, t13.2.1, t13.2.2.1, t13.2.2.2.1, t13.2.2.2.2.1, t13.2.2.2.2.2, M_x14)))))))))
set_option maxRecDepth 100000 in
set_option maxHeartbeats 4000000 in
theorem kX6_readSort (l : Launch) (D : va_G) (cI cB cS : ClassId) (uM : Nat) (aM : Nat → Nat) (M_x1 : Int32) (M_x2 : Int32) (M_x3 : Int32) (M_x4 : Int32) (M_x5 : Int32) (M_x6 : Int32) (M_x7 : Int32) (M_x8 : Int32) (M_x12 : Int32) (M_x14 : Int32) (M_x17 : Int32) (M_x18 : Int32) (M_x19 : Int32) (M_x20 : Int32) (M_x23 : Int32) (M_x27 : Int32) (M_x29 : Int32) (M_x33 : Int32) (M_g24 : Int64) (M_g25 : Int64) (M_g26 : Int64) (M_g28 : Int64) (M_r0 : (Nat → Int32)) (M_r9 : (Nat → Int32)) (M_r10 : (Nat → Int32)) (M_r11 : (Nat → Int32)) (M_r13 : (Nat → Int32)) (M_r15 : (Nat → Int32)) (M_r16 : (Nat → Int32)) (M_r21 : (Nat → Int32)) (M_r22 : (Nat → Int32)) (M_r30 : (Nat → Int32)) (M_r31 : (Nat → Int32)) (M_r32 : (Nat → Int32)) (z : ((Nat → Int32) × Int32 × Int32 × Int32 × Int32 × Int32 × Int32 × Int32)) (h : fX6_readSort M_r0 M_r9 M_r10 M_r13 M_x1 M_x3 M_x4 M_x5 M_x6 M_x7 M_x8 M_x14 = some z) : Mt l yX6_readSort cX6_readSort 4 none 3 67 D cI cB cS (mW cI uM aM M_x1 M_x2 M_x3 M_x4 M_x5 M_x6 M_x7 M_x8 M_x12 M_x14 M_x17 M_x18 M_x19 M_x20 M_x23 M_x27 M_x29 M_x33 M_g24 M_g25 M_g26 M_g28 M_r0 M_r9 M_r10 M_r11 M_r13 M_r15 M_r16 M_r21 M_r22 M_r30 M_r31 M_r32) (mW cI uM aM M_x1 M_x2 z.2.1 z.2.2.1 z.2.2.2.1 z.2.2.2.2.1 z.2.2.2.2.2.1 z.2.2.2.2.2.2.1 M_x12 z.2.2.2.2.2.2.2 M_x17 M_x18 M_x19 M_x20 M_x23 M_x27 M_x29 M_x33 M_g24 M_g25 M_g26 M_g28 M_r0 M_r9 M_r10 M_r11 z.1 M_r15 M_r16 M_r21 M_r22 M_r30 M_r31 M_r32) [.ref uM] none := by
  refine entryV (by decide +kernel) rfl (Nat.le_of_ble_eq_true rfl) ?_
  intro p e s m below meth c A ls QQ R ar F hRet jP jD jS jl
  obtain ⟨hx, hb, hml, hown, hts, jK, hA, hf1, hf2⟩ := id F
  have jl : lv_has ls 4 [(0, .ref uM)] := jl
  unfold fX6_readSort at h
  refine lv_aload_n hx hb dX6_readSort_0 rfl (lv_at jl 0 rfl) ?_
  obtain ⟨t1, hc2, h⟩ := bd_some h
  refine callW (w1 := (mW cI uM aM M_x1 M_x2 t1.1 t1.2.1 t1.2.2.1 t1.2.2.2.1 t1.2.2.2.2.1 t1.2.2.2.2.2 M_x12 M_x14 M_x17 M_x18 M_x19 M_x20 M_x23 M_x27 M_x29 M_x33 M_g24 M_g25 M_g26 M_g28 M_r0 M_r9 M_r10 M_r11 M_r13 M_r15 M_r16 M_r21 M_r22 M_r30 M_r31 M_r32)) (As := []) (rest := []) (st1 := []) 0 F (kX6_next l D cI cB cS uM aM M_x1 M_x2 M_x3 M_x4 M_x5 M_x6 M_x7 M_x8 M_x12 M_x14 M_x17 M_x18 M_x19 M_x20 M_x23 M_x27 M_x29 M_x33 M_g24 M_g25 M_g26 M_g28 M_r0 M_r9 M_r10 M_r11 M_r13 M_r15 M_r16 M_r21 M_r22 M_r30 M_r31 M_r32  _ hc2 ) okX6_next w_223 (by decide) (by decide) ⟨Nat.zero_le _, Nat.zero_le _⟩ rfl rfl rfl jP jD jS rfl jl.1 rfl rfl (Nat.le_of_ble_eq_true rfl) dX6_readSort_1 (fun H locs jP jD jS => ?_)
  refine lv_aload_n hx hb dX6_readSort_4 rfl (lv_at jl 0 rfl) ?_
  refine lv_iconst (v := (1 : Int32)) hx hb dX6_readSort_5 (by decide) ?_
  refine lv_bipush (v := (50 : Int32)) hx hb dX6_readSort_6 (by decide) ?_
  obtain ⟨t3, hc4, h⟩ := bd_some h
  refine callW (w1 := (mW cI uM aM M_x1 M_x2 t3.2.1 t3.2.2 t1.2.2.1 t1.2.2.2.1 t1.2.2.2.2.1 t1.2.2.2.2.2 M_x12 M_x14 M_x17 M_x18 M_x19 M_x20 M_x23 M_x27 M_x29 M_x33 M_g24 M_g25 M_g26 M_g28 M_r0 M_r9 M_r10 M_r11 M_r13 M_r15 M_r16 M_r21 M_r22 M_r30 M_r31 M_r32)) (As := [.int (1 : Int32), .int (50 : Int32)]) (rest := []) (st1 := [.int t3.1]) 0 F (kX6_number l D cI cB cS uM aM M_x1 M_x2 t1.1 t1.2.1 t1.2.2.1 t1.2.2.2.1 t1.2.2.2.2.1 t1.2.2.2.2.2 M_x12 M_x14 M_x17 M_x18 M_x19 M_x20 M_x23 M_x27 M_x29 M_x33 M_g24 M_g25 M_g26 M_g28 M_r0 M_r9 M_r10 M_r11 M_r13 M_r15 M_r16 M_r21 M_r22 M_r30 M_r31 M_r32 (1 : Int32) (50 : Int32) _ hc4 ) okX6_number w_253 (by decide) (by decide) ⟨Nat.zero_le _, Nat.zero_le _⟩ rfl rfl rfl jP jD jS rfl jl.1 rfl rfl (Nat.le_of_ble_eq_true rfl) dX6_readSort_8 (fun H locs jP jD jS => ?_)
  refine lv_istore_n (lv' := [(1, .int t3.1), (0, .ref uM)]) hx hb dX6_readSort_11 rfl jl (by decide) rfl (fun ls jl => ?_)
  refine lv_aload_n hx hb dX6_readSort_12 rfl (lv_at jl 1 rfl) ?_
  obtain ⟨t5, hc6, h⟩ := bd_some h
  refine callW (w1 := (mW cI uM aM M_x1 M_x2 t5.1 t5.2.1 t5.2.2.1 t5.2.2.2.1 t5.2.2.2.2.1 t5.2.2.2.2.2 M_x12 M_x14 M_x17 M_x18 M_x19 M_x20 M_x23 M_x27 M_x29 M_x33 M_g24 M_g25 M_g26 M_g28 M_r0 M_r9 M_r10 M_r11 M_r13 M_r15 M_r16 M_r21 M_r22 M_r30 M_r31 M_r32)) (As := []) (rest := []) (st1 := []) 0 F (kX6_next l D cI cB cS uM aM M_x1 M_x2 t3.2.1 t3.2.2 t1.2.2.1 t1.2.2.2.1 t1.2.2.2.2.1 t1.2.2.2.2.2 M_x12 M_x14 M_x17 M_x18 M_x19 M_x20 M_x23 M_x27 M_x29 M_x33 M_g24 M_g25 M_g26 M_g28 M_r0 M_r9 M_r10 M_r11 M_r13 M_r15 M_r16 M_r21 M_r22 M_r30 M_r31 M_r32  _ hc6 ) okX6_next w_223 (by decide) (by decide) ⟨Nat.zero_le _, Nat.zero_le _⟩ rfl rfl rfl jP jD jS rfl jl.1 rfl rfl (Nat.le_of_ble_eq_true rfl) dX6_readSort_13 (fun H locs jP jD jS => ?_)
  refine lv_aload_n hx hb dX6_readSort_16 rfl (lv_at jl 1 rfl) ?_
  refine lv_iconst (v := (0 : Int32)) hx hb dX6_readSort_17 (by decide) ?_
  refine lv_bipush (v := (99 : Int32)) hx hb dX6_readSort_18 (by decide) ?_
  obtain ⟨t7, hc8, h⟩ := bd_some h
  refine callW (w1 := (mW cI uM aM M_x1 M_x2 t7.2.1 t7.2.2 t5.2.2.1 t5.2.2.2.1 t5.2.2.2.2.1 t5.2.2.2.2.2 M_x12 M_x14 M_x17 M_x18 M_x19 M_x20 M_x23 M_x27 M_x29 M_x33 M_g24 M_g25 M_g26 M_g28 M_r0 M_r9 M_r10 M_r11 M_r13 M_r15 M_r16 M_r21 M_r22 M_r30 M_r31 M_r32)) (As := [.int (0 : Int32), .int (99 : Int32)]) (rest := []) (st1 := [.int t7.1]) 0 F (kX6_number l D cI cB cS uM aM M_x1 M_x2 t5.1 t5.2.1 t5.2.2.1 t5.2.2.2.1 t5.2.2.2.2.1 t5.2.2.2.2.2 M_x12 M_x14 M_x17 M_x18 M_x19 M_x20 M_x23 M_x27 M_x29 M_x33 M_g24 M_g25 M_g26 M_g28 M_r0 M_r9 M_r10 M_r11 M_r13 M_r15 M_r16 M_r21 M_r22 M_r30 M_r31 M_r32 (0 : Int32) (99 : Int32) _ hc8 ) okX6_number w_253 (by decide) (by decide) ⟨Nat.zero_le _, Nat.zero_le _⟩ rfl rfl rfl jP jD jS rfl jl.1 rfl rfl (Nat.le_of_ble_eq_true rfl) dX6_readSort_20 (fun H locs jP jD jS => ?_)
  refine lv_istore_n (lv' := [(2, .int t7.1), (1, .int t3.1), (0, .ref uM)]) hx hb dX6_readSort_23 rfl jl (by decide) rfl (fun ls jl => ?_)
  refine lv_aload_n hx hb dX6_readSort_24 rfl (lv_at jl 2 rfl) ?_
  obtain ⟨t9, hc10, h⟩ := bd_some h
  refine callW (w1 := (mW cI uM aM M_x1 M_x2 t9.1 t9.2.1 t9.2.2.1 t9.2.2.2.1 t9.2.2.2.2.1 t9.2.2.2.2.2 M_x12 M_x14 M_x17 M_x18 M_x19 M_x20 M_x23 M_x27 M_x29 M_x33 M_g24 M_g25 M_g26 M_g28 M_r0 M_r9 M_r10 M_r11 M_r13 M_r15 M_r16 M_r21 M_r22 M_r30 M_r31 M_r32)) (As := []) (rest := []) (st1 := []) 0 F (kX6_next l D cI cB cS uM aM M_x1 M_x2 t7.2.1 t7.2.2 t5.2.2.1 t5.2.2.2.1 t5.2.2.2.2.1 t5.2.2.2.2.2 M_x12 M_x14 M_x17 M_x18 M_x19 M_x20 M_x23 M_x27 M_x29 M_x33 M_g24 M_g25 M_g26 M_g28 M_r0 M_r9 M_r10 M_r11 M_r13 M_r15 M_r16 M_r21 M_r22 M_r30 M_r31 M_r32  _ hc10 ) okX6_next w_223 (by decide) (by decide) ⟨Nat.zero_le _, Nat.zero_le _⟩ rfl rfl rfl jP jD jS rfl jl.1 rfl rfl (Nat.le_of_ble_eq_true rfl) dX6_readSort_25 (fun H locs jP jD jS => ?_)
  refine lv_aload_n hx hb dX6_readSort_28 rfl (lv_at jl 2 rfl) ?_
  refine lv_iconst (v := (0 : Int32)) hx hb dX6_readSort_29 (by decide) ?_
  refine lv_bipush (v := (99 : Int32)) hx hb dX6_readSort_30 (by decide) ?_
  obtain ⟨t11, hc12, h⟩ := bd_some h
  refine callW (w1 := (mW cI uM aM M_x1 M_x2 t11.2.1 t11.2.2 t9.2.2.1 t9.2.2.2.1 t9.2.2.2.2.1 t9.2.2.2.2.2 M_x12 M_x14 M_x17 M_x18 M_x19 M_x20 M_x23 M_x27 M_x29 M_x33 M_g24 M_g25 M_g26 M_g28 M_r0 M_r9 M_r10 M_r11 M_r13 M_r15 M_r16 M_r21 M_r22 M_r30 M_r31 M_r32)) (As := [.int (0 : Int32), .int (99 : Int32)]) (rest := []) (st1 := [.int t11.1]) 0 F (kX6_number l D cI cB cS uM aM M_x1 M_x2 t9.1 t9.2.1 t9.2.2.1 t9.2.2.2.1 t9.2.2.2.2.1 t9.2.2.2.2.2 M_x12 M_x14 M_x17 M_x18 M_x19 M_x20 M_x23 M_x27 M_x29 M_x33 M_g24 M_g25 M_g26 M_g28 M_r0 M_r9 M_r10 M_r11 M_r13 M_r15 M_r16 M_r21 M_r22 M_r30 M_r31 M_r32 (0 : Int32) (99 : Int32) _ hc12 ) okX6_number w_253 (by decide) (by decide) ⟨Nat.zero_le _, Nat.zero_le _⟩ rfl rfl rfl jP jD jS rfl jl.1 rfl rfl (Nat.le_of_ble_eq_true rfl) dX6_readSort_32 (fun H locs jP jD jS => ?_)
  refine lv_istore_n (lv' := [(3, .int t11.1), (2, .int t7.1), (1, .int t3.1), (0, .ref uM)]) hx hb dX6_readSort_35 rfl jl (by decide) rfl (fun ls jl => ?_)
  refine lv_aload_n hx hb dX6_readSort_36 rfl (lv_at jl 3 rfl) ?_
  obtain ⟨t13, hc14, h⟩ := bd_some h
  refine callW (w1 := (mW cI uM aM M_x1 M_x2 t13.1 t13.2.1 t13.2.2.1 t13.2.2.2.1 t13.2.2.2.2.1 t13.2.2.2.2.2 M_x12 M_x14 M_x17 M_x18 M_x19 M_x20 M_x23 M_x27 M_x29 M_x33 M_g24 M_g25 M_g26 M_g28 M_r0 M_r9 M_r10 M_r11 M_r13 M_r15 M_r16 M_r21 M_r22 M_r30 M_r31 M_r32)) (As := []) (rest := []) (st1 := []) 0 F (kX6_next l D cI cB cS uM aM M_x1 M_x2 t11.2.1 t11.2.2 t9.2.2.1 t9.2.2.2.1 t9.2.2.2.2.1 t9.2.2.2.2.2 M_x12 M_x14 M_x17 M_x18 M_x19 M_x20 M_x23 M_x27 M_x29 M_x33 M_g24 M_g25 M_g26 M_g28 M_r0 M_r9 M_r10 M_r11 M_r13 M_r15 M_r16 M_r21 M_r22 M_r30 M_r31 M_r32  _ hc14 ) okX6_next w_223 (by decide) (by decide) ⟨Nat.zero_le _, Nat.zero_le _⟩ rfl rfl rfl jP jD jS rfl jl.1 rfl rfl (Nat.le_of_ble_eq_true rfl) dX6_readSort_37 (fun H locs jP jD jS => ?_)
  refine lv_aload_n hx hb dX6_readSort_40 rfl (lv_at jl 3 rfl) ?_
  refine va_get (D := D) (ci := 6) (v := .int t13.1) (C := RX6) (T := TX6) (N := 34) hx hb hts in6 hown jK.1 jP 0 rfl rfl 3 (by decide) (hts _ w_215) (fun _ h9 => h9) rfl dX6_readSort_41 ?_
  refine lv_if_ne (tgt := 72) hx hb dX6_readSort_44 (by decide) (fun c15 => ?_) (fun c15 => ?_)
  · have h := itn c15 h
    obtain rfl := Option.some.inj h
    exact hRet _ _ _ _ jP jD jS dX6_readSort_72
  · have h := itp c15 h
    refine lv_aload_n hx hb dX6_readSort_47 rfl (lv_at jl 3 rfl) ?_
    refine va_get (D := D) (ci := 6) (v := .ref (aM 13)) (C := RX6) (T := TX6) (N := 34) hx hb hts in6 hown jK.1 jP 0 rfl rfl 13 (by decide) (hts _ w_81) (fun _ h9 => h9) rfl dX6_readSort_48 ?_
    refine lv_aload_n hx hb dX6_readSort_51 rfl (lv_at jl 3 rfl) ?_
    refine va_get (D := D) (ci := 6) (v := .int M_x14) (C := RX6) (T := TX6) (N := 34) hx hb hts in6 hown jK.1 jP 0 rfl rfl 14 (by decide) (hts _ w_218) (fun _ h9 => h9) rfl dX6_readSort_52 ?_
    refine lv_iload_n hx hb dX6_readSort_55 rfl (lv_at jl 2 rfl) ?_
    refine lv_iload_n hx hb dX6_readSort_56 rfl (lv_at jl 1 rfl) ?_
    refine lv_iload_n hx hb dX6_readSort_57 rfl (lv_at jl 0 rfl) ?_
    refine lv_iconst (v := (0 : Int32)) hx hb dX6_readSort_58 (by decide) ?_
    obtain ⟨t16, hc17, h⟩ := bd_some h
    refine callPS (wc := (mW cI uM aM M_x1 M_x2 t13.1 t13.2.1 t13.2.2.1 t13.2.2.2.1 t13.2.2.2.2.1 t13.2.2.2.2.2 M_x12 M_x14 M_x17 M_x18 M_x19 M_x20 M_x23 M_x27 M_x29 M_x33 M_g24 M_g25 M_g26 M_g28 M_r0 M_r9 M_r10 M_r11 M_r13 M_r15 M_r16 M_r21 M_r22 M_r30 M_r31 M_r32)) (wr := []) (w1 := (mW cI uM aM M_x1 M_x2 t13.1 t13.2.1 t13.2.2.1 t13.2.2.2.1 t13.2.2.2.2.1 t13.2.2.2.2.2 M_x12 M_x14 M_x17 M_x18 M_x19 M_x20 M_x23 M_x27 M_x29 M_x33 M_g24 M_g25 M_g26 M_g28 M_r0 M_r9 M_r10 M_r11 t16 M_r15 M_r16 M_r21 M_r22 M_r30 M_r31 M_r32)) (ws1 := (mW cI uM aM M_x1 M_x2 t13.1 t13.2.1 t13.2.2.1 t13.2.2.2.1 t13.2.2.2.2.1 t13.2.2.2.2.2 M_x12 M_x14 M_x17 M_x18 M_x19 M_x20 M_x23 M_x27 M_x29 M_x33 M_g24 M_g25 M_g26 M_g28 M_r0 M_r9 M_r10 M_r11 t16 M_r15 M_r16 M_r21 M_r22 M_r30 M_r31 M_r32)) (As := [.ref (aM 13), .int M_x14, .int t3.1, .int t7.1, .int t11.1, .int (0 : Int32)]) (rest := []) (st1 := []) [0, 1, 2, 3, 4, 5, 6, 7, 8, 9, 10, 11, 12] [] [0, 1, 2, 3, 4, 5, 6, 7, 8, 9, 10, 11, 12] F (kX6_layRowb l D cI cB cS uM aM M_x1 M_x2 t13.1 t13.2.1 t13.2.2.1 t13.2.2.2.1 t13.2.2.2.2.1 t13.2.2.2.2.2 M_x12 M_x14 M_x17 M_x18 M_x19 M_x20 M_x23 M_x27 M_x29 M_x33 M_g24 M_g25 M_g26 M_g28 M_r0 M_r9 M_r10 M_r11 M_r13 M_r15 M_r16 M_r21 M_r22 M_r30 M_r31 M_r32 M_x14 t3.1 t7.1 t11.1 (0 : Int32) _ hc17 ) okX6_layRow w_257 (by decide) (by decide) ⟨Nat.zero_le _, Nat.zero_le _⟩ jP jD jS rfl jl.1 rfl rfl (Nat.le_of_ble_eq_true rfl) dX6_readSort_59 rfl rfl (by decide) (by decide) (by decide) rfl (by decide) (fun H locs jP jD jS => ?_)
    refine lv_aload_n hx hb dX6_readSort_62 rfl (lv_at jl 3 rfl) ?_
    refine lv_dup hx hb dX6_readSort_63 rfl ?_
    refine va_get (D := D) (ci := 6) (v := .int M_x14) (C := RX6) (T := TX6) (N := 34) hx hb hts in6 hown jK.1 jP 0 rfl rfl 14 (by decide) (hts _ w_218) (fun _ h9 => h9) rfl dX6_readSort_64 ?_
    refine lv_iconst (v := (1 : Int32)) hx hb dX6_readSort_67 (by decide) ?_
    refine lv_iadd hx hb dX6_readSort_68 ?_
    refine va_put (D := D) (ci := 6) (v := .int (M_x14 + (1 : Int32))) (ty := .int) (C := RX6) (T := TX6) (N := 34) hx hb hts in6 tyX6 tyX6_ok nmX6 hown jK.1 jP jD jS 0 rfl rfl 14 (by decide) (hts _ w_218) (fun _ h9 => h9) rfl (by decide +kernel) rfl rfl (Nat.le_of_ble_eq_true rfl) dX6_readSort_69 (fun H locs jP jD jS => ?_)
    have jP : va_P D vwCl (mW cI uM aM M_x1 M_x2 t13.1 t13.2.1 t13.2.2.1 t13.2.2.2.1 t13.2.2.2.2.1 t13.2.2.2.2.2 M_x12 (M_x14 + (1 : Int32)) M_x17 M_x18 M_x19 M_x20 M_x23 M_x27 M_x29 M_x33 M_g24 M_g25 M_g26 M_g28 M_r0 M_r9 M_r10 M_r11 t16 M_r15 M_r16 M_r21 M_r22 M_r30 M_r31 M_r32) H := jP
    have jD : va_D A (mW cI uM aM M_x1 M_x2 t13.1 t13.2.1 t13.2.2.1 t13.2.2.2.1 t13.2.2.2.2.1 t13.2.2.2.2.2 M_x12 (M_x14 + (1 : Int32)) M_x17 M_x18 M_x19 M_x20 M_x23 M_x27 M_x29 M_x33 M_g24 M_g25 M_g26 M_g28 M_r0 M_r9 M_r10 M_r11 t16 M_r15 M_r16 M_r21 M_r22 M_r30 M_r31 M_r32) := jD
    obtain rfl := Option.some.inj h
    exact hRet _ _ _ _ jP jD jS dX6_readSort_72
theorem okX6_readOf : okV yX6_readOf cX6_readOf 5 none 1 := ⟨w_261, w_262, w_263, w_5, by decide, by decide, by decide +kernel⟩
def fX6_readOf (M_r0 : (Nat → Int32)) (M_r9 : (Nat → Int32)) (M_r10 : (Nat → Int32)) (M_r13 : (Nat → Int32)) (M_x1 : Int32) (M_x3 : Int32) (M_x4 : Int32) (M_x5 : Int32) (M_x6 : Int32) (M_x7 : Int32) (M_x8 : Int32) (M_x14 : Int32) (M_x17 : Int32) (a1 : Int32) : Option ((Nat → Int32) × Int32 × Int32 × Int32 × Int32 × Int32 × Int32 × Int32) :=
  bd (fX6_next (M_r0) (M_r9) (M_r10) (M_x1) (M_x3) (M_x4) (M_x5) (M_x6) (M_x7) (M_x8)) (fun t1 => bd (fX6_number t1.1 t1.2.1 t1.2.2.2.1 t1.2.2.2.2.1 t1.2.2.2.2.2 (0 : Int32) (M_x14 - (1 : Int32))) (fun t3 => bd (if t3.2.1 = (0 : Int32) then (if ((M_x17 >>> ((((8 : Int32) + ((8 : Int32) * a1)) + t3.1) &&& 31)) &&& (1 : Int32)) = (1 : Int32) then (bd (fX6_fails t3.2.1 t3.2.2 t1.2.2.2.1 (4 : Int32)) (fun t7 => some (t7.1, t7.2))) else (some (t3.2.1, t3.2.2))) else (some (t3.2.1, t3.2.2))) (fun t9 => bd (if t9.1 = (0 : Int32) then (some ((1 : Int32) <<< ((((8 : Int32) + ((8 : Int32) * a1)) + t3.1) &&& 31))) else (some (0 : Int32))) (fun t11 => bd (fX6_next (M_r0) (M_r9) (M_r10) (M_x1) t9.1 t9.2 t1.2.2.1 t1.2.2.2.1 t1.2.2.2.2.1 t1.2.2.2.2.2) (fun t12 => bd (if a1 = (1 : Int32) then (some (10 : Int32)) else (if t12.1 ≤ (0 : Int32) then (ckI (((5 : Int32) * t3.1) + (0 : Int32)) 40 (some (M_r13 (((5 : Int32) * t3.1) + (0 : Int32)).toNatClampNeg))) else (some (10 : Int32)))) (fun t16 => bd (fX6_number t12.1 t12.2.1 t12.2.2.2.1 t12.2.2.2.2.1 t12.2.2.2.2.2 (0 : Int32) t16) (fun t17 => bd (if t17.2.1 = (0 : Int32) then (bd (if a1 = (1 : Int32) then (some (3 : Int32)) else (some (4 : Int32))) (fun t21 => ckI (((5 : Int32) * t3.1) + t21) 40 (some (upd M_r13 (((5 : Int32) * t3.1) + t21).toNatClampNeg t17.1)))) else some M_r13) (fun t22 => bd (fX6_next (M_r0) (M_r9) (M_r10) (M_x1) t17.2.1 t17.2.2 t12.2.2.1 t12.2.2.2.1 t12.2.2.2.2.1 t12.2.2.2.2.2) (fun t23 => some (t22, t23.1, t23.2.1, t23.2.2.1, t23.2.2.2.1, t23.2.2.2.2.1, t23.2.2.2.2.2, (M_x17 ||| t11)))))))))))
set_option maxRecDepth 100000 in
set_option maxHeartbeats 4000000 in
theorem kX6_readOf (l : Launch) (D : va_G) (cI cB cS : ClassId) (uM : Nat) (aM : Nat → Nat) (M_x1 : Int32) (M_x2 : Int32) (M_x3 : Int32) (M_x4 : Int32) (M_x5 : Int32) (M_x6 : Int32) (M_x7 : Int32) (M_x8 : Int32) (M_x12 : Int32) (M_x14 : Int32) (M_x17 : Int32) (M_x18 : Int32) (M_x19 : Int32) (M_x20 : Int32) (M_x23 : Int32) (M_x27 : Int32) (M_x29 : Int32) (M_x33 : Int32) (M_g24 : Int64) (M_g25 : Int64) (M_g26 : Int64) (M_g28 : Int64) (M_r0 : (Nat → Int32)) (M_r9 : (Nat → Int32)) (M_r10 : (Nat → Int32)) (M_r11 : (Nat → Int32)) (M_r13 : (Nat → Int32)) (M_r15 : (Nat → Int32)) (M_r16 : (Nat → Int32)) (M_r21 : (Nat → Int32)) (M_r22 : (Nat → Int32)) (M_r30 : (Nat → Int32)) (M_r31 : (Nat → Int32)) (M_r32 : (Nat → Int32)) (a1 : Int32) (z : ((Nat → Int32) × Int32 × Int32 × Int32 × Int32 × Int32 × Int32 × Int32)) (h : fX6_readOf M_r0 M_r9 M_r10 M_r13 M_x1 M_x3 M_x4 M_x5 M_x6 M_x7 M_x8 M_x14 M_x17 a1 = some z) : Mt l yX6_readOf cX6_readOf 5 none 3 67 D cI cB cS (mW cI uM aM M_x1 M_x2 M_x3 M_x4 M_x5 M_x6 M_x7 M_x8 M_x12 M_x14 M_x17 M_x18 M_x19 M_x20 M_x23 M_x27 M_x29 M_x33 M_g24 M_g25 M_g26 M_g28 M_r0 M_r9 M_r10 M_r11 M_r13 M_r15 M_r16 M_r21 M_r22 M_r30 M_r31 M_r32) (mW cI uM aM M_x1 M_x2 z.2.1 z.2.2.1 z.2.2.2.1 z.2.2.2.2.1 z.2.2.2.2.2.1 z.2.2.2.2.2.2.1 M_x12 M_x14 z.2.2.2.2.2.2.2 M_x18 M_x19 M_x20 M_x23 M_x27 M_x29 M_x33 M_g24 M_g25 M_g26 M_g28 M_r0 M_r9 M_r10 M_r11 z.1 M_r15 M_r16 M_r21 M_r22 M_r30 M_r31 M_r32) [.ref uM, .int a1] none := by
  refine entryV (by decide +kernel) rfl (Nat.le_of_ble_eq_true rfl) ?_
  intro p e s m below meth c A ls QQ R ar F hRet jP jD jS jl
  obtain ⟨hx, hb, hml, hown, hts, jK, hA, hf1, hf2⟩ := id F
  have jl : lv_has ls 5 [(0, .ref uM), (1, .int a1)] := jl
  unfold fX6_readOf at h
  refine lv_aload_n hx hb dX6_readOf_0 rfl (lv_at jl 0 rfl) ?_
  obtain ⟨t1, hc2, h⟩ := bd_some h
  refine callW (w1 := (mW cI uM aM M_x1 M_x2 t1.1 t1.2.1 t1.2.2.1 t1.2.2.2.1 t1.2.2.2.2.1 t1.2.2.2.2.2 M_x12 M_x14 M_x17 M_x18 M_x19 M_x20 M_x23 M_x27 M_x29 M_x33 M_g24 M_g25 M_g26 M_g28 M_r0 M_r9 M_r10 M_r11 M_r13 M_r15 M_r16 M_r21 M_r22 M_r30 M_r31 M_r32)) (As := []) (rest := []) (st1 := []) 0 F (kX6_next l D cI cB cS uM aM M_x1 M_x2 M_x3 M_x4 M_x5 M_x6 M_x7 M_x8 M_x12 M_x14 M_x17 M_x18 M_x19 M_x20 M_x23 M_x27 M_x29 M_x33 M_g24 M_g25 M_g26 M_g28 M_r0 M_r9 M_r10 M_r11 M_r13 M_r15 M_r16 M_r21 M_r22 M_r30 M_r31 M_r32  _ hc2 ) okX6_next w_223 (by decide) (by decide) ⟨Nat.zero_le _, Nat.zero_le _⟩ rfl rfl rfl jP jD jS rfl jl.1 rfl rfl (Nat.le_of_ble_eq_true rfl) dX6_readOf_1 (fun H locs jP jD jS => ?_)
  refine lv_aload_n hx hb dX6_readOf_4 rfl (lv_at jl 0 rfl) ?_
  refine lv_iconst (v := (0 : Int32)) hx hb dX6_readOf_5 (by decide) ?_
  refine lv_aload_n hx hb dX6_readOf_6 rfl (lv_at jl 0 rfl) ?_
  refine va_get (D := D) (ci := 6) (v := .int M_x14) (C := RX6) (T := TX6) (N := 34) hx hb hts in6 hown jK.1 jP 0 rfl rfl 14 (by decide) (hts _ w_218) (fun _ h9 => h9) rfl dX6_readOf_7 ?_
  refine lv_iconst (v := (1 : Int32)) hx hb dX6_readOf_10 (by decide) ?_
  refine lv_isub hx hb dX6_readOf_11 ?_
  obtain ⟨t3, hc4, h⟩ := bd_some h
  refine callW (w1 := (mW cI uM aM M_x1 M_x2 t3.2.1 t3.2.2 t1.2.2.1 t1.2.2.2.1 t1.2.2.2.2.1 t1.2.2.2.2.2 M_x12 M_x14 M_x17 M_x18 M_x19 M_x20 M_x23 M_x27 M_x29 M_x33 M_g24 M_g25 M_g26 M_g28 M_r0 M_r9 M_r10 M_r11 M_r13 M_r15 M_r16 M_r21 M_r22 M_r30 M_r31 M_r32)) (As := [.int (0 : Int32), .int (M_x14 - (1 : Int32))]) (rest := []) (st1 := [.int t3.1]) 0 F (kX6_number l D cI cB cS uM aM M_x1 M_x2 t1.1 t1.2.1 t1.2.2.1 t1.2.2.2.1 t1.2.2.2.2.1 t1.2.2.2.2.2 M_x12 M_x14 M_x17 M_x18 M_x19 M_x20 M_x23 M_x27 M_x29 M_x33 M_g24 M_g25 M_g26 M_g28 M_r0 M_r9 M_r10 M_r11 M_r13 M_r15 M_r16 M_r21 M_r22 M_r30 M_r31 M_r32 (0 : Int32) (M_x14 - (1 : Int32)) _ hc4 ) okX6_number w_253 (by decide) (by decide) ⟨Nat.zero_le _, Nat.zero_le _⟩ rfl rfl rfl jP jD jS rfl jl.1 rfl rfl (Nat.le_of_ble_eq_true rfl) dX6_readOf_12 (fun H locs jP jD jS => ?_)
  refine lv_istore_n (lv' := [(2, .int t3.1), (0, .ref uM), (1, .int a1)]) hx hb dX6_readOf_15 rfl jl (by decide) rfl (fun ls jl => ?_)
  refine lv_bipush (v := (8 : Int32)) hx hb dX6_readOf_16 (by decide) ?_
  refine lv_bipush (v := (8 : Int32)) hx hb dX6_readOf_18 (by decide) ?_
  refine lv_iload_n hx hb dX6_readOf_20 rfl (lv_at jl 2 rfl) ?_
  refine lv_imul hx hb dX6_readOf_21 ?_
  refine lv_iadd hx hb dX6_readOf_22 ?_
  refine lv_iload_n hx hb dX6_readOf_23 rfl (lv_at jl 0 rfl) ?_
  refine lv_iadd hx hb dX6_readOf_24 ?_
  refine lv_istore_n (lv' := [(3, .int (((8 : Int32) + ((8 : Int32) * a1)) + t3.1)), (2, .int t3.1), (0, .ref uM), (1, .int a1)]) hx hb dX6_readOf_25 rfl jl (by decide) rfl (fun ls jl => ?_)
  refine lv_aload_n hx hb dX6_readOf_26 rfl (lv_at jl 2 rfl) ?_
  refine va_get (D := D) (ci := 6) (v := .int t3.2.1) (C := RX6) (T := TX6) (N := 34) hx hb hts in6 hown jK.1 jP 0 rfl rfl 3 (by decide) (hts _ w_215) (fun _ h9 => h9) rfl dX6_readOf_27 ?_
  obtain ⟨t9, hvt9, h⟩ := bd_some h
  have hJt9 : ∀ (H : Heap) (locs : List Loc) (ls : Array Slot), va_P D vwCl (mW cI uM aM M_x1 M_x2 t9.1 t9.2 t1.2.2.1 t1.2.2.2.1 t1.2.2.2.2.1 t1.2.2.2.2.2 M_x12 M_x14 M_x17 M_x18 M_x19 M_x20 M_x23 M_x27 M_x29 M_x33 M_g24 M_g25 M_g26 M_g28 M_r0 M_r9 M_r10 M_r11 M_r13 M_r15 M_r16 M_r21 M_r22 M_r30 M_r31 M_r32) H → va_D A (mW cI uM aM M_x1 M_x2 t9.1 t9.2 t1.2.2.1 t1.2.2.2.1 t1.2.2.2.2.1 t1.2.2.2.2.2 M_x12 M_x14 M_x17 M_x18 M_x19 M_x20 M_x23 M_x27 M_x29 M_x33 M_g24 M_g25 M_g26 M_g28 M_r0 M_r9 M_r10 M_r11 M_r13 M_r15 M_r16 M_r21 M_r22 M_r30 M_r31 M_r32) → va_S A s.heap H locs → lv_has ls 5 [(0, .ref uM), (1, .int a1), (2, .int t3.1), (3, .int (((8 : Int32) + ((8 : Int32) * a1)) + t3.1))] → W p l e R s m ar below meth c H locs 0 0 QQ (F0 m 50 ls []) := by
    clear jP jD jS jl
    intro H locs ls jP jD jS jl
    refine lv_aload_n hx hb dX6_readOf_50 rfl (lv_at jl 0 rfl) ?_
    refine lv_dup hx hb dX6_readOf_51 rfl ?_
    refine va_get (D := D) (ci := 6) (v := .int M_x17) (C := RX6) (T := TX6) (N := 34) hx hb hts in6 hown jK.1 jP 0 rfl rfl 17 (by decide) (hts _ w_217) (fun _ h9 => h9) rfl dX6_readOf_52 ?_
    refine lv_aload_n hx hb dX6_readOf_55 rfl (lv_at jl 0 rfl) ?_
    refine va_get (D := D) (ci := 6) (v := .int t9.1) (C := RX6) (T := TX6) (N := 34) hx hb hts in6 hown jK.1 jP 0 rfl rfl 3 (by decide) (hts _ w_215) (fun _ h9 => h9) rfl dX6_readOf_56 ?_
    obtain ⟨t11, hvt11, h⟩ := bd_some h
    have hJt11 : ∀ (H : Heap) (locs : List Loc) (ls : Array Slot), va_P D vwCl (mW cI uM aM M_x1 M_x2 t9.1 t9.2 t1.2.2.1 t1.2.2.2.1 t1.2.2.2.2.1 t1.2.2.2.2.2 M_x12 M_x14 M_x17 M_x18 M_x19 M_x20 M_x23 M_x27 M_x29 M_x33 M_g24 M_g25 M_g26 M_g28 M_r0 M_r9 M_r10 M_r11 M_r13 M_r15 M_r16 M_r21 M_r22 M_r30 M_r31 M_r32) H → va_D A (mW cI uM aM M_x1 M_x2 t9.1 t9.2 t1.2.2.1 t1.2.2.2.1 t1.2.2.2.2.1 t1.2.2.2.2.2 M_x12 M_x14 M_x17 M_x18 M_x19 M_x20 M_x23 M_x27 M_x29 M_x33 M_g24 M_g25 M_g26 M_g28 M_r0 M_r9 M_r10 M_r11 M_r13 M_r15 M_r16 M_r21 M_r22 M_r30 M_r31 M_r32) → va_S A s.heap H locs → lv_has ls 5 [(0, .ref uM), (1, .int a1), (2, .int t3.1)] → W p l e R s m ar below meth c H locs 0 0 QQ (F0 m 69 ls [.int t11, .int M_x17, .ref uM]) := by
      clear jP jD jS jl
      intro H locs ls jP jD jS jl
      refine lv_ior hx hb dX6_readOf_69 ?_
      refine va_put (D := D) (ci := 6) (v := .int (M_x17 ||| t11)) (ty := .int) (C := RX6) (T := TX6) (N := 34) hx hb hts in6 tyX6 tyX6_ok nmX6 hown jK.1 jP jD jS 0 rfl rfl 17 (by decide) (hts _ w_217) (fun _ h9 => h9) rfl (by decide +kernel) rfl rfl (Nat.le_of_ble_eq_true rfl) dX6_readOf_70 (fun H locs jP jD jS => ?_)
      have jP : va_P D vwCl (mW cI uM aM M_x1 M_x2 t9.1 t9.2 t1.2.2.1 t1.2.2.2.1 t1.2.2.2.2.1 t1.2.2.2.2.2 M_x12 M_x14 (M_x17 ||| t11) M_x18 M_x19 M_x20 M_x23 M_x27 M_x29 M_x33 M_g24 M_g25 M_g26 M_g28 M_r0 M_r9 M_r10 M_r11 M_r13 M_r15 M_r16 M_r21 M_r22 M_r30 M_r31 M_r32) H := jP
      have jD : va_D A (mW cI uM aM M_x1 M_x2 t9.1 t9.2 t1.2.2.1 t1.2.2.2.1 t1.2.2.2.2.1 t1.2.2.2.2.2 M_x12 M_x14 (M_x17 ||| t11) M_x18 M_x19 M_x20 M_x23 M_x27 M_x29 M_x33 M_g24 M_g25 M_g26 M_g28 M_r0 M_r9 M_r10 M_r11 M_r13 M_r15 M_r16 M_r21 M_r22 M_r30 M_r31 M_r32) := jD
      refine lv_aload_n hx hb dX6_readOf_73 rfl (lv_at jl 0 rfl) ?_
      obtain ⟨t12, hc13, h⟩ := bd_some h
      refine callW (w1 := (mW cI uM aM M_x1 M_x2 t12.1 t12.2.1 t12.2.2.1 t12.2.2.2.1 t12.2.2.2.2.1 t12.2.2.2.2.2 M_x12 M_x14 (M_x17 ||| t11) M_x18 M_x19 M_x20 M_x23 M_x27 M_x29 M_x33 M_g24 M_g25 M_g26 M_g28 M_r0 M_r9 M_r10 M_r11 M_r13 M_r15 M_r16 M_r21 M_r22 M_r30 M_r31 M_r32)) (As := []) (rest := []) (st1 := []) 0 F (kX6_next l D cI cB cS uM aM M_x1 M_x2 t9.1 t9.2 t1.2.2.1 t1.2.2.2.1 t1.2.2.2.2.1 t1.2.2.2.2.2 M_x12 M_x14 (M_x17 ||| t11) M_x18 M_x19 M_x20 M_x23 M_x27 M_x29 M_x33 M_g24 M_g25 M_g26 M_g28 M_r0 M_r9 M_r10 M_r11 M_r13 M_r15 M_r16 M_r21 M_r22 M_r30 M_r31 M_r32  _ hc13 ) okX6_next w_223 (by decide) (by decide) ⟨Nat.zero_le _, Nat.zero_le _⟩ rfl rfl rfl jP jD jS rfl jl.1 rfl rfl (Nat.le_of_ble_eq_true rfl) dX6_readOf_74 (fun H locs jP jD jS => ?_)
      refine lv_aload_n hx hb dX6_readOf_77 rfl (lv_at jl 0 rfl) ?_
      refine lv_iconst (v := (0 : Int32)) hx hb dX6_readOf_78 (by decide) ?_
      refine lv_iload_n hx hb dX6_readOf_79 rfl (lv_at jl 1 rfl) ?_
      refine lv_iconst (v := (1 : Int32)) hx hb dX6_readOf_80 (by decide) ?_
      obtain ⟨t16, hvt16, h⟩ := bd_some h
      have hJt16 : ∀ (H : Heap) (locs : List Loc) (ls : Array Slot), va_P D vwCl (mW cI uM aM M_x1 M_x2 t12.1 t12.2.1 t12.2.2.1 t12.2.2.2.1 t12.2.2.2.2.1 t12.2.2.2.2.2 M_x12 M_x14 (M_x17 ||| t11) M_x18 M_x19 M_x20 M_x23 M_x27 M_x29 M_x33 M_g24 M_g25 M_g26 M_g28 M_r0 M_r9 M_r10 M_r11 M_r13 M_r15 M_r16 M_r21 M_r22 M_r30 M_r31 M_r32) H → va_D A (mW cI uM aM M_x1 M_x2 t12.1 t12.2.1 t12.2.2.1 t12.2.2.2.1 t12.2.2.2.2.1 t12.2.2.2.2.2 M_x12 M_x14 (M_x17 ||| t11) M_x18 M_x19 M_x20 M_x23 M_x27 M_x29 M_x33 M_g24 M_g25 M_g26 M_g28 M_r0 M_r9 M_r10 M_r11 M_r13 M_r15 M_r16 M_r21 M_r22 M_r30 M_r31 M_r32) → va_S A s.heap H locs → lv_has ls 5 [(0, .ref uM), (1, .int a1), (2, .int t3.1)] → W p l e R s m ar below meth c H locs 0 0 QQ (F0 m 106 ls [.int t16, .int (0 : Int32), .ref uM]) := by
        clear jP jD jS jl
        intro H locs ls jP jD jS jl
        obtain ⟨t17, hc18, h⟩ := bd_some h
        refine callW (w1 := (mW cI uM aM M_x1 M_x2 t17.2.1 t17.2.2 t12.2.2.1 t12.2.2.2.1 t12.2.2.2.2.1 t12.2.2.2.2.2 M_x12 M_x14 (M_x17 ||| t11) M_x18 M_x19 M_x20 M_x23 M_x27 M_x29 M_x33 M_g24 M_g25 M_g26 M_g28 M_r0 M_r9 M_r10 M_r11 M_r13 M_r15 M_r16 M_r21 M_r22 M_r30 M_r31 M_r32)) (As := [.int (0 : Int32), .int t16]) (rest := []) (st1 := [.int t17.1]) 0 F (kX6_number l D cI cB cS uM aM M_x1 M_x2 t12.1 t12.2.1 t12.2.2.1 t12.2.2.2.1 t12.2.2.2.2.1 t12.2.2.2.2.2 M_x12 M_x14 (M_x17 ||| t11) M_x18 M_x19 M_x20 M_x23 M_x27 M_x29 M_x33 M_g24 M_g25 M_g26 M_g28 M_r0 M_r9 M_r10 M_r11 M_r13 M_r15 M_r16 M_r21 M_r22 M_r30 M_r31 M_r32 (0 : Int32) t16 _ hc18 ) okX6_number w_253 (by decide) (by decide) ⟨Nat.zero_le _, Nat.zero_le _⟩ rfl rfl rfl jP jD jS rfl jl.1 rfl rfl (Nat.le_of_ble_eq_true rfl) dX6_readOf_106 (fun H locs jP jD jS => ?_)
        refine lv_istore (lv' := [(4, .int t17.1), (0, .ref uM), (1, .int a1), (2, .int t3.1)]) hx hb dX6_readOf_109 jl (by decide) rfl (fun ls jl => ?_)
        refine lv_aload_n hx hb dX6_readOf_111 rfl (lv_at jl 1 rfl) ?_
        refine va_get (D := D) (ci := 6) (v := .int t17.2.1) (C := RX6) (T := TX6) (N := 34) hx hb hts in6 hown jK.1 jP 0 rfl rfl 3 (by decide) (hts _ w_215) (fun _ h9 => h9) rfl dX6_readOf_112 ?_
        obtain ⟨t22, hvt22, h⟩ := bd_some h
        have hJt22 : ∀ (H : Heap) (locs : List Loc) (ls : Array Slot), va_P D vwCl (mW cI uM aM M_x1 M_x2 t17.2.1 t17.2.2 t12.2.2.1 t12.2.2.2.1 t12.2.2.2.2.1 t12.2.2.2.2.2 M_x12 M_x14 (M_x17 ||| t11) M_x18 M_x19 M_x20 M_x23 M_x27 M_x29 M_x33 M_g24 M_g25 M_g26 M_g28 M_r0 M_r9 M_r10 M_r11 t22 M_r15 M_r16 M_r21 M_r22 M_r30 M_r31 M_r32) H → va_D A (mW cI uM aM M_x1 M_x2 t17.2.1 t17.2.2 t12.2.2.1 t12.2.2.2.1 t12.2.2.2.2.1 t12.2.2.2.2.2 M_x12 M_x14 (M_x17 ||| t11) M_x18 M_x19 M_x20 M_x23 M_x27 M_x29 M_x33 M_g24 M_g25 M_g26 M_g28 M_r0 M_r9 M_r10 M_r11 t22 M_r15 M_r16 M_r21 M_r22 M_r30 M_r31 M_r32) → va_S A s.heap H locs → lv_has ls 5 [(0, .ref uM)] → W p l e R s m ar below meth c H locs 0 0 QQ (F0 m 139 ls []) := by
          clear jP jD jS jl
          intro H locs ls jP jD jS jl
          refine lv_aload_n hx hb dX6_readOf_139 rfl (lv_at jl 0 rfl) ?_
          obtain ⟨t23, hc24, h⟩ := bd_some h
          refine callW (w1 := (mW cI uM aM M_x1 M_x2 t23.1 t23.2.1 t23.2.2.1 t23.2.2.2.1 t23.2.2.2.2.1 t23.2.2.2.2.2 M_x12 M_x14 (M_x17 ||| t11) M_x18 M_x19 M_x20 M_x23 M_x27 M_x29 M_x33 M_g24 M_g25 M_g26 M_g28 M_r0 M_r9 M_r10 M_r11 t22 M_r15 M_r16 M_r21 M_r22 M_r30 M_r31 M_r32)) (As := []) (rest := []) (st1 := []) 0 F (kX6_next l D cI cB cS uM aM M_x1 M_x2 t17.2.1 t17.2.2 t12.2.2.1 t12.2.2.2.1 t12.2.2.2.2.1 t12.2.2.2.2.2 M_x12 M_x14 (M_x17 ||| t11) M_x18 M_x19 M_x20 M_x23 M_x27 M_x29 M_x33 M_g24 M_g25 M_g26 M_g28 M_r0 M_r9 M_r10 M_r11 t22 M_r15 M_r16 M_r21 M_r22 M_r30 M_r31 M_r32  _ hc24 ) okX6_next w_223 (by decide) (by decide) ⟨Nat.zero_le _, Nat.zero_le _⟩ rfl rfl rfl jP jD jS rfl jl.1 rfl rfl (Nat.le_of_ble_eq_true rfl) dX6_readOf_140 (fun H locs jP jD jS => ?_)
          obtain rfl := Option.some.inj h
          exact hRet _ _ _ _ jP jD jS dX6_readOf_143
        clear h
        refine lv_if_ne (tgt := 139) hx hb dX6_readOf_115 (by decide) (fun c19 => ?_) (fun c19 => ?_)
        · have hvt22 := itn c19 hvt22
          obtain rfl := Option.some.inj hvt22
          exact hJt22 _ _ _ jP jD jS (lv_sub jl [1] rfl)
        · have hvt22 := itp c19 hvt22
          refine lv_aload_n hx hb dX6_readOf_118 rfl (lv_at jl 1 rfl) ?_
          refine va_get (D := D) (ci := 6) (v := .ref (aM 13)) (C := RX6) (T := TX6) (N := 34) hx hb hts in6 hown jK.1 jP 0 rfl rfl 13 (by decide) (hts _ w_81) (fun _ h9 => h9) rfl dX6_readOf_119 ?_
          refine lv_iconst (v := (5 : Int32)) hx hb dX6_readOf_122 (by decide) ?_
          refine lv_iload_n hx hb dX6_readOf_123 rfl (lv_at jl 3 rfl) ?_
          refine lv_imul hx hb dX6_readOf_124 ?_
          refine lv_iload_n hx hb dX6_readOf_125 rfl (lv_at jl 2 rfl) ?_
          refine lv_iconst (v := (1 : Int32)) hx hb dX6_readOf_126 (by decide) ?_
          obtain ⟨t21, hvt21, hvt22⟩ := bd_some hvt22
          have hJt21 : ∀ (H : Heap) (locs : List Loc) (ls : Array Slot), va_P D vwCl (mW cI uM aM M_x1 M_x2 t17.2.1 t17.2.2 t12.2.2.1 t12.2.2.2.1 t12.2.2.2.2.1 t12.2.2.2.2.2 M_x12 M_x14 (M_x17 ||| t11) M_x18 M_x19 M_x20 M_x23 M_x27 M_x29 M_x33 M_g24 M_g25 M_g26 M_g28 M_r0 M_r9 M_r10 M_r11 M_r13 M_r15 M_r16 M_r21 M_r22 M_r30 M_r31 M_r32) H → va_D A (mW cI uM aM M_x1 M_x2 t17.2.1 t17.2.2 t12.2.2.1 t12.2.2.2.1 t12.2.2.2.2.1 t12.2.2.2.2.2 M_x12 M_x14 (M_x17 ||| t11) M_x18 M_x19 M_x20 M_x23 M_x27 M_x29 M_x33 M_g24 M_g25 M_g26 M_g28 M_r0 M_r9 M_r10 M_r11 M_r13 M_r15 M_r16 M_r21 M_r22 M_r30 M_r31 M_r32) → va_S A s.heap H locs → lv_has ls 5 [(0, .ref uM), (4, .int t17.1)] → W p l e R s m ar below meth c H locs 0 0 QQ (F0 m 135 ls [.int t21, .int ((5 : Int32) * t3.1), .ref (aM 13)]) := by
            clear jP jD jS jl
            intro H locs ls jP jD jS jl
            refine lv_iadd hx hb dX6_readOf_135 ?_
            refine lv_iload hx hb dX6_readOf_136 (lv_at jl 1 rfl) ?_
            obtain ⟨hin, hvt22⟩ := ckI_some hvt22
            refine va_iast (f := M_r13) hx hb jK.1 jP jD jS 5 0 rfl rfl hin dX6_readOf_138 (fun H locs jP jD jS => ?_)
            have jP : va_P D vwCl (mW cI uM aM M_x1 M_x2 t17.2.1 t17.2.2 t12.2.2.1 t12.2.2.2.1 t12.2.2.2.2.1 t12.2.2.2.2.2 M_x12 M_x14 (M_x17 ||| t11) M_x18 M_x19 M_x20 M_x23 M_x27 M_x29 M_x33 M_g24 M_g25 M_g26 M_g28 M_r0 M_r9 M_r10 M_r11 (upd M_r13 (((5 : Int32) * t3.1) + t21).toNatClampNeg t17.1) M_r15 M_r16 M_r21 M_r22 M_r30 M_r31 M_r32) H := jP
            have jD : va_D A (mW cI uM aM M_x1 M_x2 t17.2.1 t17.2.2 t12.2.2.1 t12.2.2.2.1 t12.2.2.2.2.1 t12.2.2.2.2.2 M_x12 M_x14 (M_x17 ||| t11) M_x18 M_x19 M_x20 M_x23 M_x27 M_x29 M_x33 M_g24 M_g25 M_g26 M_g28 M_r0 M_r9 M_r10 M_r11 (upd M_r13 (((5 : Int32) * t3.1) + t21).toNatClampNeg t17.1) M_r15 M_r16 M_r21 M_r22 M_r30 M_r31 M_r32) := jD
            obtain rfl := Option.some.inj hvt22
            exact hJt22 _ _ _ jP jD jS (lv_sub jl [0] rfl)
          clear hvt22
          refine lv_icmp_ne (tgt := 134) hx hb dX6_readOf_127 (by decide) (fun c20 => ?_) (fun c20 => ?_)
          · have hvt21 := itn c20 hvt21
            refine lv_iconst (v := (4 : Int32)) hx hb dX6_readOf_134 (by decide) ?_
            obtain rfl := Option.some.inj hvt21
            exact hJt21 _ _ _ jP jD jS (lv_sub jl [1, 0] rfl)
          · have hvt21 := itp c20 hvt21
            refine lv_iconst (v := (3 : Int32)) hx hb dX6_readOf_130 (by decide) ?_
            refine lv_goto (tgt := 135) hx hb dX6_readOf_131 (by decide) ?_
            obtain rfl := Option.some.inj hvt21
            exact hJt21 _ _ _ jP jD jS (lv_sub jl [1, 0] rfl)
      clear h
      refine lv_icmp_eq (tgt := 91) hx hb dX6_readOf_81 (by decide) (fun c14 => ?_) (fun c14 => ?_)
      · have hvt16 := itp c14 hvt16
        refine lv_bipush (v := (10 : Int32)) hx hb dX6_readOf_91 (by decide) ?_
        refine lv_goto (tgt := 106) hx hb dX6_readOf_93 (by decide) ?_
        obtain rfl := Option.some.inj hvt16
        exact hJt16 _ _ _ jP jD jS (lv_sub jl [0, 1, 2] rfl)
      · have hvt16 := itn c14 hvt16
        refine lv_aload_n hx hb dX6_readOf_84 rfl (lv_at jl 0 rfl) ?_
        refine va_get (D := D) (ci := 6) (v := .int t12.1) (C := RX6) (T := TX6) (N := 34) hx hb hts in6 hown jK.1 jP 0 rfl rfl 3 (by decide) (hts _ w_215) (fun _ h9 => h9) rfl dX6_readOf_85 ?_
        refine lv_if_le (tgt := 96) hx hb dX6_readOf_88 (by decide) (fun c15 => ?_) (fun c15 => ?_)
        · have hvt16 := itp c15 hvt16
          refine lv_aload_n hx hb dX6_readOf_96 rfl (lv_at jl 0 rfl) ?_
          refine va_get (D := D) (ci := 6) (v := .ref (aM 13)) (C := RX6) (T := TX6) (N := 34) hx hb hts in6 hown jK.1 jP 0 rfl rfl 13 (by decide) (hts _ w_81) (fun _ h9 => h9) rfl dX6_readOf_97 ?_
          refine lv_iconst (v := (5 : Int32)) hx hb dX6_readOf_100 (by decide) ?_
          refine lv_iload_n hx hb dX6_readOf_101 rfl (lv_at jl 2 rfl) ?_
          refine lv_imul hx hb dX6_readOf_102 ?_
          refine lv_iconst (v := (0 : Int32)) hx hb dX6_readOf_103 (by decide) ?_
          refine lv_iadd hx hb dX6_readOf_104 ?_
          obtain ⟨hin, hvt16⟩ := ckI_some hvt16
          refine va_iald (f := M_r13) hx hb jK.1 jP 5 0 rfl rfl hin dX6_readOf_105 ?_
          obtain rfl := Option.some.inj hvt16
          exact hJt16 _ _ _ jP jD jS (lv_sub jl [0, 1, 2] rfl)
        · have hvt16 := itn c15 hvt16
          refine lv_bipush (v := (10 : Int32)) hx hb dX6_readOf_91 (by decide) ?_
          refine lv_goto (tgt := 106) hx hb dX6_readOf_93 (by decide) ?_
          obtain rfl := Option.some.inj hvt16
          exact hJt16 _ _ _ jP jD jS (lv_sub jl [0, 1, 2] rfl)
    clear h
    refine lv_if_ne (tgt := 68) hx hb dX6_readOf_59 (by decide) (fun c10 => ?_) (fun c10 => ?_)
    · have hvt11 := itn c10 hvt11
      refine lv_iconst (v := (0 : Int32)) hx hb dX6_readOf_68 (by decide) ?_
      obtain rfl := Option.some.inj hvt11
      exact hJt11 _ _ _ jP jD jS (lv_sub jl [0, 1, 2] rfl)
    · have hvt11 := itp c10 hvt11
      refine lv_iconst (v := (1 : Int32)) hx hb dX6_readOf_62 (by decide) ?_
      refine lv_iload_n hx hb dX6_readOf_63 rfl (lv_at jl 3 rfl) ?_
      refine lv_ishl hx hb dX6_readOf_64 ?_
      refine lv_goto (tgt := 69) hx hb dX6_readOf_65 (by decide) ?_
      obtain rfl := Option.some.inj hvt11
      exact hJt11 _ _ _ jP jD jS (lv_sub jl [0, 1, 2] rfl)
  clear h
  refine lv_if_ne (tgt := 50) hx hb dX6_readOf_30 (by decide) (fun c5 => ?_) (fun c5 => ?_)
  · have hvt9 := itn c5 hvt9
    obtain rfl := Option.some.inj hvt9
    exact hJt9 _ _ _ jP jD jS (lv_sub jl [2, 3, 1, 0] rfl)
  · have hvt9 := itp c5 hvt9
    refine lv_aload_n hx hb dX6_readOf_33 rfl (lv_at jl 2 rfl) ?_
    refine va_get (D := D) (ci := 6) (v := .int M_x17) (C := RX6) (T := TX6) (N := 34) hx hb hts in6 hown jK.1 jP 0 rfl rfl 17 (by decide) (hts _ w_217) (fun _ h9 => h9) rfl dX6_readOf_34 ?_
    refine lv_iload_n hx hb dX6_readOf_37 rfl (lv_at jl 0 rfl) ?_
    refine lv_ishr hx hb dX6_readOf_38 ?_
    refine lv_iconst (v := (1 : Int32)) hx hb dX6_readOf_39 (by decide) ?_
    refine lv_iand hx hb dX6_readOf_40 ?_
    refine lv_iconst (v := (1 : Int32)) hx hb dX6_readOf_41 (by decide) ?_
    refine lv_icmp_ne (tgt := 50) hx hb dX6_readOf_42 (by decide) (fun c6 => ?_) (fun c6 => ?_)
    · have hvt9 := itn c6 hvt9
      obtain rfl := Option.some.inj hvt9
      exact hJt9 _ _ _ jP jD jS (lv_sub jl [2, 3, 1, 0] rfl)
    · have hvt9 := itp c6 hvt9
      refine lv_aload_n hx hb dX6_readOf_45 rfl (lv_at jl 2 rfl) ?_
      refine lv_iconst (v := (4 : Int32)) hx hb dX6_readOf_46 (by decide) ?_
      obtain ⟨t7, hc8, hvt9⟩ := bd_some hvt9
      refine callW (w1 := (mW cI uM aM M_x1 M_x2 t7.1 t7.2 t1.2.2.1 t1.2.2.2.1 t1.2.2.2.2.1 t1.2.2.2.2.2 M_x12 M_x14 M_x17 M_x18 M_x19 M_x20 M_x23 M_x27 M_x29 M_x33 M_g24 M_g25 M_g26 M_g28 M_r0 M_r9 M_r10 M_r11 M_r13 M_r15 M_r16 M_r21 M_r22 M_r30 M_r31 M_r32)) (As := [.int (4 : Int32)]) (rest := []) (st1 := []) 0 F (kX6_fails l D cI cB cS uM aM M_x1 M_x2 t3.2.1 t3.2.2 t1.2.2.1 t1.2.2.2.1 t1.2.2.2.2.1 t1.2.2.2.2.2 M_x12 M_x14 M_x17 M_x18 M_x19 M_x20 M_x23 M_x27 M_x29 M_x33 M_g24 M_g25 M_g26 M_g28 M_r0 M_r9 M_r10 M_r11 M_r13 M_r15 M_r16 M_r21 M_r22 M_r30 M_r31 M_r32 (4 : Int32) _ hc8 ) okX6_fails w_241 (by decide) (by decide) ⟨Nat.zero_le _, Nat.zero_le _⟩ rfl rfl rfl jP jD jS rfl jl.1 rfl rfl (Nat.le_of_ble_eq_true rfl) dX6_readOf_47 (fun H locs jP jD jS => ?_)
      obtain rfl := Option.some.inj hvt9
      exact hJt9 _ _ _ jP jD jS (lv_sub jl [2, 3, 1, 0] rfl)
theorem okX6_readLine : okV yX6_readLine cX6_readLine 3 none 0 := ⟨w_246, w_247, w_248, w_5, by decide, by decide, by decide +kernel⟩
def fX6_readLine (M_r0 : (Nat → Int32)) (M_r9 : (Nat → Int32)) (M_r10 : (Nat → Int32)) (M_r13 : (Nat → Int32)) (M_r16 : (Nat → Int32)) (M_x1 : Int32) (M_x3 : Int32) (M_x4 : Int32) (M_x5 : Int32) (M_x6 : Int32) (M_x7 : Int32) (M_x8 : Int32) (M_x14 : Int32) (M_x17 : Int32) : Option ((Nat → Int32) × (Nat → Int32) × Int32 × Int32 × Int32 × Int32 × Int32 × Int32 × Int32 × Int32) :=
  if M_x7 = (1 : Int32) then (bd (if M_x8 = (0 : Int32) then (bd (if M_x14 = (8 : Int32) then (bd (fX6_fails (M_x3) (M_x4) (M_x6) (5 : Int32)) (fun t31 => some (t31.1, t31.2))) else (some (M_x3, M_x4))) (fun t33 => bd (fX6_readSort (M_r0) (M_r9) (M_r10) (M_r13) (M_x1) t33.1 t33.2 (M_x5) (M_x6) (M_x7) (M_x8) (M_x14)) (fun t34 => some (t34.1, M_r16, t34.2.1, t34.2.2.1, t34.2.2.2.1, t34.2.2.2.2.1, t34.2.2.2.2.2.1, t34.2.2.2.2.2.2.1, t34.2.2.2.2.2.2.2, M_x17)))) else (if (3 : Int32) ≤ M_x8 then (bd (if ((M_x17 >>> (M_x8 &&& 31)) &&& (1 : Int32)) = (1 : Int32) then (bd (fX6_fails (M_x3) (M_x4) (M_x6) (4 : Int32)) (fun t5 => some (t5.1, t5.2))) else (some (M_x3, M_x4))) (fun t7 => bd (fX6_next (M_r0) (M_r9) (M_r10) (M_x1) t7.1 t7.2 (M_x5) (M_x6) (M_x7) (M_x8)) (fun t8 => bd (if M_x8 = (4 : Int32) then (some (4 : Int32)) else (if M_x8 = (3 : Int32) then (some (0 : Int32)) else (some (1 : Int32)))) (fun t12 => bd (if M_x8 = (4 : Int32) then (some (8 : Int32)) else (if M_x8 = (3 : Int32) then (some (99 : Int32)) else (some (10 : Int32)))) (fun t15 => bd (fX6_number t8.1 t8.2.1 t8.2.2.2.1 t8.2.2.2.2.1 t8.2.2.2.2.2 t12 t15) (fun t16 => bd (fX6_next (M_r0) (M_r9) (M_r10) (M_x1) t16.2.1 t16.2.2 t8.2.2.1 t8.2.2.2.1 t8.2.2.2.2.1 t8.2.2.2.2.2) (fun t18 => bd (if M_x8 = (3 : Int32) then (some (0 : Int32)) else (if M_x8 = (4 : Int32) then (some (1 : Int32)) else (some (3 : Int32)))) (fun t22 => ckI t22 4 (if M_x8 = (4 : Int32) then (bd (fX6_number t18.1 t18.2.1 t18.2.2.2.1 t18.2.2.2.2.1 t18.2.2.2.2.2 (0 : Int32) (20 : Int32)) (fun t24 => bd (fX6_next (M_r0) (M_r9) (M_r10) (M_x1) t24.2.1 t24.2.2 t18.2.2.1 t18.2.2.2.1 t18.2.2.2.2.1 t18.2.2.2.2.2) (fun t26 => some (M_r13, (upd (upd M_r16 t22.toNatClampNeg t16.1) (2 : Int32).toNatClampNeg t24.1), t26.1, t26.2.1, t26.2.2.1, t26.2.2.2.1, t26.2.2.2.2.1, t26.2.2.2.2.2, M_x14, (M_x17 ||| ((1 : Int32) <<< (M_x8 &&& 31))))))) else (some (M_r13, (upd M_r16 t22.toNatClampNeg t16.1), t18.1, t18.2.1, t18.2.2.1, t18.2.2.2.1, t18.2.2.2.2.1, t18.2.2.2.2.2, M_x14, (M_x17 ||| ((1 : Int32) <<< (M_x8 &&& 31)))))))))))))) else (bd (fX6_readOf (M_r0) (M_r9) (M_r10) (M_r13) (M_x1) (M_x3) (M_x4) (M_x5) (M_x6) (M_x7) (M_x8) (M_x14) (M_x17) (M_x8)) (fun t28 => some (t28.1, M_r16, t28.2.1, t28.2.2.1, t28.2.2.2.1, t28.2.2.2.2.1, t28.2.2.2.2.2.1, t28.2.2.2.2.2.2.1, M_x14, t28.2.2.2.2.2.2.2))))) (fun t36 => bd (if t36.2.2.1 = (0 : Int32) then (if t36.2.2.2.2.2.2.1 = (3 : Int32) then (some (t36.2.2.1, t36.2.2.2.1)) else (bd (fX6_fails t36.2.2.1 t36.2.2.2.1 t36.2.2.2.2.2.1 (2 : Int32)) (fun t39 => some (t39.1, t39.2)))) else (some (t36.2.2.1, t36.2.2.2.1))) (fun t41 => bd (fX6_next (M_r0) (M_r9) (M_r10) (M_x1) t41.1 t41.2 t36.2.2.2.2.1 t36.2.2.2.2.2.1 t36.2.2.2.2.2.2.1 t36.2.2.2.2.2.2.2.1) (fun t42 => some (t36.1, t36.2.1, t42.1, t42.2.1, t42.2.2.1, t42.2.2.2.1, t42.2.2.2.2.1, t42.2.2.2.2.2, t36.2.2.2.2.2.2.2.2.1, t36.2.2.2.2.2.2.2.2.2))))) else (bd (fX6_fails (M_x3) (M_x4) (M_x6) (2 : Int32)) (fun t44 => some (M_r13, M_r16, t44.1, t44.2, M_x5, M_x6, M_x7, M_x8, M_x14, M_x17)))
set_option maxRecDepth 100000 in
set_option maxHeartbeats 4000000 in
theorem kX6_readLine (l : Launch) (D : va_G) (cI cB cS : ClassId) (uM : Nat) (aM : Nat → Nat) (M_x1 : Int32) (M_x2 : Int32) (M_x3 : Int32) (M_x4 : Int32) (M_x5 : Int32) (M_x6 : Int32) (M_x7 : Int32) (M_x8 : Int32) (M_x12 : Int32) (M_x14 : Int32) (M_x17 : Int32) (M_x18 : Int32) (M_x19 : Int32) (M_x20 : Int32) (M_x23 : Int32) (M_x27 : Int32) (M_x29 : Int32) (M_x33 : Int32) (M_g24 : Int64) (M_g25 : Int64) (M_g26 : Int64) (M_g28 : Int64) (M_r0 : (Nat → Int32)) (M_r9 : (Nat → Int32)) (M_r10 : (Nat → Int32)) (M_r11 : (Nat → Int32)) (M_r13 : (Nat → Int32)) (M_r15 : (Nat → Int32)) (M_r16 : (Nat → Int32)) (M_r21 : (Nat → Int32)) (M_r22 : (Nat → Int32)) (M_r30 : (Nat → Int32)) (M_r31 : (Nat → Int32)) (M_r32 : (Nat → Int32)) (z : ((Nat → Int32) × (Nat → Int32) × Int32 × Int32 × Int32 × Int32 × Int32 × Int32 × Int32 × Int32)) (h : fX6_readLine M_r0 M_r9 M_r10 M_r13 M_r16 M_x1 M_x3 M_x4 M_x5 M_x6 M_x7 M_x8 M_x14 M_x17 = some z) : Mt l yX6_readLine cX6_readLine 3 none 4 91 D cI cB cS (mW cI uM aM M_x1 M_x2 M_x3 M_x4 M_x5 M_x6 M_x7 M_x8 M_x12 M_x14 M_x17 M_x18 M_x19 M_x20 M_x23 M_x27 M_x29 M_x33 M_g24 M_g25 M_g26 M_g28 M_r0 M_r9 M_r10 M_r11 M_r13 M_r15 M_r16 M_r21 M_r22 M_r30 M_r31 M_r32) (mW cI uM aM M_x1 M_x2 z.2.2.1 z.2.2.2.1 z.2.2.2.2.1 z.2.2.2.2.2.1 z.2.2.2.2.2.2.1 z.2.2.2.2.2.2.2.1 M_x12 z.2.2.2.2.2.2.2.2.1 z.2.2.2.2.2.2.2.2.2 M_x18 M_x19 M_x20 M_x23 M_x27 M_x29 M_x33 M_g24 M_g25 M_g26 M_g28 M_r0 M_r9 M_r10 M_r11 z.1 M_r15 z.2.1 M_r21 M_r22 M_r30 M_r31 M_r32) [.ref uM] none := by
  refine entryV (by decide +kernel) rfl (Nat.le_of_ble_eq_true rfl) ?_
  intro p e s m below meth c A ls QQ R ar F hRet jP jD jS jl
  obtain ⟨hx, hb, hml, hown, hts, jK, hA, hf1, hf2⟩ := id F
  have jl : lv_has ls 3 [(0, .ref uM)] := jl
  unfold fX6_readLine at h
  refine lv_aload_n hx hb dX6_readLine_0 rfl (lv_at jl 0 rfl) ?_
  refine va_get (D := D) (ci := 6) (v := .int M_x7) (C := RX6) (T := TX6) (N := 34) hx hb hts in6 hown jK.1 jP 0 rfl rfl 7 (by decide) (hts _ w_219) (fun _ h9 => h9) rfl dX6_readLine_1 ?_
  refine lv_iconst (v := (1 : Int32)) hx hb dX6_readLine_4 (by decide) ?_
  refine lv_icmp_eq (tgt := 14) hx hb dX6_readLine_5 (by decide) (fun c1 => ?_) (fun c1 => ?_)
  · have h := itp c1 h
    refine lv_aload_n hx hb dX6_readLine_14 rfl (lv_at jl 0 rfl) ?_
    refine va_get (D := D) (ci := 6) (v := .int M_x8) (C := RX6) (T := TX6) (N := 34) hx hb hts in6 hown jK.1 jP 0 rfl rfl 8 (by decide) (hts _ w_228) (fun _ h9 => h9) rfl dX6_readLine_15 ?_
    refine lv_istore_n (lv' := [(1, .int M_x8), (0, .ref uM)]) hx hb dX6_readLine_18 rfl jl (by decide) rfl (fun ls jl => ?_)
    refine lv_iload_n hx hb dX6_readLine_19 rfl (lv_at jl 0 rfl) ?_
    obtain ⟨t36, hvt36, h⟩ := bd_some h
    have hJt36 : ∀ (H : Heap) (locs : List Loc) (ls : Array Slot), va_P D vwCl (mW cI uM aM M_x1 M_x2 t36.2.2.1 t36.2.2.2.1 t36.2.2.2.2.1 t36.2.2.2.2.2.1 t36.2.2.2.2.2.2.1 t36.2.2.2.2.2.2.2.1 M_x12 t36.2.2.2.2.2.2.2.2.1 t36.2.2.2.2.2.2.2.2.2 M_x18 M_x19 M_x20 M_x23 M_x27 M_x29 M_x33 M_g24 M_g25 M_g26 M_g28 M_r0 M_r9 M_r10 M_r11 t36.1 M_r15 t36.2.1 M_r21 M_r22 M_r30 M_r31 M_r32) H → va_D A (mW cI uM aM M_x1 M_x2 t36.2.2.1 t36.2.2.2.1 t36.2.2.2.2.1 t36.2.2.2.2.2.1 t36.2.2.2.2.2.2.1 t36.2.2.2.2.2.2.2.1 M_x12 t36.2.2.2.2.2.2.2.2.1 t36.2.2.2.2.2.2.2.2.2 M_x18 M_x19 M_x20 M_x23 M_x27 M_x29 M_x33 M_g24 M_g25 M_g26 M_g28 M_r0 M_r9 M_r10 M_r11 t36.1 M_r15 t36.2.1 M_r21 M_r22 M_r30 M_r31 M_r32) → va_S A s.heap H locs → lv_has ls 3 [(0, .ref uM)] → W p l e R s m ar below meth c H locs 0 0 QQ (F0 m 187 ls []) := by
      clear jP jD jS jl
      intro H locs ls jP jD jS jl
      refine lv_aload_n hx hb dX6_readLine_187 rfl (lv_at jl 0 rfl) ?_
      refine va_get (D := D) (ci := 6) (v := .int t36.2.2.1) (C := RX6) (T := TX6) (N := 34) hx hb hts in6 hown jK.1 jP 0 rfl rfl 3 (by decide) (hts _ w_215) (fun _ h9 => h9) rfl dX6_readLine_188 ?_
      obtain ⟨t41, hvt41, h⟩ := bd_some h
      have hJt41 : ∀ (H : Heap) (locs : List Loc) (ls : Array Slot), va_P D vwCl (mW cI uM aM M_x1 M_x2 t41.1 t41.2 t36.2.2.2.2.1 t36.2.2.2.2.2.1 t36.2.2.2.2.2.2.1 t36.2.2.2.2.2.2.2.1 M_x12 t36.2.2.2.2.2.2.2.2.1 t36.2.2.2.2.2.2.2.2.2 M_x18 M_x19 M_x20 M_x23 M_x27 M_x29 M_x33 M_g24 M_g25 M_g26 M_g28 M_r0 M_r9 M_r10 M_r11 t36.1 M_r15 t36.2.1 M_r21 M_r22 M_r30 M_r31 M_r32) H → va_D A (mW cI uM aM M_x1 M_x2 t41.1 t41.2 t36.2.2.2.2.1 t36.2.2.2.2.2.1 t36.2.2.2.2.2.2.1 t36.2.2.2.2.2.2.2.1 M_x12 t36.2.2.2.2.2.2.2.2.1 t36.2.2.2.2.2.2.2.2.2 M_x18 M_x19 M_x20 M_x23 M_x27 M_x29 M_x33 M_g24 M_g25 M_g26 M_g28 M_r0 M_r9 M_r10 M_r11 t36.1 M_r15 t36.2.1 M_r21 M_r22 M_r30 M_r31 M_r32) → va_S A s.heap H locs → lv_has ls 3 [(0, .ref uM)] → W p l e R s m ar below meth c H locs 0 0 QQ (F0 m 207 ls []) := by
        clear jP jD jS jl
        intro H locs ls jP jD jS jl
        refine lv_aload_n hx hb dX6_readLine_207 rfl (lv_at jl 0 rfl) ?_
        obtain ⟨t42, hc43, h⟩ := bd_some h
        refine callW (w1 := (mW cI uM aM M_x1 M_x2 t42.1 t42.2.1 t42.2.2.1 t42.2.2.2.1 t42.2.2.2.2.1 t42.2.2.2.2.2 M_x12 t36.2.2.2.2.2.2.2.2.1 t36.2.2.2.2.2.2.2.2.2 M_x18 M_x19 M_x20 M_x23 M_x27 M_x29 M_x33 M_g24 M_g25 M_g26 M_g28 M_r0 M_r9 M_r10 M_r11 t36.1 M_r15 t36.2.1 M_r21 M_r22 M_r30 M_r31 M_r32)) (As := []) (rest := []) (st1 := []) 0 F (kX6_next l D cI cB cS uM aM M_x1 M_x2 t41.1 t41.2 t36.2.2.2.2.1 t36.2.2.2.2.2.1 t36.2.2.2.2.2.2.1 t36.2.2.2.2.2.2.2.1 M_x12 t36.2.2.2.2.2.2.2.2.1 t36.2.2.2.2.2.2.2.2.2 M_x18 M_x19 M_x20 M_x23 M_x27 M_x29 M_x33 M_g24 M_g25 M_g26 M_g28 M_r0 M_r9 M_r10 M_r11 t36.1 M_r15 t36.2.1 M_r21 M_r22 M_r30 M_r31 M_r32  _ hc43 ) okX6_next w_223 (by decide) (by decide) ⟨Nat.zero_le _, Nat.zero_le _⟩ rfl rfl rfl jP jD jS rfl jl.1 rfl rfl (Nat.le_of_ble_eq_true rfl) dX6_readLine_208 (fun H locs jP jD jS => ?_)
        obtain rfl := Option.some.inj h
        exact hRet _ _ _ _ jP jD jS dX6_readLine_211
      clear h
      refine lv_if_ne (tgt := 207) hx hb dX6_readLine_191 (by decide) (fun c37 => ?_) (fun c37 => ?_)
      · have hvt41 := itn c37 hvt41
        obtain rfl := Option.some.inj hvt41
        exact hJt41 _ _ _ jP jD jS (lv_sub jl [0] rfl)
      · have hvt41 := itp c37 hvt41
        refine lv_aload_n hx hb dX6_readLine_194 rfl (lv_at jl 0 rfl) ?_
        refine va_get (D := D) (ci := 6) (v := .int t36.2.2.2.2.2.2.1) (C := RX6) (T := TX6) (N := 34) hx hb hts in6 hown jK.1 jP 0 rfl rfl 7 (by decide) (hts _ w_219) (fun _ h9 => h9) rfl dX6_readLine_195 ?_
        refine lv_iconst (v := (3 : Int32)) hx hb dX6_readLine_198 (by decide) ?_
        refine lv_icmp_eq (tgt := 207) hx hb dX6_readLine_199 (by decide) (fun c38 => ?_) (fun c38 => ?_)
        · have hvt41 := itp c38 hvt41
          obtain rfl := Option.some.inj hvt41
          exact hJt41 _ _ _ jP jD jS (lv_sub jl [0] rfl)
        · have hvt41 := itn c38 hvt41
          refine lv_aload_n hx hb dX6_readLine_202 rfl (lv_at jl 0 rfl) ?_
          refine lv_iconst (v := (2 : Int32)) hx hb dX6_readLine_203 (by decide) ?_
          obtain ⟨t39, hc40, hvt41⟩ := bd_some hvt41
          refine callW (w1 := (mW cI uM aM M_x1 M_x2 t39.1 t39.2 t36.2.2.2.2.1 t36.2.2.2.2.2.1 t36.2.2.2.2.2.2.1 t36.2.2.2.2.2.2.2.1 M_x12 t36.2.2.2.2.2.2.2.2.1 t36.2.2.2.2.2.2.2.2.2 M_x18 M_x19 M_x20 M_x23 M_x27 M_x29 M_x33 M_g24 M_g25 M_g26 M_g28 M_r0 M_r9 M_r10 M_r11 t36.1 M_r15 t36.2.1 M_r21 M_r22 M_r30 M_r31 M_r32)) (As := [.int (2 : Int32)]) (rest := []) (st1 := []) 0 F (kX6_fails l D cI cB cS uM aM M_x1 M_x2 t36.2.2.1 t36.2.2.2.1 t36.2.2.2.2.1 t36.2.2.2.2.2.1 t36.2.2.2.2.2.2.1 t36.2.2.2.2.2.2.2.1 M_x12 t36.2.2.2.2.2.2.2.2.1 t36.2.2.2.2.2.2.2.2.2 M_x18 M_x19 M_x20 M_x23 M_x27 M_x29 M_x33 M_g24 M_g25 M_g26 M_g28 M_r0 M_r9 M_r10 M_r11 t36.1 M_r15 t36.2.1 M_r21 M_r22 M_r30 M_r31 M_r32 (2 : Int32) _ hc40 ) okX6_fails w_241 (by decide) (by decide) ⟨Nat.zero_le _, Nat.zero_le _⟩ rfl rfl rfl jP jD jS rfl jl.1 rfl rfl (Nat.le_of_ble_eq_true rfl) dX6_readLine_204 (fun H locs jP jD jS => ?_)
          obtain rfl := Option.some.inj hvt41
          exact hJt41 _ _ _ jP jD jS (lv_sub jl [0] rfl)
    clear h
    refine lv_if_ne (tgt := 44) hx hb dX6_readLine_20 (by decide) (fun c2 => ?_) (fun c2 => ?_)
    · have hvt36 := itn c2 hvt36
      refine lv_iload_n hx hb dX6_readLine_44 rfl (lv_at jl 0 rfl) ?_
      refine lv_iconst (v := (3 : Int32)) hx hb dX6_readLine_45 (by decide) ?_
      refine lv_icmp_ge (tgt := 57) hx hb dX6_readLine_46 (by decide) (fun c3 => ?_) (fun c3 => ?_)
      · have hvt36 := itp c3 hvt36
        refine lv_aload_n hx hb dX6_readLine_57 rfl (lv_at jl 1 rfl) ?_
        refine va_get (D := D) (ci := 6) (v := .int M_x17) (C := RX6) (T := TX6) (N := 34) hx hb hts in6 hown jK.1 jP 0 rfl rfl 17 (by decide) (hts _ w_217) (fun _ h9 => h9) rfl dX6_readLine_58 ?_
        refine lv_iload_n hx hb dX6_readLine_61 rfl (lv_at jl 0 rfl) ?_
        refine lv_ishr hx hb dX6_readLine_62 ?_
        refine lv_iconst (v := (1 : Int32)) hx hb dX6_readLine_63 (by decide) ?_
        refine lv_iand hx hb dX6_readLine_64 ?_
        refine lv_iconst (v := (1 : Int32)) hx hb dX6_readLine_65 (by decide) ?_
        obtain ⟨t7, hvt7, hvt36⟩ := bd_some hvt36
        have hJt7 : ∀ (H : Heap) (locs : List Loc) (ls : Array Slot), va_P D vwCl (mW cI uM aM M_x1 M_x2 t7.1 t7.2 M_x5 M_x6 M_x7 M_x8 M_x12 M_x14 M_x17 M_x18 M_x19 M_x20 M_x23 M_x27 M_x29 M_x33 M_g24 M_g25 M_g26 M_g28 M_r0 M_r9 M_r10 M_r11 M_r13 M_r15 M_r16 M_r21 M_r22 M_r30 M_r31 M_r32) H → va_D A (mW cI uM aM M_x1 M_x2 t7.1 t7.2 M_x5 M_x6 M_x7 M_x8 M_x12 M_x14 M_x17 M_x18 M_x19 M_x20 M_x23 M_x27 M_x29 M_x33 M_g24 M_g25 M_g26 M_g28 M_r0 M_r9 M_r10 M_r11 M_r13 M_r15 M_r16 M_r21 M_r22 M_r30 M_r31 M_r32) → va_S A s.heap H locs → lv_has ls 3 [(0, .ref uM), (1, .int M_x8)] → W p l e R s m ar below meth c H locs 0 0 QQ (F0 m 74 ls []) := by
          clear jP jD jS jl
          intro H locs ls jP jD jS jl
          refine lv_aload_n hx hb dX6_readLine_74 rfl (lv_at jl 0 rfl) ?_
          refine lv_dup hx hb dX6_readLine_75 rfl ?_
          refine va_get (D := D) (ci := 6) (v := .int M_x17) (C := RX6) (T := TX6) (N := 34) hx hb hts in6 hown jK.1 jP 0 rfl rfl 17 (by decide) (hts _ w_217) (fun _ h9 => h9) rfl dX6_readLine_76 ?_
          refine lv_iconst (v := (1 : Int32)) hx hb dX6_readLine_79 (by decide) ?_
          refine lv_iload_n hx hb dX6_readLine_80 rfl (lv_at jl 1 rfl) ?_
          refine lv_ishl hx hb dX6_readLine_81 ?_
          refine lv_ior hx hb dX6_readLine_82 ?_
          refine va_put (D := D) (ci := 6) (v := .int (M_x17 ||| ((1 : Int32) <<< (M_x8 &&& 31)))) (ty := .int) (C := RX6) (T := TX6) (N := 34) hx hb hts in6 tyX6 tyX6_ok nmX6 hown jK.1 jP jD jS 0 rfl rfl 17 (by decide) (hts _ w_217) (fun _ h9 => h9) rfl (by decide +kernel) rfl rfl (Nat.le_of_ble_eq_true rfl) dX6_readLine_83 (fun H locs jP jD jS => ?_)
          have jP : va_P D vwCl (mW cI uM aM M_x1 M_x2 t7.1 t7.2 M_x5 M_x6 M_x7 M_x8 M_x12 M_x14 (M_x17 ||| ((1 : Int32) <<< (M_x8 &&& 31))) M_x18 M_x19 M_x20 M_x23 M_x27 M_x29 M_x33 M_g24 M_g25 M_g26 M_g28 M_r0 M_r9 M_r10 M_r11 M_r13 M_r15 M_r16 M_r21 M_r22 M_r30 M_r31 M_r32) H := jP
          have jD : va_D A (mW cI uM aM M_x1 M_x2 t7.1 t7.2 M_x5 M_x6 M_x7 M_x8 M_x12 M_x14 (M_x17 ||| ((1 : Int32) <<< (M_x8 &&& 31))) M_x18 M_x19 M_x20 M_x23 M_x27 M_x29 M_x33 M_g24 M_g25 M_g26 M_g28 M_r0 M_r9 M_r10 M_r11 M_r13 M_r15 M_r16 M_r21 M_r22 M_r30 M_r31 M_r32) := jD
          refine lv_aload_n hx hb dX6_readLine_86 rfl (lv_at jl 0 rfl) ?_
          obtain ⟨t8, hc9, hvt36⟩ := bd_some hvt36
          refine callW (w1 := (mW cI uM aM M_x1 M_x2 t8.1 t8.2.1 t8.2.2.1 t8.2.2.2.1 t8.2.2.2.2.1 t8.2.2.2.2.2 M_x12 M_x14 (M_x17 ||| ((1 : Int32) <<< (M_x8 &&& 31))) M_x18 M_x19 M_x20 M_x23 M_x27 M_x29 M_x33 M_g24 M_g25 M_g26 M_g28 M_r0 M_r9 M_r10 M_r11 M_r13 M_r15 M_r16 M_r21 M_r22 M_r30 M_r31 M_r32)) (As := []) (rest := []) (st1 := []) 0 F (kX6_next l D cI cB cS uM aM M_x1 M_x2 t7.1 t7.2 M_x5 M_x6 M_x7 M_x8 M_x12 M_x14 (M_x17 ||| ((1 : Int32) <<< (M_x8 &&& 31))) M_x18 M_x19 M_x20 M_x23 M_x27 M_x29 M_x33 M_g24 M_g25 M_g26 M_g28 M_r0 M_r9 M_r10 M_r11 M_r13 M_r15 M_r16 M_r21 M_r22 M_r30 M_r31 M_r32  _ hc9 ) okX6_next w_223 (by decide) (by decide) ⟨Nat.zero_le _, Nat.zero_le _⟩ rfl rfl rfl jP jD jS rfl jl.1 rfl rfl (Nat.le_of_ble_eq_true rfl) dX6_readLine_87 (fun H locs jP jD jS => ?_)
          refine lv_aload_n hx hb dX6_readLine_90 rfl (lv_at jl 0 rfl) ?_
          refine lv_iload_n hx hb dX6_readLine_91 rfl (lv_at jl 1 rfl) ?_
          refine lv_iconst (v := (4 : Int32)) hx hb dX6_readLine_92 (by decide) ?_
          obtain ⟨t12, hvt12, hvt36⟩ := bd_some hvt36
          have hJt12 : ∀ (H : Heap) (locs : List Loc) (ls : Array Slot), va_P D vwCl (mW cI uM aM M_x1 M_x2 t8.1 t8.2.1 t8.2.2.1 t8.2.2.2.1 t8.2.2.2.2.1 t8.2.2.2.2.2 M_x12 M_x14 (M_x17 ||| ((1 : Int32) <<< (M_x8 &&& 31))) M_x18 M_x19 M_x20 M_x23 M_x27 M_x29 M_x33 M_g24 M_g25 M_g26 M_g28 M_r0 M_r9 M_r10 M_r11 M_r13 M_r15 M_r16 M_r21 M_r22 M_r30 M_r31 M_r32) H → va_D A (mW cI uM aM M_x1 M_x2 t8.1 t8.2.1 t8.2.2.1 t8.2.2.2.1 t8.2.2.2.2.1 t8.2.2.2.2.2 M_x12 M_x14 (M_x17 ||| ((1 : Int32) <<< (M_x8 &&& 31))) M_x18 M_x19 M_x20 M_x23 M_x27 M_x29 M_x33 M_g24 M_g25 M_g26 M_g28 M_r0 M_r9 M_r10 M_r11 M_r13 M_r15 M_r16 M_r21 M_r22 M_r30 M_r31 M_r32) → va_S A s.heap H locs → lv_has ls 3 [(0, .ref uM), (1, .int M_x8)] → W p l e R s m ar below meth c H locs 0 0 QQ (F0 m 110 ls [.int t12, .ref uM]) := by
            clear jP jD jS jl
            intro H locs ls jP jD jS jl
            refine lv_iload_n hx hb dX6_readLine_110 rfl (lv_at jl 1 rfl) ?_
            refine lv_iconst (v := (4 : Int32)) hx hb dX6_readLine_111 (by decide) ?_
            obtain ⟨t15, hvt15, hvt36⟩ := bd_some hvt36
            have hJt15 : ∀ (H : Heap) (locs : List Loc) (ls : Array Slot), va_P D vwCl (mW cI uM aM M_x1 M_x2 t8.1 t8.2.1 t8.2.2.1 t8.2.2.2.1 t8.2.2.2.2.1 t8.2.2.2.2.2 M_x12 M_x14 (M_x17 ||| ((1 : Int32) <<< (M_x8 &&& 31))) M_x18 M_x19 M_x20 M_x23 M_x27 M_x29 M_x33 M_g24 M_g25 M_g26 M_g28 M_r0 M_r9 M_r10 M_r11 M_r13 M_r15 M_r16 M_r21 M_r22 M_r30 M_r31 M_r32) H → va_D A (mW cI uM aM M_x1 M_x2 t8.1 t8.2.1 t8.2.2.1 t8.2.2.2.1 t8.2.2.2.2.1 t8.2.2.2.2.2 M_x12 M_x14 (M_x17 ||| ((1 : Int32) <<< (M_x8 &&& 31))) M_x18 M_x19 M_x20 M_x23 M_x27 M_x29 M_x33 M_g24 M_g25 M_g26 M_g28 M_r0 M_r9 M_r10 M_r11 M_r13 M_r15 M_r16 M_r21 M_r22 M_r30 M_r31 M_r32) → va_S A s.heap H locs → lv_has ls 3 [(0, .ref uM), (1, .int M_x8)] → W p l e R s m ar below meth c H locs 0 0 QQ (F0 m 132 ls [.int t15, .int t12, .ref uM]) := by
              clear jP jD jS jl
              intro H locs ls jP jD jS jl
              obtain ⟨t16, hc17, hvt36⟩ := bd_some hvt36
              refine callW (w1 := (mW cI uM aM M_x1 M_x2 t16.2.1 t16.2.2 t8.2.2.1 t8.2.2.2.1 t8.2.2.2.2.1 t8.2.2.2.2.2 M_x12 M_x14 (M_x17 ||| ((1 : Int32) <<< (M_x8 &&& 31))) M_x18 M_x19 M_x20 M_x23 M_x27 M_x29 M_x33 M_g24 M_g25 M_g26 M_g28 M_r0 M_r9 M_r10 M_r11 M_r13 M_r15 M_r16 M_r21 M_r22 M_r30 M_r31 M_r32)) (As := [.int t12, .int t15]) (rest := []) (st1 := [.int t16.1]) 0 F (kX6_number l D cI cB cS uM aM M_x1 M_x2 t8.1 t8.2.1 t8.2.2.1 t8.2.2.2.1 t8.2.2.2.2.1 t8.2.2.2.2.2 M_x12 M_x14 (M_x17 ||| ((1 : Int32) <<< (M_x8 &&& 31))) M_x18 M_x19 M_x20 M_x23 M_x27 M_x29 M_x33 M_g24 M_g25 M_g26 M_g28 M_r0 M_r9 M_r10 M_r11 M_r13 M_r15 M_r16 M_r21 M_r22 M_r30 M_r31 M_r32 t12 t15 _ hc17 ) okX6_number w_253 (by decide) (by decide) ⟨Nat.zero_le _, Nat.zero_le _⟩ rfl rfl rfl jP jD jS rfl jl.1 rfl rfl (Nat.le_of_ble_eq_true rfl) dX6_readLine_132 (fun H locs jP jD jS => ?_)
              refine lv_istore_n (lv' := [(2, .int t16.1), (0, .ref uM), (1, .int M_x8)]) hx hb dX6_readLine_135 rfl jl (by decide) rfl (fun ls jl => ?_)
              refine lv_aload_n hx hb dX6_readLine_136 rfl (lv_at jl 1 rfl) ?_
              obtain ⟨t18, hc19, hvt36⟩ := bd_some hvt36
              refine callW (w1 := (mW cI uM aM M_x1 M_x2 t18.1 t18.2.1 t18.2.2.1 t18.2.2.2.1 t18.2.2.2.2.1 t18.2.2.2.2.2 M_x12 M_x14 (M_x17 ||| ((1 : Int32) <<< (M_x8 &&& 31))) M_x18 M_x19 M_x20 M_x23 M_x27 M_x29 M_x33 M_g24 M_g25 M_g26 M_g28 M_r0 M_r9 M_r10 M_r11 M_r13 M_r15 M_r16 M_r21 M_r22 M_r30 M_r31 M_r32)) (As := []) (rest := []) (st1 := []) 0 F (kX6_next l D cI cB cS uM aM M_x1 M_x2 t16.2.1 t16.2.2 t8.2.2.1 t8.2.2.2.1 t8.2.2.2.2.1 t8.2.2.2.2.2 M_x12 M_x14 (M_x17 ||| ((1 : Int32) <<< (M_x8 &&& 31))) M_x18 M_x19 M_x20 M_x23 M_x27 M_x29 M_x33 M_g24 M_g25 M_g26 M_g28 M_r0 M_r9 M_r10 M_r11 M_r13 M_r15 M_r16 M_r21 M_r22 M_r30 M_r31 M_r32  _ hc19 ) okX6_next w_223 (by decide) (by decide) ⟨Nat.zero_le _, Nat.zero_le _⟩ rfl rfl rfl jP jD jS rfl jl.1 rfl rfl (Nat.le_of_ble_eq_true rfl) dX6_readLine_137 (fun H locs jP jD jS => ?_)
              refine lv_aload_n hx hb dX6_readLine_140 rfl (lv_at jl 1 rfl) ?_
              refine va_get (D := D) (ci := 6) (v := .ref (aM 16)) (C := RX6) (T := TX6) (N := 34) hx hb hts in6 hown jK.1 jP 0 rfl rfl 16 (by decide) (hts _ w_83) (fun _ h9 => h9) rfl dX6_readLine_141 ?_
              refine lv_iload_n hx hb dX6_readLine_144 rfl (lv_at jl 2 rfl) ?_
              refine lv_iconst (v := (3 : Int32)) hx hb dX6_readLine_145 (by decide) ?_
              obtain ⟨t22, hvt22, hvt36⟩ := bd_some hvt36
              have hJt22 : ∀ (H : Heap) (locs : List Loc) (ls : Array Slot), va_P D vwCl (mW cI uM aM M_x1 M_x2 t18.1 t18.2.1 t18.2.2.1 t18.2.2.2.1 t18.2.2.2.2.1 t18.2.2.2.2.2 M_x12 M_x14 (M_x17 ||| ((1 : Int32) <<< (M_x8 &&& 31))) M_x18 M_x19 M_x20 M_x23 M_x27 M_x29 M_x33 M_g24 M_g25 M_g26 M_g28 M_r0 M_r9 M_r10 M_r11 M_r13 M_r15 M_r16 M_r21 M_r22 M_r30 M_r31 M_r32) H → va_D A (mW cI uM aM M_x1 M_x2 t18.1 t18.2.1 t18.2.2.1 t18.2.2.2.1 t18.2.2.2.2.1 t18.2.2.2.2.2 M_x12 M_x14 (M_x17 ||| ((1 : Int32) <<< (M_x8 &&& 31))) M_x18 M_x19 M_x20 M_x23 M_x27 M_x29 M_x33 M_g24 M_g25 M_g26 M_g28 M_r0 M_r9 M_r10 M_r11 M_r13 M_r15 M_r16 M_r21 M_r22 M_r30 M_r31 M_r32) → va_S A s.heap H locs → lv_has ls 3 [(0, .ref uM), (1, .int M_x8), (2, .int t16.1)] → W p l e R s m ar below meth c H locs 0 0 QQ (F0 m 163 ls [.int t22, .ref (aM 16)]) := by
                clear jP jD jS jl
                intro H locs ls jP jD jS jl
                refine lv_iload_n hx hb dX6_readLine_163 rfl (lv_at jl 2 rfl) ?_
                obtain ⟨hin, hvt36⟩ := ckI_some hvt36
                refine va_iast (f := M_r16) hx hb jK.1 jP jD jS 7 0 rfl rfl hin dX6_readLine_164 (fun H locs jP jD jS => ?_)
                have jP : va_P D vwCl (mW cI uM aM M_x1 M_x2 t18.1 t18.2.1 t18.2.2.1 t18.2.2.2.1 t18.2.2.2.2.1 t18.2.2.2.2.2 M_x12 M_x14 (M_x17 ||| ((1 : Int32) <<< (M_x8 &&& 31))) M_x18 M_x19 M_x20 M_x23 M_x27 M_x29 M_x33 M_g24 M_g25 M_g26 M_g28 M_r0 M_r9 M_r10 M_r11 M_r13 M_r15 (upd M_r16 t22.toNatClampNeg t16.1) M_r21 M_r22 M_r30 M_r31 M_r32) H := jP
                have jD : va_D A (mW cI uM aM M_x1 M_x2 t18.1 t18.2.1 t18.2.2.1 t18.2.2.2.1 t18.2.2.2.2.1 t18.2.2.2.2.2 M_x12 M_x14 (M_x17 ||| ((1 : Int32) <<< (M_x8 &&& 31))) M_x18 M_x19 M_x20 M_x23 M_x27 M_x29 M_x33 M_g24 M_g25 M_g26 M_g28 M_r0 M_r9 M_r10 M_r11 M_r13 M_r15 (upd M_r16 t22.toNatClampNeg t16.1) M_r21 M_r22 M_r30 M_r31 M_r32) := jD
                refine lv_iload_n hx hb dX6_readLine_165 rfl (lv_at jl 1 rfl) ?_
                refine lv_iconst (v := (4 : Int32)) hx hb dX6_readLine_166 (by decide) ?_
                refine lv_icmp_ne (tgt := 187) hx hb dX6_readLine_167 (by decide) (fun c23 => ?_) (fun c23 => ?_)
                · have hvt36 := itn c23 hvt36
                  obtain rfl := Option.some.inj hvt36
                  exact hJt36 _ _ _ jP jD jS (lv_sub jl [0] rfl)
                · have hvt36 := itp c23 hvt36
                  refine lv_aload_n hx hb dX6_readLine_170 rfl (lv_at jl 0 rfl) ?_
                  refine va_get (D := D) (ci := 6) (v := .ref (aM 16)) (C := RX6) (T := TX6) (N := 34) hx hb hts in6 hown jK.1 jP 0 rfl rfl 16 (by decide) (hts _ w_83) (fun _ h9 => h9) rfl dX6_readLine_171 ?_
                  refine lv_iconst (v := (2 : Int32)) hx hb dX6_readLine_174 (by decide) ?_
                  refine lv_aload_n hx hb dX6_readLine_175 rfl (lv_at jl 0 rfl) ?_
                  refine lv_iconst (v := (0 : Int32)) hx hb dX6_readLine_176 (by decide) ?_
                  refine lv_bipush (v := (20 : Int32)) hx hb dX6_readLine_177 (by decide) ?_
                  obtain ⟨t24, hc25, hvt36⟩ := bd_some hvt36
                  refine callW (w1 := (mW cI uM aM M_x1 M_x2 t24.2.1 t24.2.2 t18.2.2.1 t18.2.2.2.1 t18.2.2.2.2.1 t18.2.2.2.2.2 M_x12 M_x14 (M_x17 ||| ((1 : Int32) <<< (M_x8 &&& 31))) M_x18 M_x19 M_x20 M_x23 M_x27 M_x29 M_x33 M_g24 M_g25 M_g26 M_g28 M_r0 M_r9 M_r10 M_r11 M_r13 M_r15 (upd M_r16 t22.toNatClampNeg t16.1) M_r21 M_r22 M_r30 M_r31 M_r32)) (As := [.int (0 : Int32), .int (20 : Int32)]) (rest := [.int (2 : Int32), .ref (aM 16)]) (st1 := [.int t24.1, .int (2 : Int32), .ref (aM 16)]) 0 F (kX6_number l D cI cB cS uM aM M_x1 M_x2 t18.1 t18.2.1 t18.2.2.1 t18.2.2.2.1 t18.2.2.2.2.1 t18.2.2.2.2.2 M_x12 M_x14 (M_x17 ||| ((1 : Int32) <<< (M_x8 &&& 31))) M_x18 M_x19 M_x20 M_x23 M_x27 M_x29 M_x33 M_g24 M_g25 M_g26 M_g28 M_r0 M_r9 M_r10 M_r11 M_r13 M_r15 (upd M_r16 t22.toNatClampNeg t16.1) M_r21 M_r22 M_r30 M_r31 M_r32 (0 : Int32) (20 : Int32) _ hc25 ) okX6_number w_253 (by decide) (by decide) ⟨Nat.zero_le _, Nat.zero_le _⟩ rfl rfl rfl jP jD jS rfl jl.1 rfl rfl (Nat.le_of_ble_eq_true rfl) dX6_readLine_179 (fun H locs jP jD jS => ?_)
                  refine va_iast (f := (upd M_r16 t22.toNatClampNeg t16.1)) hx hb jK.1 jP jD jS 7 0 rfl rfl (by unfold vp_in; decide) dX6_readLine_182 (fun H locs jP jD jS => ?_)
                  have jP : va_P D vwCl (mW cI uM aM M_x1 M_x2 t24.2.1 t24.2.2 t18.2.2.1 t18.2.2.2.1 t18.2.2.2.2.1 t18.2.2.2.2.2 M_x12 M_x14 (M_x17 ||| ((1 : Int32) <<< (M_x8 &&& 31))) M_x18 M_x19 M_x20 M_x23 M_x27 M_x29 M_x33 M_g24 M_g25 M_g26 M_g28 M_r0 M_r9 M_r10 M_r11 M_r13 M_r15 (upd (upd M_r16 t22.toNatClampNeg t16.1) (2 : Int32).toNatClampNeg t24.1) M_r21 M_r22 M_r30 M_r31 M_r32) H := jP
                  have jD : va_D A (mW cI uM aM M_x1 M_x2 t24.2.1 t24.2.2 t18.2.2.1 t18.2.2.2.1 t18.2.2.2.2.1 t18.2.2.2.2.2 M_x12 M_x14 (M_x17 ||| ((1 : Int32) <<< (M_x8 &&& 31))) M_x18 M_x19 M_x20 M_x23 M_x27 M_x29 M_x33 M_g24 M_g25 M_g26 M_g28 M_r0 M_r9 M_r10 M_r11 M_r13 M_r15 (upd (upd M_r16 t22.toNatClampNeg t16.1) (2 : Int32).toNatClampNeg t24.1) M_r21 M_r22 M_r30 M_r31 M_r32) := jD
                  refine lv_aload_n hx hb dX6_readLine_183 rfl (lv_at jl 0 rfl) ?_
                  obtain ⟨t26, hc27, hvt36⟩ := bd_some hvt36
                  refine callW (w1 := (mW cI uM aM M_x1 M_x2 t26.1 t26.2.1 t26.2.2.1 t26.2.2.2.1 t26.2.2.2.2.1 t26.2.2.2.2.2 M_x12 M_x14 (M_x17 ||| ((1 : Int32) <<< (M_x8 &&& 31))) M_x18 M_x19 M_x20 M_x23 M_x27 M_x29 M_x33 M_g24 M_g25 M_g26 M_g28 M_r0 M_r9 M_r10 M_r11 M_r13 M_r15 (upd (upd M_r16 t22.toNatClampNeg t16.1) (2 : Int32).toNatClampNeg t24.1) M_r21 M_r22 M_r30 M_r31 M_r32)) (As := []) (rest := []) (st1 := []) 0 F (kX6_next l D cI cB cS uM aM M_x1 M_x2 t24.2.1 t24.2.2 t18.2.2.1 t18.2.2.2.1 t18.2.2.2.2.1 t18.2.2.2.2.2 M_x12 M_x14 (M_x17 ||| ((1 : Int32) <<< (M_x8 &&& 31))) M_x18 M_x19 M_x20 M_x23 M_x27 M_x29 M_x33 M_g24 M_g25 M_g26 M_g28 M_r0 M_r9 M_r10 M_r11 M_r13 M_r15 (upd (upd M_r16 t22.toNatClampNeg t16.1) (2 : Int32).toNatClampNeg t24.1) M_r21 M_r22 M_r30 M_r31 M_r32  _ hc27 ) okX6_next w_223 (by decide) (by decide) ⟨Nat.zero_le _, Nat.zero_le _⟩ rfl rfl rfl jP jD jS rfl jl.1 rfl rfl (Nat.le_of_ble_eq_true rfl) dX6_readLine_184 (fun H locs jP jD jS => ?_)
                  obtain rfl := Option.some.inj hvt36
                  exact hJt36 _ _ _ jP jD jS (lv_sub jl [0] rfl)
              clear hvt36
              refine lv_icmp_ne (tgt := 153) hx hb dX6_readLine_146 (by decide) (fun c20 => ?_) (fun c20 => ?_)
              · have hvt22 := itn c20 hvt22
                refine lv_iload_n hx hb dX6_readLine_153 rfl (lv_at jl 2 rfl) ?_
                refine lv_iconst (v := (4 : Int32)) hx hb dX6_readLine_154 (by decide) ?_
                refine lv_icmp_ne (tgt := 162) hx hb dX6_readLine_155 (by decide) (fun c21 => ?_) (fun c21 => ?_)
                · have hvt22 := itn c21 hvt22
                  refine lv_iconst (v := (3 : Int32)) hx hb dX6_readLine_162 (by decide) ?_
                  obtain rfl := Option.some.inj hvt22
                  exact hJt22 _ _ _ jP jD jS (lv_sub jl [1, 2, 0] rfl)
                · have hvt22 := itp c21 hvt22
                  refine lv_iconst (v := (1 : Int32)) hx hb dX6_readLine_158 (by decide) ?_
                  refine lv_goto (tgt := 163) hx hb dX6_readLine_159 (by decide) ?_
                  obtain rfl := Option.some.inj hvt22
                  exact hJt22 _ _ _ jP jD jS (lv_sub jl [1, 2, 0] rfl)
              · have hvt22 := itp c20 hvt22
                refine lv_iconst (v := (0 : Int32)) hx hb dX6_readLine_149 (by decide) ?_
                refine lv_goto (tgt := 163) hx hb dX6_readLine_150 (by decide) ?_
                obtain rfl := Option.some.inj hvt22
                exact hJt22 _ _ _ jP jD jS (lv_sub jl [1, 2, 0] rfl)
            clear hvt36
            refine lv_icmp_ne (tgt := 120) hx hb dX6_readLine_112 (by decide) (fun c13 => ?_) (fun c13 => ?_)
            · have hvt15 := itn c13 hvt15
              refine lv_iload_n hx hb dX6_readLine_120 rfl (lv_at jl 1 rfl) ?_
              refine lv_iconst (v := (3 : Int32)) hx hb dX6_readLine_121 (by decide) ?_
              refine lv_icmp_ne (tgt := 130) hx hb dX6_readLine_122 (by decide) (fun c14 => ?_) (fun c14 => ?_)
              · have hvt15 := itn c14 hvt15
                refine lv_bipush (v := (10 : Int32)) hx hb dX6_readLine_130 (by decide) ?_
                obtain rfl := Option.some.inj hvt15
                exact hJt15 _ _ _ jP jD jS (lv_sub jl [0, 1] rfl)
              · have hvt15 := itp c14 hvt15
                refine lv_bipush (v := (99 : Int32)) hx hb dX6_readLine_125 (by decide) ?_
                refine lv_goto (tgt := 132) hx hb dX6_readLine_127 (by decide) ?_
                obtain rfl := Option.some.inj hvt15
                exact hJt15 _ _ _ jP jD jS (lv_sub jl [0, 1] rfl)
            · have hvt15 := itp c13 hvt15
              refine lv_bipush (v := (8 : Int32)) hx hb dX6_readLine_115 (by decide) ?_
              refine lv_goto (tgt := 132) hx hb dX6_readLine_117 (by decide) ?_
              obtain rfl := Option.some.inj hvt15
              exact hJt15 _ _ _ jP jD jS (lv_sub jl [0, 1] rfl)
          clear hvt36
          refine lv_icmp_ne (tgt := 100) hx hb dX6_readLine_93 (by decide) (fun c10 => ?_) (fun c10 => ?_)
          · have hvt12 := itn c10 hvt12
            refine lv_iload_n hx hb dX6_readLine_100 rfl (lv_at jl 1 rfl) ?_
            refine lv_iconst (v := (3 : Int32)) hx hb dX6_readLine_101 (by decide) ?_
            refine lv_icmp_ne (tgt := 109) hx hb dX6_readLine_102 (by decide) (fun c11 => ?_) (fun c11 => ?_)
            · have hvt12 := itn c11 hvt12
              refine lv_iconst (v := (1 : Int32)) hx hb dX6_readLine_109 (by decide) ?_
              obtain rfl := Option.some.inj hvt12
              exact hJt12 _ _ _ jP jD jS (lv_sub jl [0, 1] rfl)
            · have hvt12 := itp c11 hvt12
              refine lv_iconst (v := (0 : Int32)) hx hb dX6_readLine_105 (by decide) ?_
              refine lv_goto (tgt := 110) hx hb dX6_readLine_106 (by decide) ?_
              obtain rfl := Option.some.inj hvt12
              exact hJt12 _ _ _ jP jD jS (lv_sub jl [0, 1] rfl)
          · have hvt12 := itp c10 hvt12
            refine lv_iconst (v := (4 : Int32)) hx hb dX6_readLine_96 (by decide) ?_
            refine lv_goto (tgt := 110) hx hb dX6_readLine_97 (by decide) ?_
            obtain rfl := Option.some.inj hvt12
            exact hJt12 _ _ _ jP jD jS (lv_sub jl [0, 1] rfl)
        clear hvt36
        refine lv_icmp_ne (tgt := 74) hx hb dX6_readLine_66 (by decide) (fun c4 => ?_) (fun c4 => ?_)
        · have hvt7 := itn c4 hvt7
          obtain rfl := Option.some.inj hvt7
          exact hJt7 _ _ _ jP jD jS (lv_sub jl [1, 0] rfl)
        · have hvt7 := itp c4 hvt7
          refine lv_aload_n hx hb dX6_readLine_69 rfl (lv_at jl 1 rfl) ?_
          refine lv_iconst (v := (4 : Int32)) hx hb dX6_readLine_70 (by decide) ?_
          obtain ⟨t5, hc6, hvt7⟩ := bd_some hvt7
          refine callW (w1 := (mW cI uM aM M_x1 M_x2 t5.1 t5.2 M_x5 M_x6 M_x7 M_x8 M_x12 M_x14 M_x17 M_x18 M_x19 M_x20 M_x23 M_x27 M_x29 M_x33 M_g24 M_g25 M_g26 M_g28 M_r0 M_r9 M_r10 M_r11 M_r13 M_r15 M_r16 M_r21 M_r22 M_r30 M_r31 M_r32)) (As := [.int (4 : Int32)]) (rest := []) (st1 := []) 0 F (kX6_fails l D cI cB cS uM aM M_x1 M_x2 M_x3 M_x4 M_x5 M_x6 M_x7 M_x8 M_x12 M_x14 M_x17 M_x18 M_x19 M_x20 M_x23 M_x27 M_x29 M_x33 M_g24 M_g25 M_g26 M_g28 M_r0 M_r9 M_r10 M_r11 M_r13 M_r15 M_r16 M_r21 M_r22 M_r30 M_r31 M_r32 (4 : Int32) _ hc6 ) okX6_fails w_241 (by decide) (by decide) ⟨Nat.zero_le _, Nat.zero_le _⟩ rfl rfl rfl jP jD jS rfl jl.1 rfl rfl (Nat.le_of_ble_eq_true rfl) dX6_readLine_71 (fun H locs jP jD jS => ?_)
          obtain rfl := Option.some.inj hvt7
          exact hJt7 _ _ _ jP jD jS (lv_sub jl [1, 0] rfl)
      · have hvt36 := itn c3 hvt36
        refine lv_aload_n hx hb dX6_readLine_49 rfl (lv_at jl 1 rfl) ?_
        refine lv_iload_n hx hb dX6_readLine_50 rfl (lv_at jl 0 rfl) ?_
        obtain ⟨t28, hc29, hvt36⟩ := bd_some hvt36
        refine callW (w1 := (mW cI uM aM M_x1 M_x2 t28.2.1 t28.2.2.1 t28.2.2.2.1 t28.2.2.2.2.1 t28.2.2.2.2.2.1 t28.2.2.2.2.2.2.1 M_x12 M_x14 t28.2.2.2.2.2.2.2 M_x18 M_x19 M_x20 M_x23 M_x27 M_x29 M_x33 M_g24 M_g25 M_g26 M_g28 M_r0 M_r9 M_r10 M_r11 t28.1 M_r15 M_r16 M_r21 M_r22 M_r30 M_r31 M_r32)) (As := [.int M_x8]) (rest := []) (st1 := []) 0 F (kX6_readOf l D cI cB cS uM aM M_x1 M_x2 M_x3 M_x4 M_x5 M_x6 M_x7 M_x8 M_x12 M_x14 M_x17 M_x18 M_x19 M_x20 M_x23 M_x27 M_x29 M_x33 M_g24 M_g25 M_g26 M_g28 M_r0 M_r9 M_r10 M_r11 M_r13 M_r15 M_r16 M_r21 M_r22 M_r30 M_r31 M_r32 M_x8 _ hc29 ) okX6_readOf w_260 (by decide) (by decide) ⟨Nat.zero_le _, Nat.zero_le _⟩ rfl rfl rfl jP jD jS rfl jl.1 rfl rfl (Nat.le_of_ble_eq_true rfl) dX6_readLine_51 (fun H locs jP jD jS => ?_)
        refine lv_goto (tgt := 187) hx hb dX6_readLine_54 (by decide) ?_
        obtain rfl := Option.some.inj hvt36
        exact hJt36 _ _ _ jP jD jS (lv_sub jl [1] rfl)
    · have hvt36 := itp c2 hvt36
      refine lv_aload_n hx hb dX6_readLine_23 rfl (lv_at jl 1 rfl) ?_
      refine va_get (D := D) (ci := 6) (v := .int M_x14) (C := RX6) (T := TX6) (N := 34) hx hb hts in6 hown jK.1 jP 0 rfl rfl 14 (by decide) (hts _ w_218) (fun _ h9 => h9) rfl dX6_readLine_24 ?_
      refine lv_bipush (v := (8 : Int32)) hx hb dX6_readLine_27 (by decide) ?_
      obtain ⟨t33, hvt33, hvt36⟩ := bd_some hvt36
      have hJt33 : ∀ (H : Heap) (locs : List Loc) (ls : Array Slot), va_P D vwCl (mW cI uM aM M_x1 M_x2 t33.1 t33.2 M_x5 M_x6 M_x7 M_x8 M_x12 M_x14 M_x17 M_x18 M_x19 M_x20 M_x23 M_x27 M_x29 M_x33 M_g24 M_g25 M_g26 M_g28 M_r0 M_r9 M_r10 M_r11 M_r13 M_r15 M_r16 M_r21 M_r22 M_r30 M_r31 M_r32) H → va_D A (mW cI uM aM M_x1 M_x2 t33.1 t33.2 M_x5 M_x6 M_x7 M_x8 M_x12 M_x14 M_x17 M_x18 M_x19 M_x20 M_x23 M_x27 M_x29 M_x33 M_g24 M_g25 M_g26 M_g28 M_r0 M_r9 M_r10 M_r11 M_r13 M_r15 M_r16 M_r21 M_r22 M_r30 M_r31 M_r32) → va_S A s.heap H locs → lv_has ls 3 [(0, .ref uM)] → W p l e R s m ar below meth c H locs 0 0 QQ (F0 m 37 ls []) := by
        clear jP jD jS jl
        intro H locs ls jP jD jS jl
        refine lv_aload_n hx hb dX6_readLine_37 rfl (lv_at jl 0 rfl) ?_
        obtain ⟨t34, hc35, hvt36⟩ := bd_some hvt36
        refine callW (w1 := (mW cI uM aM M_x1 M_x2 t34.2.1 t34.2.2.1 t34.2.2.2.1 t34.2.2.2.2.1 t34.2.2.2.2.2.1 t34.2.2.2.2.2.2.1 M_x12 t34.2.2.2.2.2.2.2 M_x17 M_x18 M_x19 M_x20 M_x23 M_x27 M_x29 M_x33 M_g24 M_g25 M_g26 M_g28 M_r0 M_r9 M_r10 M_r11 t34.1 M_r15 M_r16 M_r21 M_r22 M_r30 M_r31 M_r32)) (As := []) (rest := []) (st1 := []) 0 F (kX6_readSort l D cI cB cS uM aM M_x1 M_x2 t33.1 t33.2 M_x5 M_x6 M_x7 M_x8 M_x12 M_x14 M_x17 M_x18 M_x19 M_x20 M_x23 M_x27 M_x29 M_x33 M_g24 M_g25 M_g26 M_g28 M_r0 M_r9 M_r10 M_r11 M_r13 M_r15 M_r16 M_r21 M_r22 M_r30 M_r31 M_r32  _ hc35 ) okX6_readSort w_249 (by decide) (by decide) ⟨Nat.zero_le _, Nat.zero_le _⟩ rfl rfl rfl jP jD jS rfl jl.1 rfl rfl (Nat.le_of_ble_eq_true rfl) dX6_readLine_38 (fun H locs jP jD jS => ?_)
        refine lv_goto (tgt := 187) hx hb dX6_readLine_41 (by decide) ?_
        obtain rfl := Option.some.inj hvt36
        exact hJt36 _ _ _ jP jD jS (lv_sub jl [0] rfl)
      clear hvt36
      refine lv_icmp_ne (tgt := 37) hx hb dX6_readLine_29 (by decide) (fun c30 => ?_) (fun c30 => ?_)
      · have hvt33 := itn c30 hvt33
        obtain rfl := Option.some.inj hvt33
        exact hJt33 _ _ _ jP jD jS (lv_sub jl [1] rfl)
      · have hvt33 := itp c30 hvt33
        refine lv_aload_n hx hb dX6_readLine_32 rfl (lv_at jl 1 rfl) ?_
        refine lv_iconst (v := (5 : Int32)) hx hb dX6_readLine_33 (by decide) ?_
        obtain ⟨t31, hc32, hvt33⟩ := bd_some hvt33
        refine callW (w1 := (mW cI uM aM M_x1 M_x2 t31.1 t31.2 M_x5 M_x6 M_x7 M_x8 M_x12 M_x14 M_x17 M_x18 M_x19 M_x20 M_x23 M_x27 M_x29 M_x33 M_g24 M_g25 M_g26 M_g28 M_r0 M_r9 M_r10 M_r11 M_r13 M_r15 M_r16 M_r21 M_r22 M_r30 M_r31 M_r32)) (As := [.int (5 : Int32)]) (rest := []) (st1 := []) 0 F (kX6_fails l D cI cB cS uM aM M_x1 M_x2 M_x3 M_x4 M_x5 M_x6 M_x7 M_x8 M_x12 M_x14 M_x17 M_x18 M_x19 M_x20 M_x23 M_x27 M_x29 M_x33 M_g24 M_g25 M_g26 M_g28 M_r0 M_r9 M_r10 M_r11 M_r13 M_r15 M_r16 M_r21 M_r22 M_r30 M_r31 M_r32 (5 : Int32) _ hc32 ) okX6_fails w_241 (by decide) (by decide) ⟨Nat.zero_le _, Nat.zero_le _⟩ rfl rfl rfl jP jD jS rfl jl.1 rfl rfl (Nat.le_of_ble_eq_true rfl) dX6_readLine_34 (fun H locs jP jD jS => ?_)
        obtain rfl := Option.some.inj hvt33
        exact hJt33 _ _ _ jP jD jS (lv_sub jl [1] rfl)
  · have h := itn c1 h
    refine lv_aload_n hx hb dX6_readLine_8 rfl (lv_at jl 0 rfl) ?_
    refine lv_iconst (v := (2 : Int32)) hx hb dX6_readLine_9 (by decide) ?_
    obtain ⟨t44, hc45, h⟩ := bd_some h
    refine callW (w1 := (mW cI uM aM M_x1 M_x2 t44.1 t44.2 M_x5 M_x6 M_x7 M_x8 M_x12 M_x14 M_x17 M_x18 M_x19 M_x20 M_x23 M_x27 M_x29 M_x33 M_g24 M_g25 M_g26 M_g28 M_r0 M_r9 M_r10 M_r11 M_r13 M_r15 M_r16 M_r21 M_r22 M_r30 M_r31 M_r32)) (As := [.int (2 : Int32)]) (rest := []) (st1 := []) 0 F (kX6_fails l D cI cB cS uM aM M_x1 M_x2 M_x3 M_x4 M_x5 M_x6 M_x7 M_x8 M_x12 M_x14 M_x17 M_x18 M_x19 M_x20 M_x23 M_x27 M_x29 M_x33 M_g24 M_g25 M_g26 M_g28 M_r0 M_r9 M_r10 M_r11 M_r13 M_r15 M_r16 M_r21 M_r22 M_r30 M_r31 M_r32 (2 : Int32) _ hc45 ) okX6_fails w_241 (by decide) (by decide) ⟨Nat.zero_le _, Nat.zero_le _⟩ rfl rfl rfl jP jD jS rfl jl.1 rfl rfl (Nat.le_of_ble_eq_true rfl) dX6_readLine_10 (fun H locs jP jD jS => ?_)
    obtain rfl := Option.some.inj h
    exact hRet _ _ _ _ jP jD jS dX6_readLine_13
theorem okX6_text : okV yX6_text cX6_text 3 (some .int) 0 := ⟨w_212, w_213, w_214, w_5, by decide, by decide, by decide +kernel⟩
def fX6_text_b56 (M_r0 : (Nat → Int32)) (M_r9 : (Nat → Int32)) (M_r10 : (Nat → Int32)) (M_x1 : Int32) (v1 : (Int32 × (Nat → Int32) × (Nat → Int32) × Int32 × Int32 × Int32 × Int32 × Int32 × Int32 × Int32 × Int32)) : Option ((Int32 × (Nat → Int32) × (Nat → Int32) × Int32 × Int32 × Int32 × Int32 × Int32 × Int32 × Int32 × Int32) ⊕ (Int32 × (Nat → Int32) × (Nat → Int32) × Int32 × Int32 × Int32 × Int32 × Int32 × Int32 × Int32 × Int32)) :=
  if v1.2.2.2.1 = (0 : Int32) then (if v1.2.2.2.2.2.2.2.1 = (0 : Int32) then (some (.inr (v1.1, v1.2.1, v1.2.2.1, v1.2.2.2.1, v1.2.2.2.2.1, v1.2.2.2.2.2.1, v1.2.2.2.2.2.2.1, v1.2.2.2.2.2.2.2.1, v1.2.2.2.2.2.2.2.2.1, v1.2.2.2.2.2.2.2.2.2.1, v1.2.2.2.2.2.2.2.2.2.2))) else (bd (fX6_readLine (M_r0) (M_r9) (M_r10) v1.2.1 v1.2.2.1 (M_x1) v1.2.2.2.1 v1.2.2.2.2.1 v1.2.2.2.2.2.1 v1.2.2.2.2.2.2.1 v1.2.2.2.2.2.2.2.1 v1.2.2.2.2.2.2.2.2.1 v1.2.2.2.2.2.2.2.2.2.1 v1.2.2.2.2.2.2.2.2.2.2) (fun t1 => some (.inl ((v1.1 + (1 : Int32)), t1.1, t1.2.1, t1.2.2.1, t1.2.2.2.1, t1.2.2.2.2.1, t1.2.2.2.2.2.1, t1.2.2.2.2.2.2.1, t1.2.2.2.2.2.2.2.1, t1.2.2.2.2.2.2.2.2.1, t1.2.2.2.2.2.2.2.2.2))))) else (some (.inr (v1.1, v1.2.1, v1.2.2.1, v1.2.2.2.1, v1.2.2.2.2.1, v1.2.2.2.2.2.1, v1.2.2.2.2.2.2.1, v1.2.2.2.2.2.2.2.1, v1.2.2.2.2.2.2.2.2.1, v1.2.2.2.2.2.2.2.2.2.1, v1.2.2.2.2.2.2.2.2.2.2)))
def fX6_text_b110 (l1 : Int32) (M_r13 : (Nat → Int32)) (v1 : (Int32 × (Nat → Int32))) : Option ((Int32 × (Nat → Int32)) ⊕ (Nat → Int32)) :=
  if (40 : Int32) ≤ v1.1 then (some (.inr v1.2)) else (ckI v1.1 40 (ckI v1.1 40 (some (.inl ((v1.1 + (1 : Int32)), (upd v1.2 v1.1.toNatClampNeg (M_r13 v1.1.toNatClampNeg)))))))
def fX6_text_b136 (l1 : Int32) (M_r16 : (Nat → Int32)) (v1 : (Int32 × (Nat → Int32))) : Option ((Int32 × (Nat → Int32)) ⊕ (Nat → Int32)) :=
  if (4 : Int32) ≤ v1.1 then (some (.inr v1.2)) else (ckI v1.1 4 (ckI v1.1 4 (some (.inl ((v1.1 + (1 : Int32)), (upd v1.2 v1.1.toNatClampNeg (M_r16 v1.1.toNatClampNeg)))))))
def fX6_text (M_r0 : (Nat → Int32)) (M_r9 : (Nat → Int32)) (M_r10 : (Nat → Int32)) (M_r11 : (Nat → Int32)) (M_r13 : (Nat → Int32)) (M_r15 : (Nat → Int32)) (M_r16 : (Nat → Int32)) (M_x1 : Int32) (M_x4 : Int32) (M_x6 : Int32) (M_x7 : Int32) (M_x8 : Int32) (M_x12 : Int32) : Option (Int32 × (Nat → Int32) × (Nat → Int32) × (Nat → Int32) × (Nat → Int32) × Int32 × Int32 × Int32 × Int32 × Int32 × Int32 × Int32 × Int32 × Int32 × Int32 × Int32) :=
  bd (fX6_next (M_r0) (M_r9) (M_r10) (M_x1) (0 : Int32) (M_x4) (0 : Int32) (M_x6) (M_x7) (M_x8)) (fun t1 => bd (loopF (fX6_text_b56 M_r0 M_r9 M_r10 M_x1) 1000 ((0 : Int32), M_r13, (upd (upd (upd (upd M_r16 (0 : Int32).toNatClampNeg (50 : Int32)) (1 : Int32).toNatClampNeg (6 : Int32)) (2 : Int32).toNatClampNeg (1 : Int32)) (3 : Int32).toNatClampNeg (5 : Int32)), t1.1, t1.2.1, t1.2.2.1, t1.2.2.2.1, t1.2.2.2.2.1, t1.2.2.2.2.2, (0 : Int32), (0 : Int32))) (fun T3 => if T3.2.2.2.1 ≤ (0 : Int32) then (bd (loopF (fX6_text_b110 T3.1 T3.2.1) 1000 ((0 : Int32), M_r11)) (fun T9 => bd (loopF (fX6_text_b136 T3.1 T3.2.2.1) 1000 ((0 : Int32), M_r15)) (fun T11 => some (T3.1, T9, T3.2.1, T11, T3.2.2.1, (0 : Int32), T3.2.2.2.1, T3.2.2.2.1, T3.2.2.2.2.1, T3.2.2.2.2.2.1, T3.2.2.2.2.2.2.1, T3.2.2.2.2.2.2.2.1, T3.2.2.2.2.2.2.2.2.1, T3.2.2.2.2.2.2.2.2.2.1, T3.2.2.2.2.2.2.2.2.2.1, T3.2.2.2.2.2.2.2.2.2.2)))) else (some (((-10 : Int32) - T3.2.2.2.2.1), M_r11, T3.2.1, M_r15, T3.2.2.1, (0 : Int32), T3.2.2.2.1, T3.2.2.2.1, T3.2.2.2.2.1, T3.2.2.2.2.2.1, T3.2.2.2.2.2.2.1, T3.2.2.2.2.2.2.2.1, T3.2.2.2.2.2.2.2.2.1, M_x12, T3.2.2.2.2.2.2.2.2.2.1, T3.2.2.2.2.2.2.2.2.2.2))))
set_option maxRecDepth 100000 in
set_option maxHeartbeats 4000000 in
theorem kX6_text (l : Launch) (D : va_G) (cI cB cS : ClassId) (uM : Nat) (aM : Nat → Nat) (M_x1 : Int32) (M_x2 : Int32) (M_x3 : Int32) (M_x4 : Int32) (M_x5 : Int32) (M_x6 : Int32) (M_x7 : Int32) (M_x8 : Int32) (M_x12 : Int32) (M_x14 : Int32) (M_x17 : Int32) (M_x18 : Int32) (M_x19 : Int32) (M_x20 : Int32) (M_x23 : Int32) (M_x27 : Int32) (M_x29 : Int32) (M_x33 : Int32) (M_g24 : Int64) (M_g25 : Int64) (M_g26 : Int64) (M_g28 : Int64) (M_r0 : (Nat → Int32)) (M_r9 : (Nat → Int32)) (M_r10 : (Nat → Int32)) (M_r11 : (Nat → Int32)) (M_r13 : (Nat → Int32)) (M_r15 : (Nat → Int32)) (M_r16 : (Nat → Int32)) (M_r21 : (Nat → Int32)) (M_r22 : (Nat → Int32)) (M_r30 : (Nat → Int32)) (M_r31 : (Nat → Int32)) (M_r32 : (Nat → Int32)) (z : (Int32 × (Nat → Int32) × (Nat → Int32) × (Nat → Int32) × (Nat → Int32) × Int32 × Int32 × Int32 × Int32 × Int32 × Int32 × Int32 × Int32 × Int32 × Int32 × Int32)) (h : fX6_text M_r0 M_r9 M_r10 M_r11 M_r13 M_r15 M_r16 M_x1 M_x4 M_x6 M_x7 M_x8 M_x12 = some z) : Mt l yX6_text cX6_text 3 (some .int) 5 113 D cI cB cS (mW cI uM aM M_x1 M_x2 M_x3 M_x4 M_x5 M_x6 M_x7 M_x8 M_x12 M_x14 M_x17 M_x18 M_x19 M_x20 M_x23 M_x27 M_x29 M_x33 M_g24 M_g25 M_g26 M_g28 M_r0 M_r9 M_r10 M_r11 M_r13 M_r15 M_r16 M_r21 M_r22 M_r30 M_r31 M_r32) (mW cI uM aM z.2.2.2.2.2.1 z.2.2.2.2.2.2.1 z.2.2.2.2.2.2.2.1 z.2.2.2.2.2.2.2.2.1 z.2.2.2.2.2.2.2.2.2.1 z.2.2.2.2.2.2.2.2.2.2.1 z.2.2.2.2.2.2.2.2.2.2.2.1 z.2.2.2.2.2.2.2.2.2.2.2.2.1 z.2.2.2.2.2.2.2.2.2.2.2.2.2.1 z.2.2.2.2.2.2.2.2.2.2.2.2.2.2.1 z.2.2.2.2.2.2.2.2.2.2.2.2.2.2.2 M_x18 M_x19 M_x20 M_x23 M_x27 M_x29 M_x33 M_g24 M_g25 M_g26 M_g28 M_r0 M_r9 M_r10 z.2.1 z.2.2.1 z.2.2.2.1 z.2.2.2.2.1 M_r21 M_r22 M_r30 M_r31 M_r32) [.ref uM] (some (.int z.1)) := by
  refine entryI (by decide +kernel) rfl (Nat.le_of_ble_eq_true rfl) ?_
  intro p e s m below meth c A ls QQ R ar F hRet jP jD jS jl
  obtain ⟨hx, hb, hml, hown, hts, jK, hA, hf1, hf2⟩ := id F
  have jl : lv_has ls 3 [(0, .ref uM)] := jl
  unfold fX6_text at h
  refine lv_aload_n hx hb dX6_text_0 rfl (lv_at jl 0 rfl) ?_
  refine lv_iconst (v := (0 : Int32)) hx hb dX6_text_1 (by decide) ?_
  refine va_put (D := D) (ci := 6) (v := .int (0 : Int32)) (ty := .int) (C := RX6) (T := TX6) (N := 34) hx hb hts in6 tyX6 tyX6_ok nmX6 hown jK.1 jP jD jS 0 rfl rfl 3 (by decide) (hts _ w_215) (fun _ h9 => h9) rfl (by decide +kernel) rfl rfl (Nat.le_of_ble_eq_true rfl) dX6_text_2 (fun H locs jP jD jS => ?_)
  have jP : va_P D vwCl (mW cI uM aM M_x1 M_x2 (0 : Int32) M_x4 M_x5 M_x6 M_x7 M_x8 M_x12 M_x14 M_x17 M_x18 M_x19 M_x20 M_x23 M_x27 M_x29 M_x33 M_g24 M_g25 M_g26 M_g28 M_r0 M_r9 M_r10 M_r11 M_r13 M_r15 M_r16 M_r21 M_r22 M_r30 M_r31 M_r32) H := jP
  have jD : va_D A (mW cI uM aM M_x1 M_x2 (0 : Int32) M_x4 M_x5 M_x6 M_x7 M_x8 M_x12 M_x14 M_x17 M_x18 M_x19 M_x20 M_x23 M_x27 M_x29 M_x33 M_g24 M_g25 M_g26 M_g28 M_r0 M_r9 M_r10 M_r11 M_r13 M_r15 M_r16 M_r21 M_r22 M_r30 M_r31 M_r32) := jD
  refine lv_aload_n hx hb dX6_text_5 rfl (lv_at jl 0 rfl) ?_
  refine lv_iconst (v := (0 : Int32)) hx hb dX6_text_6 (by decide) ?_
  refine va_put (D := D) (ci := 6) (v := .int (0 : Int32)) (ty := .int) (C := RX6) (T := TX6) (N := 34) hx hb hts in6 tyX6 tyX6_ok nmX6 hown jK.1 jP jD jS 0 rfl rfl 5 (by decide) (hts _ w_216) (fun _ h9 => h9) rfl (by decide +kernel) rfl rfl (Nat.le_of_ble_eq_true rfl) dX6_text_7 (fun H locs jP jD jS => ?_)
  have jP : va_P D vwCl (mW cI uM aM M_x1 M_x2 (0 : Int32) M_x4 (0 : Int32) M_x6 M_x7 M_x8 M_x12 M_x14 M_x17 M_x18 M_x19 M_x20 M_x23 M_x27 M_x29 M_x33 M_g24 M_g25 M_g26 M_g28 M_r0 M_r9 M_r10 M_r11 M_r13 M_r15 M_r16 M_r21 M_r22 M_r30 M_r31 M_r32) H := jP
  have jD : va_D A (mW cI uM aM M_x1 M_x2 (0 : Int32) M_x4 (0 : Int32) M_x6 M_x7 M_x8 M_x12 M_x14 M_x17 M_x18 M_x19 M_x20 M_x23 M_x27 M_x29 M_x33 M_g24 M_g25 M_g26 M_g28 M_r0 M_r9 M_r10 M_r11 M_r13 M_r15 M_r16 M_r21 M_r22 M_r30 M_r31 M_r32) := jD
  refine lv_aload_n hx hb dX6_text_10 rfl (lv_at jl 0 rfl) ?_
  refine lv_iconst (v := (0 : Int32)) hx hb dX6_text_11 (by decide) ?_
  refine va_put (D := D) (ci := 6) (v := .int (0 : Int32)) (ty := .int) (C := RX6) (T := TX6) (N := 34) hx hb hts in6 tyX6 tyX6_ok nmX6 hown jK.1 jP jD jS 0 rfl rfl 17 (by decide) (hts _ w_217) (fun _ h9 => h9) rfl (by decide +kernel) rfl rfl (Nat.le_of_ble_eq_true rfl) dX6_text_12 (fun H locs jP jD jS => ?_)
  have jP : va_P D vwCl (mW cI uM aM M_x1 M_x2 (0 : Int32) M_x4 (0 : Int32) M_x6 M_x7 M_x8 M_x12 M_x14 (0 : Int32) M_x18 M_x19 M_x20 M_x23 M_x27 M_x29 M_x33 M_g24 M_g25 M_g26 M_g28 M_r0 M_r9 M_r10 M_r11 M_r13 M_r15 M_r16 M_r21 M_r22 M_r30 M_r31 M_r32) H := jP
  have jD : va_D A (mW cI uM aM M_x1 M_x2 (0 : Int32) M_x4 (0 : Int32) M_x6 M_x7 M_x8 M_x12 M_x14 (0 : Int32) M_x18 M_x19 M_x20 M_x23 M_x27 M_x29 M_x33 M_g24 M_g25 M_g26 M_g28 M_r0 M_r9 M_r10 M_r11 M_r13 M_r15 M_r16 M_r21 M_r22 M_r30 M_r31 M_r32) := jD
  refine lv_aload_n hx hb dX6_text_15 rfl (lv_at jl 0 rfl) ?_
  refine lv_iconst (v := (0 : Int32)) hx hb dX6_text_16 (by decide) ?_
  refine va_put (D := D) (ci := 6) (v := .int (0 : Int32)) (ty := .int) (C := RX6) (T := TX6) (N := 34) hx hb hts in6 tyX6 tyX6_ok nmX6 hown jK.1 jP jD jS 0 rfl rfl 14 (by decide) (hts _ w_218) (fun _ h9 => h9) rfl (by decide +kernel) rfl rfl (Nat.le_of_ble_eq_true rfl) dX6_text_17 (fun H locs jP jD jS => ?_)
  have jP : va_P D vwCl (mW cI uM aM M_x1 M_x2 (0 : Int32) M_x4 (0 : Int32) M_x6 M_x7 M_x8 M_x12 (0 : Int32) (0 : Int32) M_x18 M_x19 M_x20 M_x23 M_x27 M_x29 M_x33 M_g24 M_g25 M_g26 M_g28 M_r0 M_r9 M_r10 M_r11 M_r13 M_r15 M_r16 M_r21 M_r22 M_r30 M_r31 M_r32) H := jP
  have jD : va_D A (mW cI uM aM M_x1 M_x2 (0 : Int32) M_x4 (0 : Int32) M_x6 M_x7 M_x8 M_x12 (0 : Int32) (0 : Int32) M_x18 M_x19 M_x20 M_x23 M_x27 M_x29 M_x33 M_g24 M_g25 M_g26 M_g28 M_r0 M_r9 M_r10 M_r11 M_r13 M_r15 M_r16 M_r21 M_r22 M_r30 M_r31 M_r32) := jD
  refine lv_iconst (v := (0 : Int32)) hx hb dX6_text_20 (by decide) ?_
  refine lv_istore_n (lv' := [(1, .int (0 : Int32)), (0, .ref uM)]) hx hb dX6_text_21 rfl jl (by decide) rfl (fun ls jl => ?_)
  refine lv_aload_n hx hb dX6_text_22 rfl (lv_at jl 1 rfl) ?_
  refine va_get (D := D) (ci := 6) (v := .ref (aM 16)) (C := RX6) (T := TX6) (N := 34) hx hb hts in6 hown jK.1 jP 0 rfl rfl 16 (by decide) (hts _ w_83) (fun _ h9 => h9) rfl dX6_text_23 ?_
  refine lv_iconst (v := (0 : Int32)) hx hb dX6_text_26 (by decide) ?_
  refine lv_bipush (v := (50 : Int32)) hx hb dX6_text_27 (by decide) ?_
  refine va_iast (f := M_r16) hx hb jK.1 jP jD jS 7 0 rfl rfl (by unfold vp_in; decide) dX6_text_29 (fun H locs jP jD jS => ?_)
  have jP : va_P D vwCl (mW cI uM aM M_x1 M_x2 (0 : Int32) M_x4 (0 : Int32) M_x6 M_x7 M_x8 M_x12 (0 : Int32) (0 : Int32) M_x18 M_x19 M_x20 M_x23 M_x27 M_x29 M_x33 M_g24 M_g25 M_g26 M_g28 M_r0 M_r9 M_r10 M_r11 M_r13 M_r15 (upd M_r16 (0 : Int32).toNatClampNeg (50 : Int32)) M_r21 M_r22 M_r30 M_r31 M_r32) H := jP
  have jD : va_D A (mW cI uM aM M_x1 M_x2 (0 : Int32) M_x4 (0 : Int32) M_x6 M_x7 M_x8 M_x12 (0 : Int32) (0 : Int32) M_x18 M_x19 M_x20 M_x23 M_x27 M_x29 M_x33 M_g24 M_g25 M_g26 M_g28 M_r0 M_r9 M_r10 M_r11 M_r13 M_r15 (upd M_r16 (0 : Int32).toNatClampNeg (50 : Int32)) M_r21 M_r22 M_r30 M_r31 M_r32) := jD
  refine lv_aload_n hx hb dX6_text_30 rfl (lv_at jl 1 rfl) ?_
  refine va_get (D := D) (ci := 6) (v := .ref (aM 16)) (C := RX6) (T := TX6) (N := 34) hx hb hts in6 hown jK.1 jP 0 rfl rfl 16 (by decide) (hts _ w_83) (fun _ h9 => h9) rfl dX6_text_31 ?_
  refine lv_iconst (v := (1 : Int32)) hx hb dX6_text_34 (by decide) ?_
  refine lv_bipush (v := (6 : Int32)) hx hb dX6_text_35 (by decide) ?_
  refine va_iast (f := (upd M_r16 (0 : Int32).toNatClampNeg (50 : Int32))) hx hb jK.1 jP jD jS 7 0 rfl rfl (by unfold vp_in; decide) dX6_text_37 (fun H locs jP jD jS => ?_)
  have jP : va_P D vwCl (mW cI uM aM M_x1 M_x2 (0 : Int32) M_x4 (0 : Int32) M_x6 M_x7 M_x8 M_x12 (0 : Int32) (0 : Int32) M_x18 M_x19 M_x20 M_x23 M_x27 M_x29 M_x33 M_g24 M_g25 M_g26 M_g28 M_r0 M_r9 M_r10 M_r11 M_r13 M_r15 (upd (upd M_r16 (0 : Int32).toNatClampNeg (50 : Int32)) (1 : Int32).toNatClampNeg (6 : Int32)) M_r21 M_r22 M_r30 M_r31 M_r32) H := jP
  have jD : va_D A (mW cI uM aM M_x1 M_x2 (0 : Int32) M_x4 (0 : Int32) M_x6 M_x7 M_x8 M_x12 (0 : Int32) (0 : Int32) M_x18 M_x19 M_x20 M_x23 M_x27 M_x29 M_x33 M_g24 M_g25 M_g26 M_g28 M_r0 M_r9 M_r10 M_r11 M_r13 M_r15 (upd (upd M_r16 (0 : Int32).toNatClampNeg (50 : Int32)) (1 : Int32).toNatClampNeg (6 : Int32)) M_r21 M_r22 M_r30 M_r31 M_r32) := jD
  refine lv_aload_n hx hb dX6_text_38 rfl (lv_at jl 1 rfl) ?_
  refine va_get (D := D) (ci := 6) (v := .ref (aM 16)) (C := RX6) (T := TX6) (N := 34) hx hb hts in6 hown jK.1 jP 0 rfl rfl 16 (by decide) (hts _ w_83) (fun _ h9 => h9) rfl dX6_text_39 ?_
  refine lv_iconst (v := (2 : Int32)) hx hb dX6_text_42 (by decide) ?_
  refine lv_iconst (v := (1 : Int32)) hx hb dX6_text_43 (by decide) ?_
  refine va_iast (f := (upd (upd M_r16 (0 : Int32).toNatClampNeg (50 : Int32)) (1 : Int32).toNatClampNeg (6 : Int32))) hx hb jK.1 jP jD jS 7 0 rfl rfl (by unfold vp_in; decide) dX6_text_44 (fun H locs jP jD jS => ?_)
  have jP : va_P D vwCl (mW cI uM aM M_x1 M_x2 (0 : Int32) M_x4 (0 : Int32) M_x6 M_x7 M_x8 M_x12 (0 : Int32) (0 : Int32) M_x18 M_x19 M_x20 M_x23 M_x27 M_x29 M_x33 M_g24 M_g25 M_g26 M_g28 M_r0 M_r9 M_r10 M_r11 M_r13 M_r15 (upd (upd (upd M_r16 (0 : Int32).toNatClampNeg (50 : Int32)) (1 : Int32).toNatClampNeg (6 : Int32)) (2 : Int32).toNatClampNeg (1 : Int32)) M_r21 M_r22 M_r30 M_r31 M_r32) H := jP
  have jD : va_D A (mW cI uM aM M_x1 M_x2 (0 : Int32) M_x4 (0 : Int32) M_x6 M_x7 M_x8 M_x12 (0 : Int32) (0 : Int32) M_x18 M_x19 M_x20 M_x23 M_x27 M_x29 M_x33 M_g24 M_g25 M_g26 M_g28 M_r0 M_r9 M_r10 M_r11 M_r13 M_r15 (upd (upd (upd M_r16 (0 : Int32).toNatClampNeg (50 : Int32)) (1 : Int32).toNatClampNeg (6 : Int32)) (2 : Int32).toNatClampNeg (1 : Int32)) M_r21 M_r22 M_r30 M_r31 M_r32) := jD
  refine lv_aload_n hx hb dX6_text_45 rfl (lv_at jl 1 rfl) ?_
  refine va_get (D := D) (ci := 6) (v := .ref (aM 16)) (C := RX6) (T := TX6) (N := 34) hx hb hts in6 hown jK.1 jP 0 rfl rfl 16 (by decide) (hts _ w_83) (fun _ h9 => h9) rfl dX6_text_46 ?_
  refine lv_iconst (v := (3 : Int32)) hx hb dX6_text_49 (by decide) ?_
  refine lv_iconst (v := (5 : Int32)) hx hb dX6_text_50 (by decide) ?_
  refine va_iast (f := (upd (upd (upd M_r16 (0 : Int32).toNatClampNeg (50 : Int32)) (1 : Int32).toNatClampNeg (6 : Int32)) (2 : Int32).toNatClampNeg (1 : Int32))) hx hb jK.1 jP jD jS 7 0 rfl rfl (by unfold vp_in; decide) dX6_text_51 (fun H locs jP jD jS => ?_)
  have jP : va_P D vwCl (mW cI uM aM M_x1 M_x2 (0 : Int32) M_x4 (0 : Int32) M_x6 M_x7 M_x8 M_x12 (0 : Int32) (0 : Int32) M_x18 M_x19 M_x20 M_x23 M_x27 M_x29 M_x33 M_g24 M_g25 M_g26 M_g28 M_r0 M_r9 M_r10 M_r11 M_r13 M_r15 (upd (upd (upd (upd M_r16 (0 : Int32).toNatClampNeg (50 : Int32)) (1 : Int32).toNatClampNeg (6 : Int32)) (2 : Int32).toNatClampNeg (1 : Int32)) (3 : Int32).toNatClampNeg (5 : Int32)) M_r21 M_r22 M_r30 M_r31 M_r32) H := jP
  have jD : va_D A (mW cI uM aM M_x1 M_x2 (0 : Int32) M_x4 (0 : Int32) M_x6 M_x7 M_x8 M_x12 (0 : Int32) (0 : Int32) M_x18 M_x19 M_x20 M_x23 M_x27 M_x29 M_x33 M_g24 M_g25 M_g26 M_g28 M_r0 M_r9 M_r10 M_r11 M_r13 M_r15 (upd (upd (upd (upd M_r16 (0 : Int32).toNatClampNeg (50 : Int32)) (1 : Int32).toNatClampNeg (6 : Int32)) (2 : Int32).toNatClampNeg (1 : Int32)) (3 : Int32).toNatClampNeg (5 : Int32)) M_r21 M_r22 M_r30 M_r31 M_r32) := jD
  refine lv_aload_n hx hb dX6_text_52 rfl (lv_at jl 1 rfl) ?_
  obtain ⟨t1, hc2, h⟩ := bd_some h
  refine callW (w1 := (mW cI uM aM M_x1 M_x2 t1.1 t1.2.1 t1.2.2.1 t1.2.2.2.1 t1.2.2.2.2.1 t1.2.2.2.2.2 M_x12 (0 : Int32) (0 : Int32) M_x18 M_x19 M_x20 M_x23 M_x27 M_x29 M_x33 M_g24 M_g25 M_g26 M_g28 M_r0 M_r9 M_r10 M_r11 M_r13 M_r15 (upd (upd (upd (upd M_r16 (0 : Int32).toNatClampNeg (50 : Int32)) (1 : Int32).toNatClampNeg (6 : Int32)) (2 : Int32).toNatClampNeg (1 : Int32)) (3 : Int32).toNatClampNeg (5 : Int32)) M_r21 M_r22 M_r30 M_r31 M_r32)) (As := []) (rest := []) (st1 := []) 0 F (kX6_next l D cI cB cS uM aM M_x1 M_x2 (0 : Int32) M_x4 (0 : Int32) M_x6 M_x7 M_x8 M_x12 (0 : Int32) (0 : Int32) M_x18 M_x19 M_x20 M_x23 M_x27 M_x29 M_x33 M_g24 M_g25 M_g26 M_g28 M_r0 M_r9 M_r10 M_r11 M_r13 M_r15 (upd (upd (upd (upd M_r16 (0 : Int32).toNatClampNeg (50 : Int32)) (1 : Int32).toNatClampNeg (6 : Int32)) (2 : Int32).toNatClampNeg (1 : Int32)) (3 : Int32).toNatClampNeg (5 : Int32)) M_r21 M_r22 M_r30 M_r31 M_r32  _ hc2 ) okX6_next w_223 (by decide) (by decide) ⟨Nat.zero_le _, Nat.zero_le _⟩ rfl rfl rfl jP jD jS rfl jl.1 rfl rfl (Nat.le_of_ble_eq_true rfl) dX6_text_53 (fun H locs jP jD jS => ?_)
  obtain ⟨T3, hT3, hz3⟩ := bd_some h
  clear h
  have hE3 : ∀ (H : Heap) (locs : List Loc) (ls : Array Slot), va_P D vwCl (mW cI uM aM M_x1 M_x2 T3.2.2.2.1 T3.2.2.2.2.1 T3.2.2.2.2.2.1 T3.2.2.2.2.2.2.1 T3.2.2.2.2.2.2.2.1 T3.2.2.2.2.2.2.2.2.1 M_x12 T3.2.2.2.2.2.2.2.2.2.1 T3.2.2.2.2.2.2.2.2.2.2 M_x18 M_x19 M_x20 M_x23 M_x27 M_x29 M_x33 M_g24 M_g25 M_g26 M_g28 M_r0 M_r9 M_r10 M_r11 T3.2.1 M_r15 T3.2.2.1 M_r21 M_r22 M_r30 M_r31 M_r32) H → va_D A (mW cI uM aM M_x1 M_x2 T3.2.2.2.1 T3.2.2.2.2.1 T3.2.2.2.2.2.1 T3.2.2.2.2.2.2.1 T3.2.2.2.2.2.2.2.1 T3.2.2.2.2.2.2.2.2.1 M_x12 T3.2.2.2.2.2.2.2.2.2.1 T3.2.2.2.2.2.2.2.2.2.2 M_x18 M_x19 M_x20 M_x23 M_x27 M_x29 M_x33 M_g24 M_g25 M_g26 M_g28 M_r0 M_r9 M_r10 M_r11 T3.2.1 M_r15 T3.2.2.1 M_r21 M_r22 M_r30 M_r31 M_r32) → va_S A s.heap H locs → lv_has ls 3 [(0, .ref uM), (1, .int T3.1)] → W p l e R s m ar below meth c H locs 0 0 QQ (F0 m 80 ls []) := by
    clear jP jD jS jl
    intro H locs ls jP jD jS jl
    refine lv_aload_n hx hb dX6_text_80 rfl (lv_at jl 0 rfl) ?_
    refine lv_iconst (v := (0 : Int32)) hx hb dX6_text_81 (by decide) ?_
    refine va_put (D := D) (ci := 6) (v := .int (0 : Int32)) (ty := .int) (C := RX6) (T := TX6) (N := 34) hx hb hts in6 tyX6 tyX6_ok nmX6 hown jK.1 jP jD jS 0 rfl rfl 1 (by decide) (hts _ w_100) (fun _ h9 => h9) rfl (by decide +kernel) rfl rfl (Nat.le_of_ble_eq_true rfl) dX6_text_82 (fun H locs jP jD jS => ?_)
    have jP : va_P D vwCl (mW cI uM aM (0 : Int32) M_x2 T3.2.2.2.1 T3.2.2.2.2.1 T3.2.2.2.2.2.1 T3.2.2.2.2.2.2.1 T3.2.2.2.2.2.2.2.1 T3.2.2.2.2.2.2.2.2.1 M_x12 T3.2.2.2.2.2.2.2.2.2.1 T3.2.2.2.2.2.2.2.2.2.2 M_x18 M_x19 M_x20 M_x23 M_x27 M_x29 M_x33 M_g24 M_g25 M_g26 M_g28 M_r0 M_r9 M_r10 M_r11 T3.2.1 M_r15 T3.2.2.1 M_r21 M_r22 M_r30 M_r31 M_r32) H := jP
    have jD : va_D A (mW cI uM aM (0 : Int32) M_x2 T3.2.2.2.1 T3.2.2.2.2.1 T3.2.2.2.2.2.1 T3.2.2.2.2.2.2.1 T3.2.2.2.2.2.2.2.1 T3.2.2.2.2.2.2.2.2.1 M_x12 T3.2.2.2.2.2.2.2.2.2.1 T3.2.2.2.2.2.2.2.2.2.2 M_x18 M_x19 M_x20 M_x23 M_x27 M_x29 M_x33 M_g24 M_g25 M_g26 M_g28 M_r0 M_r9 M_r10 M_r11 T3.2.1 M_r15 T3.2.2.1 M_r21 M_r22 M_r30 M_r31 M_r32) := jD
    refine lv_aload_n hx hb dX6_text_85 rfl (lv_at jl 0 rfl) ?_
    refine lv_aload_n hx hb dX6_text_86 rfl (lv_at jl 0 rfl) ?_
    refine va_get (D := D) (ci := 6) (v := .int T3.2.2.2.1) (C := RX6) (T := TX6) (N := 34) hx hb hts in6 hown jK.1 jP 0 rfl rfl 3 (by decide) (hts _ w_215) (fun _ h9 => h9) rfl dX6_text_87 ?_
    refine va_put (D := D) (ci := 6) (v := .int T3.2.2.2.1) (ty := .int) (C := RX6) (T := TX6) (N := 34) hx hb hts in6 tyX6 tyX6_ok nmX6 hown jK.1 jP jD jS 0 rfl rfl 2 (by decide) (hts _ w_220) (fun _ h9 => h9) rfl (by decide +kernel) rfl rfl (Nat.le_of_ble_eq_true rfl) dX6_text_90 (fun H locs jP jD jS => ?_)
    have jP : va_P D vwCl (mW cI uM aM (0 : Int32) T3.2.2.2.1 T3.2.2.2.1 T3.2.2.2.2.1 T3.2.2.2.2.2.1 T3.2.2.2.2.2.2.1 T3.2.2.2.2.2.2.2.1 T3.2.2.2.2.2.2.2.2.1 M_x12 T3.2.2.2.2.2.2.2.2.2.1 T3.2.2.2.2.2.2.2.2.2.2 M_x18 M_x19 M_x20 M_x23 M_x27 M_x29 M_x33 M_g24 M_g25 M_g26 M_g28 M_r0 M_r9 M_r10 M_r11 T3.2.1 M_r15 T3.2.2.1 M_r21 M_r22 M_r30 M_r31 M_r32) H := jP
    have jD : va_D A (mW cI uM aM (0 : Int32) T3.2.2.2.1 T3.2.2.2.1 T3.2.2.2.2.1 T3.2.2.2.2.2.1 T3.2.2.2.2.2.2.1 T3.2.2.2.2.2.2.2.1 T3.2.2.2.2.2.2.2.2.1 M_x12 T3.2.2.2.2.2.2.2.2.2.1 T3.2.2.2.2.2.2.2.2.2.2 M_x18 M_x19 M_x20 M_x23 M_x27 M_x29 M_x33 M_g24 M_g25 M_g26 M_g28 M_r0 M_r9 M_r10 M_r11 T3.2.1 M_r15 T3.2.2.1 M_r21 M_r22 M_r30 M_r31 M_r32) := jD
    refine lv_aload_n hx hb dX6_text_93 rfl (lv_at jl 0 rfl) ?_
    refine va_get (D := D) (ci := 6) (v := .int T3.2.2.2.1) (C := RX6) (T := TX6) (N := 34) hx hb hts in6 hown jK.1 jP 0 rfl rfl 3 (by decide) (hts _ w_215) (fun _ h9 => h9) rfl dX6_text_94 ?_
    refine lv_if_le (tgt := 108) hx hb dX6_text_97 (by decide) (fun c8 => ?_) (fun c8 => ?_)
    · have hz3 := itp c8 hz3
      refine lv_iconst (v := (0 : Int32)) hx hb dX6_text_108 (by decide) ?_
      refine lv_istore_n (lv' := [(2, .int (0 : Int32)), (0, .ref uM), (1, .int T3.1)]) hx hb dX6_text_109 rfl jl (by decide) rfl (fun ls jl => ?_)
      obtain ⟨T9, hT9, hz9⟩ := bd_some hz3
      clear hz3
      have hE9 : ∀ (H : Heap) (locs : List Loc) (ls : Array Slot), va_P D vwCl (mW cI uM aM (0 : Int32) T3.2.2.2.1 T3.2.2.2.1 T3.2.2.2.2.1 T3.2.2.2.2.2.1 T3.2.2.2.2.2.2.1 T3.2.2.2.2.2.2.2.1 T3.2.2.2.2.2.2.2.2.1 M_x12 T3.2.2.2.2.2.2.2.2.2.1 T3.2.2.2.2.2.2.2.2.2.2 M_x18 M_x19 M_x20 M_x23 M_x27 M_x29 M_x33 M_g24 M_g25 M_g26 M_g28 M_r0 M_r9 M_r10 T9 T3.2.1 M_r15 T3.2.2.1 M_r21 M_r22 M_r30 M_r31 M_r32) H → va_D A (mW cI uM aM (0 : Int32) T3.2.2.2.1 T3.2.2.2.1 T3.2.2.2.2.1 T3.2.2.2.2.2.1 T3.2.2.2.2.2.2.1 T3.2.2.2.2.2.2.2.1 T3.2.2.2.2.2.2.2.2.1 M_x12 T3.2.2.2.2.2.2.2.2.2.1 T3.2.2.2.2.2.2.2.2.2.2 M_x18 M_x19 M_x20 M_x23 M_x27 M_x29 M_x33 M_g24 M_g25 M_g26 M_g28 M_r0 M_r9 M_r10 T9 T3.2.1 M_r15 T3.2.2.1 M_r21 M_r22 M_r30 M_r31 M_r32) → va_S A s.heap H locs → lv_has ls 3 [(0, .ref uM), (1, .int T3.1)] → W p l e R s m ar below meth c H locs 0 0 QQ (F0 m 134 ls []) := by
        clear jP jD jS jl
        intro H locs ls jP jD jS jl
        refine lv_iconst (v := (0 : Int32)) hx hb dX6_text_134 (by decide) ?_
        refine lv_istore_n (lv' := [(2, .int (0 : Int32)), (0, .ref uM), (1, .int T3.1)]) hx hb dX6_text_135 rfl jl (by decide) rfl (fun ls jl => ?_)
        obtain ⟨T11, hT11, hz11⟩ := bd_some hz9
        clear hz9
        have hE11 : ∀ (H : Heap) (locs : List Loc) (ls : Array Slot), va_P D vwCl (mW cI uM aM (0 : Int32) T3.2.2.2.1 T3.2.2.2.1 T3.2.2.2.2.1 T3.2.2.2.2.2.1 T3.2.2.2.2.2.2.1 T3.2.2.2.2.2.2.2.1 T3.2.2.2.2.2.2.2.2.1 M_x12 T3.2.2.2.2.2.2.2.2.2.1 T3.2.2.2.2.2.2.2.2.2.2 M_x18 M_x19 M_x20 M_x23 M_x27 M_x29 M_x33 M_g24 M_g25 M_g26 M_g28 M_r0 M_r9 M_r10 T9 T3.2.1 T11 T3.2.2.1 M_r21 M_r22 M_r30 M_r31 M_r32) H → va_D A (mW cI uM aM (0 : Int32) T3.2.2.2.1 T3.2.2.2.1 T3.2.2.2.2.1 T3.2.2.2.2.2.1 T3.2.2.2.2.2.2.1 T3.2.2.2.2.2.2.2.1 T3.2.2.2.2.2.2.2.2.1 M_x12 T3.2.2.2.2.2.2.2.2.2.1 T3.2.2.2.2.2.2.2.2.2.2 M_x18 M_x19 M_x20 M_x23 M_x27 M_x29 M_x33 M_g24 M_g25 M_g26 M_g28 M_r0 M_r9 M_r10 T9 T3.2.1 T11 T3.2.2.1 M_r21 M_r22 M_r30 M_r31 M_r32) → va_S A s.heap H locs → lv_has ls 3 [(0, .ref uM), (1, .int T3.1)] → W p l e R s m ar below meth c H locs 0 0 QQ (F0 m 159 ls []) := by
          clear jP jD jS jl
          intro H locs ls jP jD jS jl
          refine lv_aload_n hx hb dX6_text_159 rfl (lv_at jl 0 rfl) ?_
          refine lv_aload_n hx hb dX6_text_160 rfl (lv_at jl 0 rfl) ?_
          refine va_get (D := D) (ci := 6) (v := .int T3.2.2.2.2.2.2.2.2.2.1) (C := RX6) (T := TX6) (N := 34) hx hb hts in6 hown jK.1 jP 0 rfl rfl 14 (by decide) (hts _ w_218) (fun _ h9 => h9) rfl dX6_text_161 ?_
          refine va_put (D := D) (ci := 6) (v := .int T3.2.2.2.2.2.2.2.2.2.1) (ty := .int) (C := RX6) (T := TX6) (N := 34) hx hb hts in6 tyX6 tyX6_ok nmX6 hown jK.1 jP jD jS 0 rfl rfl 12 (by decide) (hts _ w_222) (fun _ h9 => h9) rfl (by decide +kernel) rfl rfl (Nat.le_of_ble_eq_true rfl) dX6_text_164 (fun H locs jP jD jS => ?_)
          have jP : va_P D vwCl (mW cI uM aM (0 : Int32) T3.2.2.2.1 T3.2.2.2.1 T3.2.2.2.2.1 T3.2.2.2.2.2.1 T3.2.2.2.2.2.2.1 T3.2.2.2.2.2.2.2.1 T3.2.2.2.2.2.2.2.2.1 T3.2.2.2.2.2.2.2.2.2.1 T3.2.2.2.2.2.2.2.2.2.1 T3.2.2.2.2.2.2.2.2.2.2 M_x18 M_x19 M_x20 M_x23 M_x27 M_x29 M_x33 M_g24 M_g25 M_g26 M_g28 M_r0 M_r9 M_r10 T9 T3.2.1 T11 T3.2.2.1 M_r21 M_r22 M_r30 M_r31 M_r32) H := jP
          have jD : va_D A (mW cI uM aM (0 : Int32) T3.2.2.2.1 T3.2.2.2.1 T3.2.2.2.2.1 T3.2.2.2.2.2.1 T3.2.2.2.2.2.2.1 T3.2.2.2.2.2.2.2.1 T3.2.2.2.2.2.2.2.2.1 T3.2.2.2.2.2.2.2.2.2.1 T3.2.2.2.2.2.2.2.2.2.1 T3.2.2.2.2.2.2.2.2.2.2 M_x18 M_x19 M_x20 M_x23 M_x27 M_x29 M_x33 M_g24 M_g25 M_g26 M_g28 M_r0 M_r9 M_r10 T9 T3.2.1 T11 T3.2.2.1 M_r21 M_r22 M_r30 M_r31 M_r32) := jD
          refine lv_iload_n hx hb dX6_text_167 rfl (lv_at jl 1 rfl) ?_
          obtain rfl := Option.some.inj hz11
          exact hRet _ _ _ _ jP jD jS dX6_text_168
        have hL11 : ∀ (n : Nat) (v11 : (Int32 × (Nat → Int32))), loopF (fX6_text_b136 T3.1 T3.2.2.1) n v11 = some T11 → ∀ (H : Heap) (locs : List Loc) (ls : Array Slot), va_P D vwCl (mW cI uM aM (0 : Int32) T3.2.2.2.1 T3.2.2.2.1 T3.2.2.2.2.1 T3.2.2.2.2.2.1 T3.2.2.2.2.2.2.1 T3.2.2.2.2.2.2.2.1 T3.2.2.2.2.2.2.2.2.1 M_x12 T3.2.2.2.2.2.2.2.2.2.1 T3.2.2.2.2.2.2.2.2.2.2 M_x18 M_x19 M_x20 M_x23 M_x27 M_x29 M_x33 M_g24 M_g25 M_g26 M_g28 M_r0 M_r9 M_r10 T9 T3.2.1 v11.2 T3.2.2.1 M_r21 M_r22 M_r30 M_r31 M_r32) H → va_D A (mW cI uM aM (0 : Int32) T3.2.2.2.1 T3.2.2.2.1 T3.2.2.2.2.1 T3.2.2.2.2.2.1 T3.2.2.2.2.2.2.1 T3.2.2.2.2.2.2.2.1 T3.2.2.2.2.2.2.2.2.1 M_x12 T3.2.2.2.2.2.2.2.2.2.1 T3.2.2.2.2.2.2.2.2.2.2 M_x18 M_x19 M_x20 M_x23 M_x27 M_x29 M_x33 M_g24 M_g25 M_g26 M_g28 M_r0 M_r9 M_r10 T9 T3.2.1 v11.2 T3.2.2.1 M_r21 M_r22 M_r30 M_r31 M_r32) → va_S A s.heap H locs → lv_has ls 3 [(0, .ref uM), (1, .int T3.1), (2, .int v11.1)] → W p l e R s m ar below meth c H locs 0 0 QQ (F0 m 136 ls []) := by
          clear jP jD jS jl hT11
          intro n
          induction n with
          | zero => intro v11 hq; exact (loop_none hq).elim
          | succ n ih =>
            intro v11 hq H locs ls jP jD jS jl
            obtain ⟨o11, hv11, hq11⟩ := loop_some hq
            clear hq
            unfold fX6_text_b136 at hv11
            refine lv_iload_n hx hb dX6_text_136 rfl (lv_at jl 2 rfl) ?_
            refine lv_iconst (v := (4 : Int32)) hx hb dX6_text_137 (by decide) ?_
            refine lv_icmp_ge (tgt := 159) hx hb dX6_text_138 (by decide) (fun c12 => ?_) (fun c12 => ?_)
            · have hv11 := itp c12 hv11
              obtain rfl := Option.some.inj hv11
              obtain rfl := nxt_r hq11
              exact hE11 _ _ _ jP jD jS (lv_sub jl [0, 1] rfl)
            · have hv11 := itn c12 hv11
              refine lv_aload_n hx hb dX6_text_141 rfl (lv_at jl 0 rfl) ?_
              refine va_get (D := D) (ci := 6) (v := .ref (aM 15)) (C := RX6) (T := TX6) (N := 34) hx hb hts in6 hown jK.1 jP 0 rfl rfl 15 (by decide) (hts _ w_82) (fun _ h9 => h9) rfl dX6_text_142 ?_
              refine lv_iload_n hx hb dX6_text_145 rfl (lv_at jl 2 rfl) ?_
              refine lv_aload_n hx hb dX6_text_146 rfl (lv_at jl 0 rfl) ?_
              refine va_get (D := D) (ci := 6) (v := .ref (aM 16)) (C := RX6) (T := TX6) (N := 34) hx hb hts in6 hown jK.1 jP 0 rfl rfl 16 (by decide) (hts _ w_83) (fun _ h9 => h9) rfl dX6_text_147 ?_
              refine lv_iload_n hx hb dX6_text_150 rfl (lv_at jl 2 rfl) ?_
              obtain ⟨hin, hv11⟩ := ckI_some hv11
              refine va_iald (f := T3.2.2.1) hx hb jK.1 jP 7 0 rfl rfl hin dX6_text_151 ?_
              obtain ⟨hin, hv11⟩ := ckI_some hv11
              refine va_iast (f := v11.2) hx hb jK.1 jP jD jS 6 0 rfl rfl hin dX6_text_152 (fun H locs jP jD jS => ?_)
              have jP : va_P D vwCl (mW cI uM aM (0 : Int32) T3.2.2.2.1 T3.2.2.2.1 T3.2.2.2.2.1 T3.2.2.2.2.2.1 T3.2.2.2.2.2.2.1 T3.2.2.2.2.2.2.2.1 T3.2.2.2.2.2.2.2.2.1 M_x12 T3.2.2.2.2.2.2.2.2.2.1 T3.2.2.2.2.2.2.2.2.2.2 M_x18 M_x19 M_x20 M_x23 M_x27 M_x29 M_x33 M_g24 M_g25 M_g26 M_g28 M_r0 M_r9 M_r10 T9 T3.2.1 (upd v11.2 v11.1.toNatClampNeg (T3.2.2.1 v11.1.toNatClampNeg)) T3.2.2.1 M_r21 M_r22 M_r30 M_r31 M_r32) H := jP
              have jD : va_D A (mW cI uM aM (0 : Int32) T3.2.2.2.1 T3.2.2.2.1 T3.2.2.2.2.1 T3.2.2.2.2.2.1 T3.2.2.2.2.2.2.1 T3.2.2.2.2.2.2.2.1 T3.2.2.2.2.2.2.2.2.1 M_x12 T3.2.2.2.2.2.2.2.2.2.1 T3.2.2.2.2.2.2.2.2.2.2 M_x18 M_x19 M_x20 M_x23 M_x27 M_x29 M_x33 M_g24 M_g25 M_g26 M_g28 M_r0 M_r9 M_r10 T9 T3.2.1 (upd v11.2 v11.1.toNatClampNeg (T3.2.2.1 v11.1.toNatClampNeg)) T3.2.2.1 M_r21 M_r22 M_r30 M_r31 M_r32) := jD
              refine lv_iinc (v := (v11.1 + (1 : Int32))) (lv' := [(2, .int (v11.1 + (1 : Int32))), (0, .ref uM), (1, .int T3.1)]) hx hb dX6_text_153 jl (k := 2) rfl rfl (by decide) rfl (fun ls jl => ?_)
              refine lv_goto (tgt := 136) hx hb dX6_text_156 (by decide) ?_
              obtain rfl := Option.some.inj hv11
              exact ih _ (nxt_l hq11) _ _ _ jP jD jS (lv_sub jl [1, 2, 0] rfl)
        exact hL11 1000 _ hT11 _ _ _ jP jD jS (lv_sub jl [1, 2, 0] rfl)
      have hL9 : ∀ (n : Nat) (v9 : (Int32 × (Nat → Int32))), loopF (fX6_text_b110 T3.1 T3.2.1) n v9 = some T9 → ∀ (H : Heap) (locs : List Loc) (ls : Array Slot), va_P D vwCl (mW cI uM aM (0 : Int32) T3.2.2.2.1 T3.2.2.2.1 T3.2.2.2.2.1 T3.2.2.2.2.2.1 T3.2.2.2.2.2.2.1 T3.2.2.2.2.2.2.2.1 T3.2.2.2.2.2.2.2.2.1 M_x12 T3.2.2.2.2.2.2.2.2.2.1 T3.2.2.2.2.2.2.2.2.2.2 M_x18 M_x19 M_x20 M_x23 M_x27 M_x29 M_x33 M_g24 M_g25 M_g26 M_g28 M_r0 M_r9 M_r10 v9.2 T3.2.1 M_r15 T3.2.2.1 M_r21 M_r22 M_r30 M_r31 M_r32) H → va_D A (mW cI uM aM (0 : Int32) T3.2.2.2.1 T3.2.2.2.1 T3.2.2.2.2.1 T3.2.2.2.2.2.1 T3.2.2.2.2.2.2.1 T3.2.2.2.2.2.2.2.1 T3.2.2.2.2.2.2.2.2.1 M_x12 T3.2.2.2.2.2.2.2.2.2.1 T3.2.2.2.2.2.2.2.2.2.2 M_x18 M_x19 M_x20 M_x23 M_x27 M_x29 M_x33 M_g24 M_g25 M_g26 M_g28 M_r0 M_r9 M_r10 v9.2 T3.2.1 M_r15 T3.2.2.1 M_r21 M_r22 M_r30 M_r31 M_r32) → va_S A s.heap H locs → lv_has ls 3 [(0, .ref uM), (1, .int T3.1), (2, .int v9.1)] → W p l e R s m ar below meth c H locs 0 0 QQ (F0 m 110 ls []) := by
        clear jP jD jS jl hT9
        intro n
        induction n with
        | zero => intro v9 hq; exact (loop_none hq).elim
        | succ n ih =>
          intro v9 hq H locs ls jP jD jS jl
          obtain ⟨o9, hv9, hq9⟩ := loop_some hq
          clear hq
          unfold fX6_text_b110 at hv9
          refine lv_iload_n hx hb dX6_text_110 rfl (lv_at jl 2 rfl) ?_
          refine lv_bipush (v := (40 : Int32)) hx hb dX6_text_111 (by decide) ?_
          refine lv_icmp_ge (tgt := 134) hx hb dX6_text_113 (by decide) (fun c10 => ?_) (fun c10 => ?_)
          · have hv9 := itp c10 hv9
            obtain rfl := Option.some.inj hv9
            obtain rfl := nxt_r hq9
            exact hE9 _ _ _ jP jD jS (lv_sub jl [0, 1] rfl)
          · have hv9 := itn c10 hv9
            refine lv_aload_n hx hb dX6_text_116 rfl (lv_at jl 0 rfl) ?_
            refine va_get (D := D) (ci := 6) (v := .ref (aM 11)) (C := RX6) (T := TX6) (N := 34) hx hb hts in6 hown jK.1 jP 0 rfl rfl 11 (by decide) (hts _ w_80) (fun _ h9 => h9) rfl dX6_text_117 ?_
            refine lv_iload_n hx hb dX6_text_120 rfl (lv_at jl 2 rfl) ?_
            refine lv_aload_n hx hb dX6_text_121 rfl (lv_at jl 0 rfl) ?_
            refine va_get (D := D) (ci := 6) (v := .ref (aM 13)) (C := RX6) (T := TX6) (N := 34) hx hb hts in6 hown jK.1 jP 0 rfl rfl 13 (by decide) (hts _ w_81) (fun _ h9 => h9) rfl dX6_text_122 ?_
            refine lv_iload_n hx hb dX6_text_125 rfl (lv_at jl 2 rfl) ?_
            obtain ⟨hin, hv9⟩ := ckI_some hv9
            refine va_iald (f := T3.2.1) hx hb jK.1 jP 5 0 rfl rfl hin dX6_text_126 ?_
            obtain ⟨hin, hv9⟩ := ckI_some hv9
            refine va_iast (f := v9.2) hx hb jK.1 jP jD jS 4 0 rfl rfl hin dX6_text_127 (fun H locs jP jD jS => ?_)
            have jP : va_P D vwCl (mW cI uM aM (0 : Int32) T3.2.2.2.1 T3.2.2.2.1 T3.2.2.2.2.1 T3.2.2.2.2.2.1 T3.2.2.2.2.2.2.1 T3.2.2.2.2.2.2.2.1 T3.2.2.2.2.2.2.2.2.1 M_x12 T3.2.2.2.2.2.2.2.2.2.1 T3.2.2.2.2.2.2.2.2.2.2 M_x18 M_x19 M_x20 M_x23 M_x27 M_x29 M_x33 M_g24 M_g25 M_g26 M_g28 M_r0 M_r9 M_r10 (upd v9.2 v9.1.toNatClampNeg (T3.2.1 v9.1.toNatClampNeg)) T3.2.1 M_r15 T3.2.2.1 M_r21 M_r22 M_r30 M_r31 M_r32) H := jP
            have jD : va_D A (mW cI uM aM (0 : Int32) T3.2.2.2.1 T3.2.2.2.1 T3.2.2.2.2.1 T3.2.2.2.2.2.1 T3.2.2.2.2.2.2.1 T3.2.2.2.2.2.2.2.1 T3.2.2.2.2.2.2.2.2.1 M_x12 T3.2.2.2.2.2.2.2.2.2.1 T3.2.2.2.2.2.2.2.2.2.2 M_x18 M_x19 M_x20 M_x23 M_x27 M_x29 M_x33 M_g24 M_g25 M_g26 M_g28 M_r0 M_r9 M_r10 (upd v9.2 v9.1.toNatClampNeg (T3.2.1 v9.1.toNatClampNeg)) T3.2.1 M_r15 T3.2.2.1 M_r21 M_r22 M_r30 M_r31 M_r32) := jD
            refine lv_iinc (v := (v9.1 + (1 : Int32))) (lv' := [(2, .int (v9.1 + (1 : Int32))), (0, .ref uM), (1, .int T3.1)]) hx hb dX6_text_128 jl (k := 2) rfl rfl (by decide) rfl (fun ls jl => ?_)
            refine lv_goto (tgt := 110) hx hb dX6_text_131 (by decide) ?_
            obtain rfl := Option.some.inj hv9
            exact ih _ (nxt_l hq9) _ _ _ jP jD jS (lv_sub jl [1, 2, 0] rfl)
      exact hL9 1000 _ hT9 _ _ _ jP jD jS (lv_sub jl [1, 2, 0] rfl)
    · have hz3 := itn c8 hz3
      refine lv_bipush (v := (-10 : Int32)) hx hb dX6_text_100 (by decide) ?_
      refine lv_aload_n hx hb dX6_text_102 rfl (lv_at jl 0 rfl) ?_
      refine va_get (D := D) (ci := 6) (v := .int T3.2.2.2.2.1) (C := RX6) (T := TX6) (N := 34) hx hb hts in6 hown jK.1 jP 0 rfl rfl 4 (by decide) (hts _ w_221) (fun _ h9 => h9) rfl dX6_text_103 ?_
      refine lv_isub hx hb dX6_text_106 ?_
      obtain rfl := Option.some.inj hz3
      exact hRet _ _ _ _ jP jD jS dX6_text_107
  have hL3 : ∀ (n : Nat) (v3 : (Int32 × (Nat → Int32) × (Nat → Int32) × Int32 × Int32 × Int32 × Int32 × Int32 × Int32 × Int32 × Int32)), loopF (fX6_text_b56 M_r0 M_r9 M_r10 M_x1) n v3 = some T3 → ∀ (H : Heap) (locs : List Loc) (ls : Array Slot), va_P D vwCl (mW cI uM aM M_x1 M_x2 v3.2.2.2.1 v3.2.2.2.2.1 v3.2.2.2.2.2.1 v3.2.2.2.2.2.2.1 v3.2.2.2.2.2.2.2.1 v3.2.2.2.2.2.2.2.2.1 M_x12 v3.2.2.2.2.2.2.2.2.2.1 v3.2.2.2.2.2.2.2.2.2.2 M_x18 M_x19 M_x20 M_x23 M_x27 M_x29 M_x33 M_g24 M_g25 M_g26 M_g28 M_r0 M_r9 M_r10 M_r11 v3.2.1 M_r15 v3.2.2.1 M_r21 M_r22 M_r30 M_r31 M_r32) H → va_D A (mW cI uM aM M_x1 M_x2 v3.2.2.2.1 v3.2.2.2.2.1 v3.2.2.2.2.2.1 v3.2.2.2.2.2.2.1 v3.2.2.2.2.2.2.2.1 v3.2.2.2.2.2.2.2.2.1 M_x12 v3.2.2.2.2.2.2.2.2.2.1 v3.2.2.2.2.2.2.2.2.2.2 M_x18 M_x19 M_x20 M_x23 M_x27 M_x29 M_x33 M_g24 M_g25 M_g26 M_g28 M_r0 M_r9 M_r10 M_r11 v3.2.1 M_r15 v3.2.2.1 M_r21 M_r22 M_r30 M_r31 M_r32) → va_S A s.heap H locs → lv_has ls 3 [(0, .ref uM), (1, .int v3.1)] → W p l e R s m ar below meth c H locs 0 0 QQ (F0 m 56 ls []) := by
    clear jP jD jS jl hT3
    intro n
    induction n with
    | zero => intro v3 hq; exact (loop_none hq).elim
    | succ n ih =>
      intro v3 hq H locs ls jP jD jS jl
      obtain ⟨o3, hv3, hq3⟩ := loop_some hq
      clear hq
      unfold fX6_text_b56 at hv3
      refine lv_aload_n hx hb dX6_text_56 rfl (lv_at jl 0 rfl) ?_
      refine va_get (D := D) (ci := 6) (v := .int v3.2.2.2.1) (C := RX6) (T := TX6) (N := 34) hx hb hts in6 hown jK.1 jP 0 rfl rfl 3 (by decide) (hts _ w_215) (fun _ h9 => h9) rfl dX6_text_57 ?_
      refine lv_if_ne (tgt := 80) hx hb dX6_text_60 (by decide) (fun c4 => ?_) (fun c4 => ?_)
      · have hv3 := itn c4 hv3
        obtain rfl := Option.some.inj hv3
        obtain rfl := nxt_r hq3
        exact hE3 _ _ _ jP jD jS (lv_sub jl [0, 1] rfl)
      · have hv3 := itp c4 hv3
        refine lv_aload_n hx hb dX6_text_63 rfl (lv_at jl 0 rfl) ?_
        refine va_get (D := D) (ci := 6) (v := .int v3.2.2.2.2.2.2.2.1) (C := RX6) (T := TX6) (N := 34) hx hb hts in6 hown jK.1 jP 0 rfl rfl 7 (by decide) (hts _ w_219) (fun _ h9 => h9) rfl dX6_text_64 ?_
        refine lv_if_eq (tgt := 80) hx hb dX6_text_67 (by decide) (fun c5 => ?_) (fun c5 => ?_)
        · have hv3 := itp c5 hv3
          obtain rfl := Option.some.inj hv3
          obtain rfl := nxt_r hq3
          exact hE3 _ _ _ jP jD jS (lv_sub jl [0, 1] rfl)
        · have hv3 := itn c5 hv3
          refine lv_aload_n hx hb dX6_text_70 rfl (lv_at jl 0 rfl) ?_
          obtain ⟨t6, hc7, hv3⟩ := bd_some hv3
          refine callW (w1 := (mW cI uM aM M_x1 M_x2 t6.2.2.1 t6.2.2.2.1 t6.2.2.2.2.1 t6.2.2.2.2.2.1 t6.2.2.2.2.2.2.1 t6.2.2.2.2.2.2.2.1 M_x12 t6.2.2.2.2.2.2.2.2.1 t6.2.2.2.2.2.2.2.2.2 M_x18 M_x19 M_x20 M_x23 M_x27 M_x29 M_x33 M_g24 M_g25 M_g26 M_g28 M_r0 M_r9 M_r10 M_r11 t6.1 M_r15 t6.2.1 M_r21 M_r22 M_r30 M_r31 M_r32)) (As := []) (rest := []) (st1 := []) 0 F (kX6_readLine l D cI cB cS uM aM M_x1 M_x2 v3.2.2.2.1 v3.2.2.2.2.1 v3.2.2.2.2.2.1 v3.2.2.2.2.2.2.1 v3.2.2.2.2.2.2.2.1 v3.2.2.2.2.2.2.2.2.1 M_x12 v3.2.2.2.2.2.2.2.2.2.1 v3.2.2.2.2.2.2.2.2.2.2 M_x18 M_x19 M_x20 M_x23 M_x27 M_x29 M_x33 M_g24 M_g25 M_g26 M_g28 M_r0 M_r9 M_r10 M_r11 v3.2.1 M_r15 v3.2.2.1 M_r21 M_r22 M_r30 M_r31 M_r32  _ hc7 ) okX6_readLine w_245 (by decide) (by decide) ⟨Nat.zero_le _, Nat.zero_le _⟩ rfl rfl rfl jP jD jS rfl jl.1 rfl rfl (Nat.le_of_ble_eq_true rfl) dX6_text_71 (fun H locs jP jD jS => ?_)
          refine lv_iinc (v := (v3.1 + (1 : Int32))) (lv' := [(1, .int (v3.1 + (1 : Int32))), (0, .ref uM)]) hx hb dX6_text_74 jl (k := 1) rfl rfl (by decide) rfl (fun ls jl => ?_)
          refine lv_goto (tgt := 56) hx hb dX6_text_77 (by decide) ?_
          obtain rfl := Option.some.inj hv3
          exact ih _ (nxt_l hq3) _ _ _ jP jD jS (lv_sub jl [1, 0] rfl)
  exact hL3 1000 _ hT3 _ _ _ jP jD jS (lv_sub jl [1, 0] rfl)
theorem okX6_feed : okV yX6_feed cX6_feed 4 (some .int) 1 := ⟨w_97, w_98, w_99, w_5, by decide, by decide, by decide +kernel⟩
def fX6_feed_b19 (l1 : Int64) (v1 : (Int32 × (Nat → Int32) × Int32)) : Option ((Int32 × (Nat → Int32) × Int32) ⊕ ((Nat → Int32) × Int32)) :=
  if v1.1 < (0 : Int32) then (some (.inr (v1.2.1, v1.2.2))) else (ckI v1.2.2 240 (some (.inl ((v1.1 + (-8 : Int32)), (upd v1.2.1 v1.2.2.toNatClampNeg ((l1 >>> (v1.1.toInt64 &&& 63)).toInt32 &&& (255 : Int32))), (v1.2.2 + (1 : Int32))))))
def fX6_feed (M_r0 : (Nat → Int32)) (M_x1 : Int32) (a1 : Int64) : Option (Int32 × (Nat → Int32) × Int32) :=
  if (M_x1 + (8 : Int32)) ≤ (240 : Int32) then (bd (loopF (fX6_feed_b19 a1) 1000 ((56 : Int32), M_r0, M_x1)) (fun T2 => some (T2.2, T2.1, T2.2))) else (some ((-3 : Int32), M_r0, M_x1))
set_option maxRecDepth 100000 in
set_option maxHeartbeats 4000000 in
theorem kX6_feed (l : Launch) (D : va_G) (cI cB cS : ClassId) (uM : Nat) (aM : Nat → Nat) (M_x1 : Int32) (M_x2 : Int32) (M_x3 : Int32) (M_x4 : Int32) (M_x5 : Int32) (M_x6 : Int32) (M_x7 : Int32) (M_x8 : Int32) (M_x12 : Int32) (M_x14 : Int32) (M_x17 : Int32) (M_x18 : Int32) (M_x19 : Int32) (M_x20 : Int32) (M_x23 : Int32) (M_x27 : Int32) (M_x29 : Int32) (M_x33 : Int32) (M_g24 : Int64) (M_g25 : Int64) (M_g26 : Int64) (M_g28 : Int64) (M_r0 : (Nat → Int32)) (M_r9 : (Nat → Int32)) (M_r10 : (Nat → Int32)) (M_r11 : (Nat → Int32)) (M_r13 : (Nat → Int32)) (M_r15 : (Nat → Int32)) (M_r16 : (Nat → Int32)) (M_r21 : (Nat → Int32)) (M_r22 : (Nat → Int32)) (M_r30 : (Nat → Int32)) (M_r31 : (Nat → Int32)) (M_r32 : (Nat → Int32)) (a1 : Int64) (z : (Int32 × (Nat → Int32) × Int32)) (h : fX6_feed M_r0 M_x1 a1 = some z) : Mt l yX6_feed cX6_feed 4 (some .int) 0 0 D cI cB cS (mW cI uM aM M_x1 M_x2 M_x3 M_x4 M_x5 M_x6 M_x7 M_x8 M_x12 M_x14 M_x17 M_x18 M_x19 M_x20 M_x23 M_x27 M_x29 M_x33 M_g24 M_g25 M_g26 M_g28 M_r0 M_r9 M_r10 M_r11 M_r13 M_r15 M_r16 M_r21 M_r22 M_r30 M_r31 M_r32) (mW cI uM aM z.2.2 M_x2 M_x3 M_x4 M_x5 M_x6 M_x7 M_x8 M_x12 M_x14 M_x17 M_x18 M_x19 M_x20 M_x23 M_x27 M_x29 M_x33 M_g24 M_g25 M_g26 M_g28 z.2.1 M_r9 M_r10 M_r11 M_r13 M_r15 M_r16 M_r21 M_r22 M_r30 M_r31 M_r32) [.ref uM, .long a1] (some (.int z.1)) := by
  refine entryI (by decide +kernel) rfl (Nat.le_of_ble_eq_true rfl) ?_
  intro p e s m below meth c A ls QQ R ar F hRet jP jD jS jl
  obtain ⟨hx, hb, hml, hown, hts, jK, hA, hf1, hf2⟩ := id F
  have jl : lv_has ls 4 [(0, .ref uM), (1, .long a1)] := jl
  unfold fX6_feed at h
  refine lv_aload_n hx hb dX6_feed_0 rfl (lv_at jl 0 rfl) ?_
  refine va_get (D := D) (ci := 6) (v := .int M_x1) (C := RX6) (T := TX6) (N := 34) hx hb hts in6 hown jK.1 jP 0 rfl rfl 1 (by decide) (hts _ w_100) (fun _ h9 => h9) rfl dX6_feed_1 ?_
  refine lv_bipush (v := (8 : Int32)) hx hb dX6_feed_4 (by decide) ?_
  refine lv_iadd hx hb dX6_feed_6 ?_
  refine lv_sipush (v := (240 : Int32)) hx hb dX6_feed_7 (by decide) ?_
  refine lv_icmp_le (tgt := 16) hx hb dX6_feed_10 (by decide) (fun c1 => ?_) (fun c1 => ?_)
  · have h := itp c1 h
    refine lv_bipush (v := (56 : Int32)) hx hb dX6_feed_16 (by decide) ?_
    refine lv_istore_n (lv' := [(3, .int (56 : Int32)), (0, .ref uM), (1, .long a1)]) hx hb dX6_feed_18 rfl jl (by decide) rfl (fun ls jl => ?_)
    obtain ⟨T2, hT2, hz2⟩ := bd_some h
    clear h
    have hE2 : ∀ (H : Heap) (locs : List Loc) (ls : Array Slot), va_P D vwCl (mW cI uM aM T2.2 M_x2 M_x3 M_x4 M_x5 M_x6 M_x7 M_x8 M_x12 M_x14 M_x17 M_x18 M_x19 M_x20 M_x23 M_x27 M_x29 M_x33 M_g24 M_g25 M_g26 M_g28 T2.1 M_r9 M_r10 M_r11 M_r13 M_r15 M_r16 M_r21 M_r22 M_r30 M_r31 M_r32) H → va_D A (mW cI uM aM T2.2 M_x2 M_x3 M_x4 M_x5 M_x6 M_x7 M_x8 M_x12 M_x14 M_x17 M_x18 M_x19 M_x20 M_x23 M_x27 M_x29 M_x33 M_g24 M_g25 M_g26 M_g28 T2.1 M_r9 M_r10 M_r11 M_r13 M_r15 M_r16 M_r21 M_r22 M_r30 M_r31 M_r32) → va_S A s.heap H locs → lv_has ls 4 [(0, .ref uM)] → W p l e R s m ar below meth c H locs 0 0 QQ (F0 m 56 ls []) := by
      clear jP jD jS jl
      intro H locs ls jP jD jS jl
      refine lv_aload_n hx hb dX6_feed_56 rfl (lv_at jl 0 rfl) ?_
      refine va_get (D := D) (ci := 6) (v := .int T2.2) (C := RX6) (T := TX6) (N := 34) hx hb hts in6 hown jK.1 jP 0 rfl rfl 1 (by decide) (hts _ w_100) (fun _ h9 => h9) rfl dX6_feed_57 ?_
      obtain rfl := Option.some.inj hz2
      exact hRet _ _ _ _ jP jD jS dX6_feed_60
    have hL2 : ∀ (n : Nat) (v2 : (Int32 × (Nat → Int32) × Int32)), loopF (fX6_feed_b19 a1) n v2 = some T2 → ∀ (H : Heap) (locs : List Loc) (ls : Array Slot), va_P D vwCl (mW cI uM aM v2.2.2 M_x2 M_x3 M_x4 M_x5 M_x6 M_x7 M_x8 M_x12 M_x14 M_x17 M_x18 M_x19 M_x20 M_x23 M_x27 M_x29 M_x33 M_g24 M_g25 M_g26 M_g28 v2.2.1 M_r9 M_r10 M_r11 M_r13 M_r15 M_r16 M_r21 M_r22 M_r30 M_r31 M_r32) H → va_D A (mW cI uM aM v2.2.2 M_x2 M_x3 M_x4 M_x5 M_x6 M_x7 M_x8 M_x12 M_x14 M_x17 M_x18 M_x19 M_x20 M_x23 M_x27 M_x29 M_x33 M_g24 M_g25 M_g26 M_g28 v2.2.1 M_r9 M_r10 M_r11 M_r13 M_r15 M_r16 M_r21 M_r22 M_r30 M_r31 M_r32) → va_S A s.heap H locs → lv_has ls 4 [(0, .ref uM), (1, .long a1), (3, .int v2.1)] → W p l e R s m ar below meth c H locs 0 0 QQ (F0 m 19 ls []) := by
      clear jP jD jS jl hT2
      intro n
      induction n with
      | zero => intro v2 hq; exact (loop_none hq).elim
      | succ n ih =>
        intro v2 hq H locs ls jP jD jS jl
        obtain ⟨o2, hv2, hq2⟩ := loop_some hq
        clear hq
        unfold fX6_feed_b19 at hv2
        refine lv_iload_n hx hb dX6_feed_19 rfl (lv_at jl 2 rfl) ?_
        refine lv_if_lt (tgt := 56) hx hb dX6_feed_20 (by decide) (fun c3 => ?_) (fun c3 => ?_)
        · have hv2 := itp c3 hv2
          obtain rfl := Option.some.inj hv2
          obtain rfl := nxt_r hq2
          exact hE2 _ _ _ jP jD jS (lv_sub jl [0] rfl)
        · have hv2 := itn c3 hv2
          refine lv_aload_n hx hb dX6_feed_23 rfl (lv_at jl 0 rfl) ?_
          refine va_get (D := D) (ci := 6) (v := .ref (aM 0)) (C := RX6) (T := TX6) (N := 34) hx hb hts in6 hown jK.1 jP 0 rfl rfl 0 (by decide) (hts _ w_77) (fun _ h9 => h9) rfl dX6_feed_24 ?_
          refine lv_aload_n hx hb dX6_feed_27 rfl (lv_at jl 0 rfl) ?_
          refine va_get (D := D) (ci := 6) (v := .int v2.2.2) (C := RX6) (T := TX6) (N := 34) hx hb hts in6 hown jK.1 jP 0 rfl rfl 1 (by decide) (hts _ w_100) (fun _ h9 => h9) rfl dX6_feed_28 ?_
          refine lv_lload_n hx hb dX6_feed_31 rfl (lv_at jl 1 rfl) ?_
          refine lv_iload_n hx hb dX6_feed_32 rfl (lv_at jl 2 rfl) ?_
          refine lv_lshr (v := (a1 >>> (v2.1.toInt64 &&& 63))) hx hb dX6_feed_33 rfl ?_
          refine lv_l2i (v := (a1 >>> (v2.1.toInt64 &&& 63)).toInt32) hx hb dX6_feed_34 rfl ?_
          refine lv_sipush (v := (255 : Int32)) hx hb dX6_feed_35 (by decide) ?_
          refine lv_iand hx hb dX6_feed_38 ?_
          obtain ⟨hin, hv2⟩ := ckI_some hv2
          refine va_iast (f := v2.2.1) hx hb jK.1 jP jD jS 1 0 rfl rfl hin dX6_feed_39 (fun H locs jP jD jS => ?_)
          have jP : va_P D vwCl (mW cI uM aM v2.2.2 M_x2 M_x3 M_x4 M_x5 M_x6 M_x7 M_x8 M_x12 M_x14 M_x17 M_x18 M_x19 M_x20 M_x23 M_x27 M_x29 M_x33 M_g24 M_g25 M_g26 M_g28 (upd v2.2.1 v2.2.2.toNatClampNeg ((a1 >>> (v2.1.toInt64 &&& 63)).toInt32 &&& (255 : Int32))) M_r9 M_r10 M_r11 M_r13 M_r15 M_r16 M_r21 M_r22 M_r30 M_r31 M_r32) H := jP
          have jD : va_D A (mW cI uM aM v2.2.2 M_x2 M_x3 M_x4 M_x5 M_x6 M_x7 M_x8 M_x12 M_x14 M_x17 M_x18 M_x19 M_x20 M_x23 M_x27 M_x29 M_x33 M_g24 M_g25 M_g26 M_g28 (upd v2.2.1 v2.2.2.toNatClampNeg ((a1 >>> (v2.1.toInt64 &&& 63)).toInt32 &&& (255 : Int32))) M_r9 M_r10 M_r11 M_r13 M_r15 M_r16 M_r21 M_r22 M_r30 M_r31 M_r32) := jD
          refine lv_aload_n hx hb dX6_feed_40 rfl (lv_at jl 0 rfl) ?_
          refine lv_dup hx hb dX6_feed_41 rfl ?_
          refine va_get (D := D) (ci := 6) (v := .int v2.2.2) (C := RX6) (T := TX6) (N := 34) hx hb hts in6 hown jK.1 jP 0 rfl rfl 1 (by decide) (hts _ w_100) (fun _ h9 => h9) rfl dX6_feed_42 ?_
          refine lv_iconst (v := (1 : Int32)) hx hb dX6_feed_45 (by decide) ?_
          refine lv_iadd hx hb dX6_feed_46 ?_
          refine va_put (D := D) (ci := 6) (v := .int (v2.2.2 + (1 : Int32))) (ty := .int) (C := RX6) (T := TX6) (N := 34) hx hb hts in6 tyX6 tyX6_ok nmX6 hown jK.1 jP jD jS 0 rfl rfl 1 (by decide) (hts _ w_100) (fun _ h9 => h9) rfl (by decide +kernel) rfl rfl (Nat.le_of_ble_eq_true rfl) dX6_feed_47 (fun H locs jP jD jS => ?_)
          have jP : va_P D vwCl (mW cI uM aM (v2.2.2 + (1 : Int32)) M_x2 M_x3 M_x4 M_x5 M_x6 M_x7 M_x8 M_x12 M_x14 M_x17 M_x18 M_x19 M_x20 M_x23 M_x27 M_x29 M_x33 M_g24 M_g25 M_g26 M_g28 (upd v2.2.1 v2.2.2.toNatClampNeg ((a1 >>> (v2.1.toInt64 &&& 63)).toInt32 &&& (255 : Int32))) M_r9 M_r10 M_r11 M_r13 M_r15 M_r16 M_r21 M_r22 M_r30 M_r31 M_r32) H := jP
          have jD : va_D A (mW cI uM aM (v2.2.2 + (1 : Int32)) M_x2 M_x3 M_x4 M_x5 M_x6 M_x7 M_x8 M_x12 M_x14 M_x17 M_x18 M_x19 M_x20 M_x23 M_x27 M_x29 M_x33 M_g24 M_g25 M_g26 M_g28 (upd v2.2.1 v2.2.2.toNatClampNeg ((a1 >>> (v2.1.toInt64 &&& 63)).toInt32 &&& (255 : Int32))) M_r9 M_r10 M_r11 M_r13 M_r15 M_r16 M_r21 M_r22 M_r30 M_r31 M_r32) := jD
          refine lv_iinc (v := (v2.1 + (-8 : Int32))) (lv' := [(3, .int (v2.1 + (-8 : Int32))), (0, .ref uM), (1, .long a1)]) hx hb dX6_feed_50 jl (k := 2) rfl rfl (by decide) rfl (fun ls jl => ?_)
          refine lv_goto (tgt := 19) hx hb dX6_feed_53 (by decide) ?_
          obtain rfl := Option.some.inj hv2
          exact ih _ (nxt_l hq2) _ _ _ jP jD jS (lv_sub jl [1, 2, 0] rfl)
    exact hL2 1000 _ hT2 _ _ _ jP jD jS (lv_sub jl [1, 2, 0] rfl)
  · have h := itn c1 h
    refine lv_bipush (v := (-3 : Int32)) hx hb dX6_feed_13 (by decide) ?_
    obtain rfl := Option.some.inj h
    exact hRet _ _ _ _ jP jD jS dX6_feed_15
theorem okX6_end : okV yX6_end cX6_end 3 (some .int) 1 := ⟨w_109, w_110, w_111, w_5, by decide, by decide, by decide +kernel⟩
def fX6_end (M_x1 : Int32) (a1 : Int32) : Option (Int32 × Int32) :=
  bd (fX6_in a1.toInt64 (0 : Int64) ((M_x1).toInt64)) (fun t1 => if t1 = (0 : Int32) then (some ((-1 : Int32), M_x1)) else (some (M_x1, a1)))
set_option maxRecDepth 100000 in
set_option maxHeartbeats 4000000 in
theorem kX6_end (l : Launch) (D : va_G) (cI cB cS : ClassId) (uM : Nat) (aM : Nat → Nat) (M_x1 : Int32) (M_x2 : Int32) (M_x3 : Int32) (M_x4 : Int32) (M_x5 : Int32) (M_x6 : Int32) (M_x7 : Int32) (M_x8 : Int32) (M_x12 : Int32) (M_x14 : Int32) (M_x17 : Int32) (M_x18 : Int32) (M_x19 : Int32) (M_x20 : Int32) (M_x23 : Int32) (M_x27 : Int32) (M_x29 : Int32) (M_x33 : Int32) (M_g24 : Int64) (M_g25 : Int64) (M_g26 : Int64) (M_g28 : Int64) (M_r0 : (Nat → Int32)) (M_r9 : (Nat → Int32)) (M_r10 : (Nat → Int32)) (M_r11 : (Nat → Int32)) (M_r13 : (Nat → Int32)) (M_r15 : (Nat → Int32)) (M_r16 : (Nat → Int32)) (M_r21 : (Nat → Int32)) (M_r22 : (Nat → Int32)) (M_r30 : (Nat → Int32)) (M_r31 : (Nat → Int32)) (M_r32 : (Nat → Int32)) (a1 : Int32) (z : (Int32 × Int32)) (h : fX6_end M_x1 a1 = some z) : Mt l yX6_end cX6_end 3 (some .int) 1 25 D cI cB cS (mW cI uM aM M_x1 M_x2 M_x3 M_x4 M_x5 M_x6 M_x7 M_x8 M_x12 M_x14 M_x17 M_x18 M_x19 M_x20 M_x23 M_x27 M_x29 M_x33 M_g24 M_g25 M_g26 M_g28 M_r0 M_r9 M_r10 M_r11 M_r13 M_r15 M_r16 M_r21 M_r22 M_r30 M_r31 M_r32) (mW cI uM aM z.2 M_x2 M_x3 M_x4 M_x5 M_x6 M_x7 M_x8 M_x12 M_x14 M_x17 M_x18 M_x19 M_x20 M_x23 M_x27 M_x29 M_x33 M_g24 M_g25 M_g26 M_g28 M_r0 M_r9 M_r10 M_r11 M_r13 M_r15 M_r16 M_r21 M_r22 M_r30 M_r31 M_r32) [.ref uM, .int a1] (some (.int z.1)) := by
  refine entryI (by decide +kernel) rfl (Nat.le_of_ble_eq_true rfl) ?_
  intro p e s m below meth c A ls QQ R ar F hRet jP jD jS jl
  obtain ⟨hx, hb, hml, hown, hts, jK, hA, hf1, hf2⟩ := id F
  have jl : lv_has ls 3 [(0, .ref uM), (1, .int a1)] := jl
  unfold fX6_end at h
  refine lv_iload_n hx hb dX6_end_0 rfl (lv_at jl 1 rfl) ?_
  refine lv_i2l (v := a1.toInt64) hx hb dX6_end_1 rfl ?_
  refine lv_lconst (v := (0 : Int64)) hx hb dX6_end_2 (by decide) ?_
  refine lv_aload_n hx hb dX6_end_3 rfl (lv_at jl 0 rfl) ?_
  refine va_get (D := D) (ci := 6) (v := .int M_x1) (C := RX6) (T := TX6) (N := 34) hx hb hts in6 hown jK.1 jP 0 rfl rfl 1 (by decide) (hts _ w_100) (fun _ h9 => h9) rfl dX6_end_4 ?_
  refine lv_i2l (v := (M_x1).toInt64) hx hb dX6_end_7 rfl ?_
  obtain ⟨t1, hc2, h⟩ := bd_some h
  refine call0 (As := [.long a1.toInt64, .long (0 : Int64), .long ((M_x1).toInt64)]) (rest := []) (st1 := [.int t1]) F (kX6_in l D cI cB cS  a1.toInt64 (0 : Int64) ((M_x1).toInt64) _ hc2 ) okX6_in w_112 (by decide) (by decide) ⟨Nat.zero_le _, Nat.zero_le _⟩ jP jD jS rfl jl.1 rfl rfl (Nat.le_of_ble_eq_true rfl) dX6_end_8 (fun H locs jP jD jS => ?_)
  refine lv_if_ne (tgt := 16) hx hb dX6_end_11 (by decide) (fun c3 => ?_) (fun c3 => ?_)
  · have h := itn c3 h
    refine lv_aload_n hx hb dX6_end_16 rfl (lv_at jl 0 rfl) ?_
    refine va_get (D := D) (ci := 6) (v := .int M_x1) (C := RX6) (T := TX6) (N := 34) hx hb hts in6 hown jK.1 jP 0 rfl rfl 1 (by decide) (hts _ w_100) (fun _ h9 => h9) rfl dX6_end_17 ?_
    refine lv_istore_n (lv' := [(2, .int M_x1), (0, .ref uM), (1, .int a1)]) hx hb dX6_end_20 rfl jl (by decide) rfl (fun ls jl => ?_)
    refine lv_aload_n hx hb dX6_end_21 rfl (lv_at jl 1 rfl) ?_
    refine lv_iload_n hx hb dX6_end_22 rfl (lv_at jl 2 rfl) ?_
    refine va_put (D := D) (ci := 6) (v := .int a1) (ty := .int) (C := RX6) (T := TX6) (N := 34) hx hb hts in6 tyX6 tyX6_ok nmX6 hown jK.1 jP jD jS 0 rfl rfl 1 (by decide) (hts _ w_100) (fun _ h9 => h9) rfl (by decide +kernel) rfl rfl (Nat.le_of_ble_eq_true rfl) dX6_end_23 (fun H locs jP jD jS => ?_)
    have jP : va_P D vwCl (mW cI uM aM a1 M_x2 M_x3 M_x4 M_x5 M_x6 M_x7 M_x8 M_x12 M_x14 M_x17 M_x18 M_x19 M_x20 M_x23 M_x27 M_x29 M_x33 M_g24 M_g25 M_g26 M_g28 M_r0 M_r9 M_r10 M_r11 M_r13 M_r15 M_r16 M_r21 M_r22 M_r30 M_r31 M_r32) H := jP
    have jD : va_D A (mW cI uM aM a1 M_x2 M_x3 M_x4 M_x5 M_x6 M_x7 M_x8 M_x12 M_x14 M_x17 M_x18 M_x19 M_x20 M_x23 M_x27 M_x29 M_x33 M_g24 M_g25 M_g26 M_g28 M_r0 M_r9 M_r10 M_r11 M_r13 M_r15 M_r16 M_r21 M_r22 M_r30 M_r31 M_r32) := jD
    refine lv_iload_n hx hb dX6_end_26 rfl (lv_at jl 0 rfl) ?_
    obtain rfl := Option.some.inj h
    exact hRet _ _ _ _ jP jD jS dX6_end_27
  · have h := itp c3 h
    refine lv_iconst (v := (-1 : Int32)) hx hb dX6_end_14 (by decide) ?_
    obtain rfl := Option.some.inj h
    exact hRet _ _ _ _ jP jD jS dX6_end_15
theorem okX6_fault : okV yX6_fault cX6_fault 1 (some .int) 0 := ⟨w_269, w_270, w_271, w_5, by decide, by decide, by decide +kernel⟩
def fX6_fault (M_x2 : Int32) : Option Int32 :=
  some M_x2
set_option maxRecDepth 100000 in
set_option maxHeartbeats 4000000 in
theorem kX6_fault (l : Launch) (D : va_G) (cI cB cS : ClassId) (uM : Nat) (aM : Nat → Nat) (M_x1 : Int32) (M_x2 : Int32) (M_x3 : Int32) (M_x4 : Int32) (M_x5 : Int32) (M_x6 : Int32) (M_x7 : Int32) (M_x8 : Int32) (M_x12 : Int32) (M_x14 : Int32) (M_x17 : Int32) (M_x18 : Int32) (M_x19 : Int32) (M_x20 : Int32) (M_x23 : Int32) (M_x27 : Int32) (M_x29 : Int32) (M_x33 : Int32) (M_g24 : Int64) (M_g25 : Int64) (M_g26 : Int64) (M_g28 : Int64) (M_r0 : (Nat → Int32)) (M_r9 : (Nat → Int32)) (M_r10 : (Nat → Int32)) (M_r11 : (Nat → Int32)) (M_r13 : (Nat → Int32)) (M_r15 : (Nat → Int32)) (M_r16 : (Nat → Int32)) (M_r21 : (Nat → Int32)) (M_r22 : (Nat → Int32)) (M_r30 : (Nat → Int32)) (M_r31 : (Nat → Int32)) (M_r32 : (Nat → Int32)) (z : Int32) (h : fX6_fault M_x2 = some z) : Mt l yX6_fault cX6_fault 1 (some .int) 0 0 D cI cB cS (mW cI uM aM M_x1 M_x2 M_x3 M_x4 M_x5 M_x6 M_x7 M_x8 M_x12 M_x14 M_x17 M_x18 M_x19 M_x20 M_x23 M_x27 M_x29 M_x33 M_g24 M_g25 M_g26 M_g28 M_r0 M_r9 M_r10 M_r11 M_r13 M_r15 M_r16 M_r21 M_r22 M_r30 M_r31 M_r32) (mW cI uM aM M_x1 M_x2 M_x3 M_x4 M_x5 M_x6 M_x7 M_x8 M_x12 M_x14 M_x17 M_x18 M_x19 M_x20 M_x23 M_x27 M_x29 M_x33 M_g24 M_g25 M_g26 M_g28 M_r0 M_r9 M_r10 M_r11 M_r13 M_r15 M_r16 M_r21 M_r22 M_r30 M_r31 M_r32) [.ref uM] (some (.int z)) := by
  refine entryI (by decide +kernel) rfl (Nat.le_of_ble_eq_true rfl) ?_
  intro p e s m below meth c A ls QQ R ar F hRet jP jD jS jl
  obtain ⟨hx, hb, hml, hown, hts, jK, hA, hf1, hf2⟩ := id F
  have jl : lv_has ls 1 [(0, .ref uM)] := jl
  unfold fX6_fault at h
  refine lv_aload_n hx hb dX6_fault_0 rfl (lv_at jl 0 rfl) ?_
  refine va_get (D := D) (ci := 6) (v := .int M_x2) (C := RX6) (T := TX6) (N := 34) hx hb hts in6 hown jK.1 jP 0 rfl rfl 2 (by decide) (hts _ w_220) (fun _ h9 => h9) rfl dX6_fault_1 ?_
  obtain rfl := Option.some.inj h
  exact hRet _ _ _ _ jP jD jS dX6_fault_4
theorem okX6_its : okV yX6_its cX6_its 3 (some .int) 2 := ⟨w_321, w_322, w_323, w_5, by decide, by decide, by decide +kernel⟩
def fX6_its (M_r11 : (Nat → Int32)) (a1 : Int32) (a2 : Int32) : Option Int32 :=
  ckI (((5 : Int32) * a1) + a2) 40 (some (M_r11 (((5 : Int32) * a1) + a2).toNatClampNeg))
set_option maxRecDepth 100000 in
set_option maxHeartbeats 4000000 in
theorem kX6_its (l : Launch) (D : va_G) (cI cB cS : ClassId) (uM : Nat) (aM : Nat → Nat) (M_x1 : Int32) (M_x2 : Int32) (M_x3 : Int32) (M_x4 : Int32) (M_x5 : Int32) (M_x6 : Int32) (M_x7 : Int32) (M_x8 : Int32) (M_x12 : Int32) (M_x14 : Int32) (M_x17 : Int32) (M_x18 : Int32) (M_x19 : Int32) (M_x20 : Int32) (M_x23 : Int32) (M_x27 : Int32) (M_x29 : Int32) (M_x33 : Int32) (M_g24 : Int64) (M_g25 : Int64) (M_g26 : Int64) (M_g28 : Int64) (M_r0 : (Nat → Int32)) (M_r9 : (Nat → Int32)) (M_r10 : (Nat → Int32)) (M_r11 : (Nat → Int32)) (M_r13 : (Nat → Int32)) (M_r15 : (Nat → Int32)) (M_r16 : (Nat → Int32)) (M_r21 : (Nat → Int32)) (M_r22 : (Nat → Int32)) (M_r30 : (Nat → Int32)) (M_r31 : (Nat → Int32)) (M_r32 : (Nat → Int32)) (a1 : Int32) (a2 : Int32) (z : Int32) (h : fX6_its M_r11 a1 a2 = some z) : Mt l yX6_its cX6_its 3 (some .int) 0 0 D cI cB cS (mW cI uM aM M_x1 M_x2 M_x3 M_x4 M_x5 M_x6 M_x7 M_x8 M_x12 M_x14 M_x17 M_x18 M_x19 M_x20 M_x23 M_x27 M_x29 M_x33 M_g24 M_g25 M_g26 M_g28 M_r0 M_r9 M_r10 M_r11 M_r13 M_r15 M_r16 M_r21 M_r22 M_r30 M_r31 M_r32) (mW cI uM aM M_x1 M_x2 M_x3 M_x4 M_x5 M_x6 M_x7 M_x8 M_x12 M_x14 M_x17 M_x18 M_x19 M_x20 M_x23 M_x27 M_x29 M_x33 M_g24 M_g25 M_g26 M_g28 M_r0 M_r9 M_r10 M_r11 M_r13 M_r15 M_r16 M_r21 M_r22 M_r30 M_r31 M_r32) [.ref uM, .int a1, .int a2] (some (.int z)) := by
  refine entryI (by decide +kernel) rfl (Nat.le_of_ble_eq_true rfl) ?_
  intro p e s m below meth c A ls QQ R ar F hRet jP jD jS jl
  obtain ⟨hx, hb, hml, hown, hts, jK, hA, hf1, hf2⟩ := id F
  have jl : lv_has ls 3 [(0, .ref uM), (1, .int a1), (2, .int a2)] := jl
  unfold fX6_its at h
  refine lv_aload_n hx hb dX6_its_0 rfl (lv_at jl 0 rfl) ?_
  refine va_get (D := D) (ci := 6) (v := .ref (aM 11)) (C := RX6) (T := TX6) (N := 34) hx hb hts in6 hown jK.1 jP 0 rfl rfl 11 (by decide) (hts _ w_80) (fun _ h9 => h9) rfl dX6_its_1 ?_
  refine lv_iconst (v := (5 : Int32)) hx hb dX6_its_4 (by decide) ?_
  refine lv_iload_n hx hb dX6_its_5 rfl (lv_at jl 1 rfl) ?_
  refine lv_imul hx hb dX6_its_6 ?_
  refine lv_iload_n hx hb dX6_its_7 rfl (lv_at jl 2 rfl) ?_
  refine lv_iadd hx hb dX6_its_8 ?_
  obtain ⟨hin, h⟩ := ckI_some h
  refine va_iald (f := M_r11) hx hb jK.1 jP 4 0 rfl rfl hin dX6_its_9 ?_
  obtain rfl := Option.some.inj h
  exact hRet _ _ _ _ jP jD jS dX6_its_10
theorem okX6_isSort : okV yX6_isSort cX6_isSort 2 (some .boolean) 1 := ⟨w_317, w_318, w_319, w_5, by decide, by decide, by decide +kernel⟩
def fX6_isSort (M_x12 : Int32) (a1 : Int32) : Option Int32 :=
  bd (fX6_in a1.toInt64 (0 : Int64) ((M_x12 - (1 : Int32)).toInt64)) (fun t1 => ckB t1 (some t1))
set_option maxRecDepth 100000 in
set_option maxHeartbeats 4000000 in
theorem kX6_isSort (l : Launch) (D : va_G) (cI cB cS : ClassId) (uM : Nat) (aM : Nat → Nat) (M_x1 : Int32) (M_x2 : Int32) (M_x3 : Int32) (M_x4 : Int32) (M_x5 : Int32) (M_x6 : Int32) (M_x7 : Int32) (M_x8 : Int32) (M_x12 : Int32) (M_x14 : Int32) (M_x17 : Int32) (M_x18 : Int32) (M_x19 : Int32) (M_x20 : Int32) (M_x23 : Int32) (M_x27 : Int32) (M_x29 : Int32) (M_x33 : Int32) (M_g24 : Int64) (M_g25 : Int64) (M_g26 : Int64) (M_g28 : Int64) (M_r0 : (Nat → Int32)) (M_r9 : (Nat → Int32)) (M_r10 : (Nat → Int32)) (M_r11 : (Nat → Int32)) (M_r13 : (Nat → Int32)) (M_r15 : (Nat → Int32)) (M_r16 : (Nat → Int32)) (M_r21 : (Nat → Int32)) (M_r22 : (Nat → Int32)) (M_r30 : (Nat → Int32)) (M_r31 : (Nat → Int32)) (M_r32 : (Nat → Int32)) (a1 : Int32) (z : Int32) (h : fX6_isSort M_x12 a1 = some z) : Mt l yX6_isSort cX6_isSort 2 (some .boolean) 1 25 D cI cB cS (mW cI uM aM M_x1 M_x2 M_x3 M_x4 M_x5 M_x6 M_x7 M_x8 M_x12 M_x14 M_x17 M_x18 M_x19 M_x20 M_x23 M_x27 M_x29 M_x33 M_g24 M_g25 M_g26 M_g28 M_r0 M_r9 M_r10 M_r11 M_r13 M_r15 M_r16 M_r21 M_r22 M_r30 M_r31 M_r32) (mW cI uM aM M_x1 M_x2 M_x3 M_x4 M_x5 M_x6 M_x7 M_x8 M_x12 M_x14 M_x17 M_x18 M_x19 M_x20 M_x23 M_x27 M_x29 M_x33 M_g24 M_g25 M_g26 M_g28 M_r0 M_r9 M_r10 M_r11 M_r13 M_r15 M_r16 M_r21 M_r22 M_r30 M_r31 M_r32) [.ref uM, .int a1] (some (.int z)) := by
  refine entryZ (by decide +kernel) rfl (Nat.le_of_ble_eq_true rfl) ?_
  intro p e s m below meth c A ls QQ R ar F hRet jP jD jS jl
  obtain ⟨hx, hb, hml, hown, hts, jK, hA, hf1, hf2⟩ := id F
  have jl : lv_has ls 2 [(0, .ref uM), (1, .int a1)] := jl
  unfold fX6_isSort at h
  refine lv_iload_n hx hb dX6_isSort_0 rfl (lv_at jl 1 rfl) ?_
  refine lv_i2l (v := a1.toInt64) hx hb dX6_isSort_1 rfl ?_
  refine lv_lconst (v := (0 : Int64)) hx hb dX6_isSort_2 (by decide) ?_
  refine lv_aload_n hx hb dX6_isSort_3 rfl (lv_at jl 0 rfl) ?_
  refine va_get (D := D) (ci := 6) (v := .int M_x12) (C := RX6) (T := TX6) (N := 34) hx hb hts in6 hown jK.1 jP 0 rfl rfl 12 (by decide) (hts _ w_222) (fun _ h9 => h9) rfl dX6_isSort_4 ?_
  refine lv_iconst (v := (1 : Int32)) hx hb dX6_isSort_7 (by decide) ?_
  refine lv_isub hx hb dX6_isSort_8 ?_
  refine lv_i2l (v := (M_x12 - (1 : Int32)).toInt64) hx hb dX6_isSort_9 rfl ?_
  obtain ⟨t1, hc2, h⟩ := bd_some h
  refine call0 (As := [.long a1.toInt64, .long (0 : Int64), .long ((M_x12 - (1 : Int32)).toInt64)]) (rest := []) (st1 := [.int t1]) F (kX6_in l D cI cB cS  a1.toInt64 (0 : Int64) ((M_x12 - (1 : Int32)).toInt64) _ hc2 ) okX6_in w_112 (by decide) (by decide) ⟨Nat.zero_le _, Nat.zero_le _⟩ jP jD jS rfl jl.1 rfl rfl (Nat.le_of_ble_eq_true rfl) dX6_isSort_10 (fun H locs jP jD jS => ?_)
  obtain ⟨hbz, h⟩ := ckB_some h
  obtain rfl := Option.some.inj h
  exact hRet _ _ _ _ hbz jP jD jS dX6_isSort_13
theorem okX6_sort : okV yX6_sort cX6_sort 4 (some .int) 3 := ⟨w_282, w_283, w_284, w_5, by decide, by decide, by decide +kernel⟩
def fX6_sort (M_r11 : (Nat → Int32)) (M_x12 : Int32) (a1 : Int32) (a2 : Int32) (a3 : Int32) : Option (Int32 × (Nat → Int32) × Int32) :=
  bd (fX6_isAsTold a1 a2 a3 (0 : Int32)) (fun t1 => if t1 = (0 : Int32) then (some ((-1 : Int32), M_r11, M_x12)) else (if M_x12 = (8 : Int32) then (some ((-3 : Int32), M_r11, M_x12)) else (bd (fX6_layRowa (M_r11) (M_x12) a1 a2 a3 (0 : Int32)) (fun t5 => some (((M_x12 + (1 : Int32)) - (1 : Int32)), t5, (M_x12 + (1 : Int32)))))))
set_option maxRecDepth 100000 in
set_option maxHeartbeats 4000000 in
theorem kX6_sort (l : Launch) (D : va_G) (cI cB cS : ClassId) (uM : Nat) (aM : Nat → Nat) (M_x1 : Int32) (M_x2 : Int32) (M_x3 : Int32) (M_x4 : Int32) (M_x5 : Int32) (M_x6 : Int32) (M_x7 : Int32) (M_x8 : Int32) (M_x12 : Int32) (M_x14 : Int32) (M_x17 : Int32) (M_x18 : Int32) (M_x19 : Int32) (M_x20 : Int32) (M_x23 : Int32) (M_x27 : Int32) (M_x29 : Int32) (M_x33 : Int32) (M_g24 : Int64) (M_g25 : Int64) (M_g26 : Int64) (M_g28 : Int64) (M_r0 : (Nat → Int32)) (M_r9 : (Nat → Int32)) (M_r10 : (Nat → Int32)) (M_r11 : (Nat → Int32)) (M_r13 : (Nat → Int32)) (M_r15 : (Nat → Int32)) (M_r16 : (Nat → Int32)) (M_r21 : (Nat → Int32)) (M_r22 : (Nat → Int32)) (M_r30 : (Nat → Int32)) (M_r31 : (Nat → Int32)) (M_r32 : (Nat → Int32)) (a1 : Int32) (a2 : Int32) (a3 : Int32) (z : (Int32 × (Nat → Int32) × Int32)) (h : fX6_sort M_r11 M_x12 a1 a2 a3 = some z) : Mt l yX6_sort cX6_sort 4 (some .int) 2 48 D cI cB cS (mW cI uM aM M_x1 M_x2 M_x3 M_x4 M_x5 M_x6 M_x7 M_x8 M_x12 M_x14 M_x17 M_x18 M_x19 M_x20 M_x23 M_x27 M_x29 M_x33 M_g24 M_g25 M_g26 M_g28 M_r0 M_r9 M_r10 M_r11 M_r13 M_r15 M_r16 M_r21 M_r22 M_r30 M_r31 M_r32) (mW cI uM aM M_x1 M_x2 M_x3 M_x4 M_x5 M_x6 M_x7 M_x8 z.2.2 M_x14 M_x17 M_x18 M_x19 M_x20 M_x23 M_x27 M_x29 M_x33 M_g24 M_g25 M_g26 M_g28 M_r0 M_r9 M_r10 z.2.1 M_r13 M_r15 M_r16 M_r21 M_r22 M_r30 M_r31 M_r32) [.ref uM, .int a1, .int a2, .int a3] (some (.int z.1)) := by
  refine entryI (by decide +kernel) rfl (Nat.le_of_ble_eq_true rfl) ?_
  intro p e s m below meth c A ls QQ R ar F hRet jP jD jS jl
  obtain ⟨hx, hb, hml, hown, hts, jK, hA, hf1, hf2⟩ := id F
  have jl : lv_has ls 4 [(0, .ref uM), (1, .int a1), (2, .int a2), (3, .int a3)] := jl
  unfold fX6_sort at h
  refine lv_iload_n hx hb dX6_sort_0 rfl (lv_at jl 1 rfl) ?_
  refine lv_iload_n hx hb dX6_sort_1 rfl (lv_at jl 2 rfl) ?_
  refine lv_iload_n hx hb dX6_sort_2 rfl (lv_at jl 3 rfl) ?_
  refine lv_iconst (v := (0 : Int32)) hx hb dX6_sort_3 (by decide) ?_
  obtain ⟨t1, hc2, h⟩ := bd_some h
  refine call0 (As := [.int a1, .int a2, .int a3, .int (0 : Int32)]) (rest := []) (st1 := [.int t1]) F (kX6_isAsTold l D cI cB cS  a1 a2 a3 (0 : Int32) _ hc2 ) okX6_isAsTold w_285 (by decide) (by decide) ⟨Nat.zero_le _, Nat.zero_le _⟩ jP jD jS rfl jl.1 rfl rfl (Nat.le_of_ble_eq_true rfl) dX6_sort_4 (fun H locs jP jD jS => ?_)
  refine lv_if_ne (tgt := 12) hx hb dX6_sort_7 (by decide) (fun c3 => ?_) (fun c3 => ?_)
  · have h := itn c3 h
    refine lv_aload_n hx hb dX6_sort_12 rfl (lv_at jl 0 rfl) ?_
    refine va_get (D := D) (ci := 6) (v := .int M_x12) (C := RX6) (T := TX6) (N := 34) hx hb hts in6 hown jK.1 jP 0 rfl rfl 12 (by decide) (hts _ w_222) (fun _ h9 => h9) rfl dX6_sort_13 ?_
    refine lv_bipush (v := (8 : Int32)) hx hb dX6_sort_16 (by decide) ?_
    refine lv_icmp_ne (tgt := 24) hx hb dX6_sort_18 (by decide) (fun c4 => ?_) (fun c4 => ?_)
    · have h := itn c4 h
      refine lv_aload_n hx hb dX6_sort_24 rfl (lv_at jl 0 rfl) ?_
      refine va_get (D := D) (ci := 6) (v := .ref (aM 11)) (C := RX6) (T := TX6) (N := 34) hx hb hts in6 hown jK.1 jP 0 rfl rfl 11 (by decide) (hts _ w_80) (fun _ h9 => h9) rfl dX6_sort_25 ?_
      refine lv_aload_n hx hb dX6_sort_28 rfl (lv_at jl 0 rfl) ?_
      refine va_get (D := D) (ci := 6) (v := .int M_x12) (C := RX6) (T := TX6) (N := 34) hx hb hts in6 hown jK.1 jP 0 rfl rfl 12 (by decide) (hts _ w_222) (fun _ h9 => h9) rfl dX6_sort_29 ?_
      refine lv_iload_n hx hb dX6_sort_32 rfl (lv_at jl 1 rfl) ?_
      refine lv_iload_n hx hb dX6_sort_33 rfl (lv_at jl 2 rfl) ?_
      refine lv_iload_n hx hb dX6_sort_34 rfl (lv_at jl 3 rfl) ?_
      refine lv_iconst (v := (0 : Int32)) hx hb dX6_sort_35 (by decide) ?_
      obtain ⟨t5, hc6, h⟩ := bd_some h
      refine callPS (wc := (mW cI uM aM M_x1 M_x2 M_x3 M_x4 M_x5 M_x6 M_x7 M_x8 M_x12 M_x14 M_x17 M_x18 M_x19 M_x20 M_x23 M_x27 M_x29 M_x33 M_g24 M_g25 M_g26 M_g28 M_r0 M_r9 M_r10 M_r11 M_r13 M_r15 M_r16 M_r21 M_r22 M_r30 M_r31 M_r32)) (wr := []) (w1 := (mW cI uM aM M_x1 M_x2 M_x3 M_x4 M_x5 M_x6 M_x7 M_x8 M_x12 M_x14 M_x17 M_x18 M_x19 M_x20 M_x23 M_x27 M_x29 M_x33 M_g24 M_g25 M_g26 M_g28 M_r0 M_r9 M_r10 t5 M_r13 M_r15 M_r16 M_r21 M_r22 M_r30 M_r31 M_r32)) (ws1 := (mW cI uM aM M_x1 M_x2 M_x3 M_x4 M_x5 M_x6 M_x7 M_x8 M_x12 M_x14 M_x17 M_x18 M_x19 M_x20 M_x23 M_x27 M_x29 M_x33 M_g24 M_g25 M_g26 M_g28 M_r0 M_r9 M_r10 t5 M_r13 M_r15 M_r16 M_r21 M_r22 M_r30 M_r31 M_r32)) (As := [.ref (aM 11), .int M_x12, .int a1, .int a2, .int a3, .int (0 : Int32)]) (rest := []) (st1 := []) [0, 1, 2, 3, 4, 5, 6, 7, 8, 9, 10, 11, 12] [] [0, 1, 2, 3, 4, 5, 6, 7, 8, 9, 10, 11, 12] F (kX6_layRowa l D cI cB cS uM aM M_x1 M_x2 M_x3 M_x4 M_x5 M_x6 M_x7 M_x8 M_x12 M_x14 M_x17 M_x18 M_x19 M_x20 M_x23 M_x27 M_x29 M_x33 M_g24 M_g25 M_g26 M_g28 M_r0 M_r9 M_r10 M_r11 M_r13 M_r15 M_r16 M_r21 M_r22 M_r30 M_r31 M_r32 M_x12 a1 a2 a3 (0 : Int32) _ hc6 ) okX6_layRow w_257 (by decide) (by decide) ⟨Nat.zero_le _, Nat.zero_le _⟩ jP jD jS rfl jl.1 rfl rfl (Nat.le_of_ble_eq_true rfl) dX6_sort_36 rfl rfl (by decide) (by decide) (by decide) rfl (by decide) (fun H locs jP jD jS => ?_)
      refine lv_aload_n hx hb dX6_sort_39 rfl (lv_at jl 0 rfl) ?_
      refine lv_dup hx hb dX6_sort_40 rfl ?_
      refine va_get (D := D) (ci := 6) (v := .int M_x12) (C := RX6) (T := TX6) (N := 34) hx hb hts in6 hown jK.1 jP 0 rfl rfl 12 (by decide) (hts _ w_222) (fun _ h9 => h9) rfl dX6_sort_41 ?_
      refine lv_iconst (v := (1 : Int32)) hx hb dX6_sort_44 (by decide) ?_
      refine lv_iadd hx hb dX6_sort_45 ?_
      refine va_put (D := D) (ci := 6) (v := .int (M_x12 + (1 : Int32))) (ty := .int) (C := RX6) (T := TX6) (N := 34) hx hb hts in6 tyX6 tyX6_ok nmX6 hown jK.1 jP jD jS 0 rfl rfl 12 (by decide) (hts _ w_222) (fun _ h9 => h9) rfl (by decide +kernel) rfl rfl (Nat.le_of_ble_eq_true rfl) dX6_sort_46 (fun H locs jP jD jS => ?_)
      have jP : va_P D vwCl (mW cI uM aM M_x1 M_x2 M_x3 M_x4 M_x5 M_x6 M_x7 M_x8 (M_x12 + (1 : Int32)) M_x14 M_x17 M_x18 M_x19 M_x20 M_x23 M_x27 M_x29 M_x33 M_g24 M_g25 M_g26 M_g28 M_r0 M_r9 M_r10 t5 M_r13 M_r15 M_r16 M_r21 M_r22 M_r30 M_r31 M_r32) H := jP
      have jD : va_D A (mW cI uM aM M_x1 M_x2 M_x3 M_x4 M_x5 M_x6 M_x7 M_x8 (M_x12 + (1 : Int32)) M_x14 M_x17 M_x18 M_x19 M_x20 M_x23 M_x27 M_x29 M_x33 M_g24 M_g25 M_g26 M_g28 M_r0 M_r9 M_r10 t5 M_r13 M_r15 M_r16 M_r21 M_r22 M_r30 M_r31 M_r32) := jD
      refine lv_aload_n hx hb dX6_sort_49 rfl (lv_at jl 0 rfl) ?_
      refine va_get (D := D) (ci := 6) (v := .int (M_x12 + (1 : Int32))) (C := RX6) (T := TX6) (N := 34) hx hb hts in6 hown jK.1 jP 0 rfl rfl 12 (by decide) (hts _ w_222) (fun _ h9 => h9) rfl dX6_sort_50 ?_
      refine lv_iconst (v := (1 : Int32)) hx hb dX6_sort_53 (by decide) ?_
      refine lv_isub hx hb dX6_sort_54 ?_
      obtain rfl := Option.some.inj h
      exact hRet _ _ _ _ jP jD jS dX6_sort_55
    · have h := itp c4 h
      refine lv_bipush (v := (-3 : Int32)) hx hb dX6_sort_21 (by decide) ?_
      obtain rfl := Option.some.inj h
      exact hRet _ _ _ _ jP jD jS dX6_sort_23
  · have h := itp c3 h
    refine lv_iconst (v := (-1 : Int32)) hx hb dX6_sort_10 (by decide) ?_
    obtain rfl := Option.some.inj h
    exact hRet _ _ _ _ jP jD jS dX6_sort_11
theorem okX6_set : okV yX6_set cX6_set 7 (some .int) 3 := ⟨w_312, w_313, w_314, w_5, by decide, by decide, by decide +kernel⟩
def fX6_set (M_r11 : (Nat → Int32)) (M_x12 : Int32) (a1 : Int32) (a2 : Int32) (a3 : Int32) : Option (Int32 × (Nat → Int32)) :=
  bd (fX6_isSort (M_x12) a1) (fun t1 => if t1 = (0 : Int32) then (some ((-1 : Int32), M_r11)) else (bd (fX6_in a2.toInt64 (0 : Int64) (4 : Int64)) (fun t4 => if t4 = (0 : Int32) then (some ((-1 : Int32), M_r11)) else (bd (if a2 = (0 : Int32) then (bd (fX6_its (M_r11) a1 (4 : Int32)) (fun t8 => if t8 ≤ (1 : Int32) then (some (1 : Int32)) else (bd (fX6_its (M_r11) a1 (4 : Int32)) (fun t11 => some t11)))) else (some (0 : Int32))) (fun t13 => bd (if a2 = (0 : Int32) then (some (50 : Int32)) else (if a2 = (3 : Int32) then (some (10 : Int32)) else (if a2 = (4 : Int32) then (bd (fX6_its (M_r11) a1 (0 : Int32)) (fun t17 => some t17)) else (some (99 : Int32))))) (fun t19 => bd (fX6_in a3.toInt64 t13.toInt64 t19.toInt64) (fun t20 => if t20 = (0 : Int32) then (some ((-1 : Int32), M_r11)) else (bd (fX6_its (M_r11) a1 a2) (fun t23 => ckI (((5 : Int32) * a1) + a2) 40 (some (t23, (upd M_r11 (((5 : Int32) * a1) + a2).toNatClampNeg a3))))))))))))
set_option maxRecDepth 100000 in
set_option maxHeartbeats 4000000 in
theorem kX6_set (l : Launch) (D : va_G) (cI cB cS : ClassId) (uM : Nat) (aM : Nat → Nat) (M_x1 : Int32) (M_x2 : Int32) (M_x3 : Int32) (M_x4 : Int32) (M_x5 : Int32) (M_x6 : Int32) (M_x7 : Int32) (M_x8 : Int32) (M_x12 : Int32) (M_x14 : Int32) (M_x17 : Int32) (M_x18 : Int32) (M_x19 : Int32) (M_x20 : Int32) (M_x23 : Int32) (M_x27 : Int32) (M_x29 : Int32) (M_x33 : Int32) (M_g24 : Int64) (M_g25 : Int64) (M_g26 : Int64) (M_g28 : Int64) (M_r0 : (Nat → Int32)) (M_r9 : (Nat → Int32)) (M_r10 : (Nat → Int32)) (M_r11 : (Nat → Int32)) (M_r13 : (Nat → Int32)) (M_r15 : (Nat → Int32)) (M_r16 : (Nat → Int32)) (M_r21 : (Nat → Int32)) (M_r22 : (Nat → Int32)) (M_r30 : (Nat → Int32)) (M_r31 : (Nat → Int32)) (M_r32 : (Nat → Int32)) (a1 : Int32) (a2 : Int32) (a3 : Int32) (z : (Int32 × (Nat → Int32))) (h : fX6_set M_r11 M_x12 a1 a2 a3 = some z) : Mt l yX6_set cX6_set 7 (some .int) 2 46 D cI cB cS (mW cI uM aM M_x1 M_x2 M_x3 M_x4 M_x5 M_x6 M_x7 M_x8 M_x12 M_x14 M_x17 M_x18 M_x19 M_x20 M_x23 M_x27 M_x29 M_x33 M_g24 M_g25 M_g26 M_g28 M_r0 M_r9 M_r10 M_r11 M_r13 M_r15 M_r16 M_r21 M_r22 M_r30 M_r31 M_r32) (mW cI uM aM M_x1 M_x2 M_x3 M_x4 M_x5 M_x6 M_x7 M_x8 M_x12 M_x14 M_x17 M_x18 M_x19 M_x20 M_x23 M_x27 M_x29 M_x33 M_g24 M_g25 M_g26 M_g28 M_r0 M_r9 M_r10 z.2 M_r13 M_r15 M_r16 M_r21 M_r22 M_r30 M_r31 M_r32) [.ref uM, .int a1, .int a2, .int a3] (some (.int z.1)) := by
  refine entryI (by decide +kernel) rfl (Nat.le_of_ble_eq_true rfl) ?_
  intro p e s m below meth c A ls QQ R ar F hRet jP jD jS jl
  obtain ⟨hx, hb, hml, hown, hts, jK, hA, hf1, hf2⟩ := id F
  have jl : lv_has ls 7 [(0, .ref uM), (1, .int a1), (2, .int a2), (3, .int a3)] := jl
  unfold fX6_set at h
  refine lv_aload_n hx hb dX6_set_0 rfl (lv_at jl 0 rfl) ?_
  refine lv_iload_n hx hb dX6_set_1 rfl (lv_at jl 1 rfl) ?_
  obtain ⟨t1, hc2, h⟩ := bd_some h
  refine callW (w1 := (mW cI uM aM M_x1 M_x2 M_x3 M_x4 M_x5 M_x6 M_x7 M_x8 M_x12 M_x14 M_x17 M_x18 M_x19 M_x20 M_x23 M_x27 M_x29 M_x33 M_g24 M_g25 M_g26 M_g28 M_r0 M_r9 M_r10 M_r11 M_r13 M_r15 M_r16 M_r21 M_r22 M_r30 M_r31 M_r32)) (As := [.int a1]) (rest := []) (st1 := [.int t1]) 0 F (kX6_isSort l D cI cB cS uM aM M_x1 M_x2 M_x3 M_x4 M_x5 M_x6 M_x7 M_x8 M_x12 M_x14 M_x17 M_x18 M_x19 M_x20 M_x23 M_x27 M_x29 M_x33 M_g24 M_g25 M_g26 M_g28 M_r0 M_r9 M_r10 M_r11 M_r13 M_r15 M_r16 M_r21 M_r22 M_r30 M_r31 M_r32 a1 _ hc2 ) okX6_isSort w_316 (by decide) (by decide) ⟨Nat.zero_le _, Nat.zero_le _⟩ rfl rfl rfl jP jD jS rfl jl.1 rfl rfl (Nat.le_of_ble_eq_true rfl) dX6_set_2 (fun H locs jP jD jS => ?_)
  refine lv_if_eq (tgt := 20) hx hb dX6_set_5 (by decide) (fun c3 => ?_) (fun c3 => ?_)
  · have h := itp c3 h
    refine lv_iconst (v := (-1 : Int32)) hx hb dX6_set_20 (by decide) ?_
    obtain rfl := Option.some.inj h
    exact hRet _ _ _ _ jP jD jS dX6_set_21
  · have h := itn c3 h
    refine lv_iload_n hx hb dX6_set_8 rfl (lv_at jl 2 rfl) ?_
    refine lv_i2l (v := a2.toInt64) hx hb dX6_set_9 rfl ?_
    refine lv_lconst (v := (0 : Int64)) hx hb dX6_set_10 (by decide) ?_
    refine lv_ldc2 (v := (4 : Int64)) hx hb hown (hts _ w_315) dX6_set_11 ?_
    obtain ⟨t4, hc5, h⟩ := bd_some h
    refine call0 (As := [.long a2.toInt64, .long (0 : Int64), .long (4 : Int64)]) (rest := []) (st1 := [.int t4]) F (kX6_in l D cI cB cS  a2.toInt64 (0 : Int64) (4 : Int64) _ hc5 ) okX6_in w_112 (by decide) (by decide) ⟨Nat.zero_le _, Nat.zero_le _⟩ jP jD jS rfl jl.1 rfl rfl (Nat.le_of_ble_eq_true rfl) dX6_set_14 (fun H locs jP jD jS => ?_)
    refine lv_if_ne (tgt := 22) hx hb dX6_set_17 (by decide) (fun c6 => ?_) (fun c6 => ?_)
    · have h := itn c6 h
      refine lv_iload_n hx hb dX6_set_22 rfl (lv_at jl 2 rfl) ?_
      obtain ⟨t13, hvt13, h⟩ := bd_some h
      have hJt13 : ∀ (H : Heap) (locs : List Loc) (ls : Array Slot), va_P D vwCl (mW cI uM aM M_x1 M_x2 M_x3 M_x4 M_x5 M_x6 M_x7 M_x8 M_x12 M_x14 M_x17 M_x18 M_x19 M_x20 M_x23 M_x27 M_x29 M_x33 M_g24 M_g25 M_g26 M_g28 M_r0 M_r9 M_r10 M_r11 M_r13 M_r15 M_r16 M_r21 M_r22 M_r30 M_r31 M_r32) H → va_D A (mW cI uM aM M_x1 M_x2 M_x3 M_x4 M_x5 M_x6 M_x7 M_x8 M_x12 M_x14 M_x17 M_x18 M_x19 M_x20 M_x23 M_x27 M_x29 M_x33 M_g24 M_g25 M_g26 M_g28 M_r0 M_r9 M_r10 M_r11 M_r13 M_r15 M_r16 M_r21 M_r22 M_r30 M_r31 M_r32) → va_S A s.heap H locs → lv_has ls 7 [(0, .ref uM), (1, .int a1), (2, .int a2), (3, .int a3)] → W p l e R s m ar below meth c H locs 0 0 QQ (F0 m 50 ls [.int t13]) := by
        clear jP jD jS jl
        intro H locs ls jP jD jS jl
        refine lv_istore (lv' := [(4, .int t13), (0, .ref uM), (1, .int a1), (2, .int a2), (3, .int a3)]) hx hb dX6_set_50 jl (by decide) rfl (fun ls jl => ?_)
        refine lv_iload_n hx hb dX6_set_52 rfl (lv_at jl 3 rfl) ?_
        obtain ⟨t19, hvt19, h⟩ := bd_some h
        have hJt19 : ∀ (H : Heap) (locs : List Loc) (ls : Array Slot), va_P D vwCl (mW cI uM aM M_x1 M_x2 M_x3 M_x4 M_x5 M_x6 M_x7 M_x8 M_x12 M_x14 M_x17 M_x18 M_x19 M_x20 M_x23 M_x27 M_x29 M_x33 M_g24 M_g25 M_g26 M_g28 M_r0 M_r9 M_r10 M_r11 M_r13 M_r15 M_r16 M_r21 M_r22 M_r30 M_r31 M_r32) H → va_D A (mW cI uM aM M_x1 M_x2 M_x3 M_x4 M_x5 M_x6 M_x7 M_x8 M_x12 M_x14 M_x17 M_x18 M_x19 M_x20 M_x23 M_x27 M_x29 M_x33 M_g24 M_g25 M_g26 M_g28 M_r0 M_r9 M_r10 M_r11 M_r13 M_r15 M_r16 M_r21 M_r22 M_r30 M_r31 M_r32) → va_S A s.heap H locs → lv_has ls 7 [(0, .ref uM), (1, .int a1), (2, .int a2), (3, .int a3), (4, .int t13)] → W p l e R s m ar below meth c H locs 0 0 QQ (F0 m 87 ls [.int t19]) := by
          clear jP jD jS jl
          intro H locs ls jP jD jS jl
          refine lv_istore (lv' := [(5, .int t19), (0, .ref uM), (1, .int a1), (2, .int a2), (3, .int a3), (4, .int t13)]) hx hb dX6_set_87 jl (by decide) rfl (fun ls jl => ?_)
          refine lv_iload_n hx hb dX6_set_89 rfl (lv_at jl 4 rfl) ?_
          refine lv_i2l (v := a3.toInt64) hx hb dX6_set_90 rfl ?_
          refine lv_iload hx hb dX6_set_91 (lv_at jl 5 rfl) ?_
          refine lv_i2l (v := t13.toInt64) hx hb dX6_set_93 rfl ?_
          refine lv_iload hx hb dX6_set_94 (lv_at jl 0 rfl) ?_
          refine lv_i2l (v := t19.toInt64) hx hb dX6_set_96 rfl ?_
          obtain ⟨t20, hc21, h⟩ := bd_some h
          refine call0 (As := [.long a3.toInt64, .long t13.toInt64, .long t19.toInt64]) (rest := []) (st1 := [.int t20]) F (kX6_in l D cI cB cS  a3.toInt64 t13.toInt64 t19.toInt64 _ hc21 ) okX6_in w_112 (by decide) (by decide) ⟨Nat.zero_le _, Nat.zero_le _⟩ jP jD jS rfl jl.1 rfl rfl (Nat.le_of_ble_eq_true rfl) dX6_set_97 (fun H locs jP jD jS => ?_)
          refine lv_if_ne (tgt := 105) hx hb dX6_set_100 (by decide) (fun c22 => ?_) (fun c22 => ?_)
          · have h := itn c22 h
            refine lv_aload_n hx hb dX6_set_105 rfl (lv_at jl 1 rfl) ?_
            refine lv_iload_n hx hb dX6_set_106 rfl (lv_at jl 2 rfl) ?_
            refine lv_iload_n hx hb dX6_set_107 rfl (lv_at jl 3 rfl) ?_
            obtain ⟨t23, hc24, h⟩ := bd_some h
            refine callW (w1 := (mW cI uM aM M_x1 M_x2 M_x3 M_x4 M_x5 M_x6 M_x7 M_x8 M_x12 M_x14 M_x17 M_x18 M_x19 M_x20 M_x23 M_x27 M_x29 M_x33 M_g24 M_g25 M_g26 M_g28 M_r0 M_r9 M_r10 M_r11 M_r13 M_r15 M_r16 M_r21 M_r22 M_r30 M_r31 M_r32)) (As := [.int a1, .int a2]) (rest := []) (st1 := [.int t23]) 0 F (kX6_its l D cI cB cS uM aM M_x1 M_x2 M_x3 M_x4 M_x5 M_x6 M_x7 M_x8 M_x12 M_x14 M_x17 M_x18 M_x19 M_x20 M_x23 M_x27 M_x29 M_x33 M_g24 M_g25 M_g26 M_g28 M_r0 M_r9 M_r10 M_r11 M_r13 M_r15 M_r16 M_r21 M_r22 M_r30 M_r31 M_r32 a1 a2 _ hc24 ) okX6_its w_320 (by decide) (by decide) ⟨Nat.zero_le _, Nat.zero_le _⟩ rfl rfl rfl jP jD jS rfl jl.1 rfl rfl (Nat.le_of_ble_eq_true rfl) dX6_set_108 (fun H locs jP jD jS => ?_)
            refine lv_istore (lv' := [(6, .int t23), (5, .int t19), (0, .ref uM), (1, .int a1), (2, .int a2), (3, .int a3), (4, .int t13)]) hx hb dX6_set_111 jl (by decide) rfl (fun ls jl => ?_)
            refine lv_aload_n hx hb dX6_set_113 rfl (lv_at jl 2 rfl) ?_
            refine va_get (D := D) (ci := 6) (v := .ref (aM 11)) (C := RX6) (T := TX6) (N := 34) hx hb hts in6 hown jK.1 jP 0 rfl rfl 11 (by decide) (hts _ w_80) (fun _ h9 => h9) rfl dX6_set_114 ?_
            refine lv_iconst (v := (5 : Int32)) hx hb dX6_set_117 (by decide) ?_
            refine lv_iload_n hx hb dX6_set_118 rfl (lv_at jl 3 rfl) ?_
            refine lv_imul hx hb dX6_set_119 ?_
            refine lv_iload_n hx hb dX6_set_120 rfl (lv_at jl 4 rfl) ?_
            refine lv_iadd hx hb dX6_set_121 ?_
            refine lv_iload_n hx hb dX6_set_122 rfl (lv_at jl 5 rfl) ?_
            obtain ⟨hin, h⟩ := ckI_some h
            refine va_iast (f := M_r11) hx hb jK.1 jP jD jS 4 0 rfl rfl hin dX6_set_123 (fun H locs jP jD jS => ?_)
            have jP : va_P D vwCl (mW cI uM aM M_x1 M_x2 M_x3 M_x4 M_x5 M_x6 M_x7 M_x8 M_x12 M_x14 M_x17 M_x18 M_x19 M_x20 M_x23 M_x27 M_x29 M_x33 M_g24 M_g25 M_g26 M_g28 M_r0 M_r9 M_r10 (upd M_r11 (((5 : Int32) * a1) + a2).toNatClampNeg a3) M_r13 M_r15 M_r16 M_r21 M_r22 M_r30 M_r31 M_r32) H := jP
            have jD : va_D A (mW cI uM aM M_x1 M_x2 M_x3 M_x4 M_x5 M_x6 M_x7 M_x8 M_x12 M_x14 M_x17 M_x18 M_x19 M_x20 M_x23 M_x27 M_x29 M_x33 M_g24 M_g25 M_g26 M_g28 M_r0 M_r9 M_r10 (upd M_r11 (((5 : Int32) * a1) + a2).toNatClampNeg a3) M_r13 M_r15 M_r16 M_r21 M_r22 M_r30 M_r31 M_r32) := jD
            refine lv_iload hx hb dX6_set_124 (lv_at jl 0 rfl) ?_
            obtain rfl := Option.some.inj h
            exact hRet _ _ _ _ jP jD jS dX6_set_126
          · have h := itp c22 h
            refine lv_iconst (v := (-1 : Int32)) hx hb dX6_set_103 (by decide) ?_
            obtain rfl := Option.some.inj h
            exact hRet _ _ _ _ jP jD jS dX6_set_104
        clear h
        refine lv_if_ne (tgt := 61) hx hb dX6_set_53 (by decide) (fun c14 => ?_) (fun c14 => ?_)
        · have hvt19 := itn c14 hvt19
          refine lv_iload_n hx hb dX6_set_61 rfl (lv_at jl 3 rfl) ?_
          refine lv_iconst (v := (3 : Int32)) hx hb dX6_set_62 (by decide) ?_
          refine lv_icmp_ne (tgt := 71) hx hb dX6_set_63 (by decide) (fun c15 => ?_) (fun c15 => ?_)
          · have hvt19 := itn c15 hvt19
            refine lv_iload_n hx hb dX6_set_71 rfl (lv_at jl 3 rfl) ?_
            refine lv_iconst (v := (4 : Int32)) hx hb dX6_set_72 (by decide) ?_
            refine lv_icmp_ne (tgt := 85) hx hb dX6_set_73 (by decide) (fun c16 => ?_) (fun c16 => ?_)
            · have hvt19 := itn c16 hvt19
              refine lv_bipush (v := (99 : Int32)) hx hb dX6_set_85 (by decide) ?_
              obtain rfl := Option.some.inj hvt19
              exact hJt19 _ _ _ jP jD jS (lv_sub jl [1, 2, 3, 4, 0] rfl)
            · have hvt19 := itp c16 hvt19
              refine lv_aload_n hx hb dX6_set_76 rfl (lv_at jl 1 rfl) ?_
              refine lv_iload_n hx hb dX6_set_77 rfl (lv_at jl 2 rfl) ?_
              refine lv_iconst (v := (0 : Int32)) hx hb dX6_set_78 (by decide) ?_
              obtain ⟨t17, hc18, hvt19⟩ := bd_some hvt19
              refine callW (w1 := (mW cI uM aM M_x1 M_x2 M_x3 M_x4 M_x5 M_x6 M_x7 M_x8 M_x12 M_x14 M_x17 M_x18 M_x19 M_x20 M_x23 M_x27 M_x29 M_x33 M_g24 M_g25 M_g26 M_g28 M_r0 M_r9 M_r10 M_r11 M_r13 M_r15 M_r16 M_r21 M_r22 M_r30 M_r31 M_r32)) (As := [.int a1, .int (0 : Int32)]) (rest := []) (st1 := [.int t17]) 0 F (kX6_its l D cI cB cS uM aM M_x1 M_x2 M_x3 M_x4 M_x5 M_x6 M_x7 M_x8 M_x12 M_x14 M_x17 M_x18 M_x19 M_x20 M_x23 M_x27 M_x29 M_x33 M_g24 M_g25 M_g26 M_g28 M_r0 M_r9 M_r10 M_r11 M_r13 M_r15 M_r16 M_r21 M_r22 M_r30 M_r31 M_r32 a1 (0 : Int32) _ hc18 ) okX6_its w_320 (by decide) (by decide) ⟨Nat.zero_le _, Nat.zero_le _⟩ rfl rfl rfl jP jD jS rfl jl.1 rfl rfl (Nat.le_of_ble_eq_true rfl) dX6_set_79 (fun H locs jP jD jS => ?_)
              refine lv_goto (tgt := 87) hx hb dX6_set_82 (by decide) ?_
              obtain rfl := Option.some.inj hvt19
              exact hJt19 _ _ _ jP jD jS (lv_sub jl [1, 2, 3, 4, 0] rfl)
          · have hvt19 := itp c15 hvt19
            refine lv_bipush (v := (10 : Int32)) hx hb dX6_set_66 (by decide) ?_
            refine lv_goto (tgt := 87) hx hb dX6_set_68 (by decide) ?_
            obtain rfl := Option.some.inj hvt19
            exact hJt19 _ _ _ jP jD jS (lv_sub jl [1, 2, 3, 4, 0] rfl)
        · have hvt19 := itp c14 hvt19
          refine lv_bipush (v := (50 : Int32)) hx hb dX6_set_56 (by decide) ?_
          refine lv_goto (tgt := 87) hx hb dX6_set_58 (by decide) ?_
          obtain rfl := Option.some.inj hvt19
          exact hJt19 _ _ _ jP jD jS (lv_sub jl [1, 2, 3, 4, 0] rfl)
      clear h
      refine lv_if_ne (tgt := 49) hx hb dX6_set_23 (by decide) (fun c7 => ?_) (fun c7 => ?_)
      · have hvt13 := itn c7 hvt13
        refine lv_iconst (v := (0 : Int32)) hx hb dX6_set_49 (by decide) ?_
        obtain rfl := Option.some.inj hvt13
        exact hJt13 _ _ _ jP jD jS (lv_sub jl [0, 1, 2, 3] rfl)
      · have hvt13 := itp c7 hvt13
        refine lv_aload_n hx hb dX6_set_26 rfl (lv_at jl 0 rfl) ?_
        refine lv_iload_n hx hb dX6_set_27 rfl (lv_at jl 1 rfl) ?_
        refine lv_iconst (v := (4 : Int32)) hx hb dX6_set_28 (by decide) ?_
        obtain ⟨t8, hc9, hvt13⟩ := bd_some hvt13
        refine callW (w1 := (mW cI uM aM M_x1 M_x2 M_x3 M_x4 M_x5 M_x6 M_x7 M_x8 M_x12 M_x14 M_x17 M_x18 M_x19 M_x20 M_x23 M_x27 M_x29 M_x33 M_g24 M_g25 M_g26 M_g28 M_r0 M_r9 M_r10 M_r11 M_r13 M_r15 M_r16 M_r21 M_r22 M_r30 M_r31 M_r32)) (As := [.int a1, .int (4 : Int32)]) (rest := []) (st1 := [.int t8]) 0 F (kX6_its l D cI cB cS uM aM M_x1 M_x2 M_x3 M_x4 M_x5 M_x6 M_x7 M_x8 M_x12 M_x14 M_x17 M_x18 M_x19 M_x20 M_x23 M_x27 M_x29 M_x33 M_g24 M_g25 M_g26 M_g28 M_r0 M_r9 M_r10 M_r11 M_r13 M_r15 M_r16 M_r21 M_r22 M_r30 M_r31 M_r32 a1 (4 : Int32) _ hc9 ) okX6_its w_320 (by decide) (by decide) ⟨Nat.zero_le _, Nat.zero_le _⟩ rfl rfl rfl jP jD jS rfl jl.1 rfl rfl (Nat.le_of_ble_eq_true rfl) dX6_set_29 (fun H locs jP jD jS => ?_)
        refine lv_iconst (v := (1 : Int32)) hx hb dX6_set_32 (by decide) ?_
        refine lv_icmp_le (tgt := 45) hx hb dX6_set_33 (by decide) (fun c10 => ?_) (fun c10 => ?_)
        · have hvt13 := itp c10 hvt13
          refine lv_iconst (v := (1 : Int32)) hx hb dX6_set_45 (by decide) ?_
          refine lv_goto (tgt := 50) hx hb dX6_set_46 (by decide) ?_
          obtain rfl := Option.some.inj hvt13
          exact hJt13 _ _ _ jP jD jS (lv_sub jl [0, 1, 2, 3] rfl)
        · have hvt13 := itn c10 hvt13
          refine lv_aload_n hx hb dX6_set_36 rfl (lv_at jl 0 rfl) ?_
          refine lv_iload_n hx hb dX6_set_37 rfl (lv_at jl 1 rfl) ?_
          refine lv_iconst (v := (4 : Int32)) hx hb dX6_set_38 (by decide) ?_
          obtain ⟨t11, hc12, hvt13⟩ := bd_some hvt13
          refine callW (w1 := (mW cI uM aM M_x1 M_x2 M_x3 M_x4 M_x5 M_x6 M_x7 M_x8 M_x12 M_x14 M_x17 M_x18 M_x19 M_x20 M_x23 M_x27 M_x29 M_x33 M_g24 M_g25 M_g26 M_g28 M_r0 M_r9 M_r10 M_r11 M_r13 M_r15 M_r16 M_r21 M_r22 M_r30 M_r31 M_r32)) (As := [.int a1, .int (4 : Int32)]) (rest := []) (st1 := [.int t11]) 0 F (kX6_its l D cI cB cS uM aM M_x1 M_x2 M_x3 M_x4 M_x5 M_x6 M_x7 M_x8 M_x12 M_x14 M_x17 M_x18 M_x19 M_x20 M_x23 M_x27 M_x29 M_x33 M_g24 M_g25 M_g26 M_g28 M_r0 M_r9 M_r10 M_r11 M_r13 M_r15 M_r16 M_r21 M_r22 M_r30 M_r31 M_r32 a1 (4 : Int32) _ hc12 ) okX6_its w_320 (by decide) (by decide) ⟨Nat.zero_le _, Nat.zero_le _⟩ rfl rfl rfl jP jD jS rfl jl.1 rfl rfl (Nat.le_of_ble_eq_true rfl) dX6_set_39 (fun H locs jP jD jS => ?_)
          refine lv_goto (tgt := 50) hx hb dX6_set_42 (by decide) ?_
          obtain rfl := Option.some.inj hvt13
          exact hJt13 _ _ _ jP jD jS (lv_sub jl [0, 1, 2, 3] rfl)
    · have h := itp c6 h
      refine lv_iconst (v := (-1 : Int32)) hx hb dX6_set_20 (by decide) ?_
      obtain rfl := Option.some.inj h
      exact hRet _ _ _ _ jP jD jS dX6_set_21
theorem okX6_isGood : okV yX6_isGood cX6_isGood 2 (some .boolean) 1 := ⟨w_338, w_339, w_340, w_5, by decide, by decide, by decide +kernel⟩
def fX6_isGood (M_r11 : (Nat → Int32)) (M_r15 : (Nat → Int32)) (a1 : Int32) : Option Int32 :=
  bd (fX6_its (M_r11) a1 (2 : Int32)) (fun t1 => if t1 < (M_r15 (0 : Int32).toNatClampNeg) then (some (0 : Int32)) else (some (1 : Int32)))
set_option maxRecDepth 100000 in
set_option maxHeartbeats 4000000 in
theorem kX6_isGood (l : Launch) (D : va_G) (cI cB cS : ClassId) (uM : Nat) (aM : Nat → Nat) (M_x1 : Int32) (M_x2 : Int32) (M_x3 : Int32) (M_x4 : Int32) (M_x5 : Int32) (M_x6 : Int32) (M_x7 : Int32) (M_x8 : Int32) (M_x12 : Int32) (M_x14 : Int32) (M_x17 : Int32) (M_x18 : Int32) (M_x19 : Int32) (M_x20 : Int32) (M_x23 : Int32) (M_x27 : Int32) (M_x29 : Int32) (M_x33 : Int32) (M_g24 : Int64) (M_g25 : Int64) (M_g26 : Int64) (M_g28 : Int64) (M_r0 : (Nat → Int32)) (M_r9 : (Nat → Int32)) (M_r10 : (Nat → Int32)) (M_r11 : (Nat → Int32)) (M_r13 : (Nat → Int32)) (M_r15 : (Nat → Int32)) (M_r16 : (Nat → Int32)) (M_r21 : (Nat → Int32)) (M_r22 : (Nat → Int32)) (M_r30 : (Nat → Int32)) (M_r31 : (Nat → Int32)) (M_r32 : (Nat → Int32)) (a1 : Int32) (z : Int32) (h : fX6_isGood M_r11 M_r15 a1 = some z) : Mt l yX6_isGood cX6_isGood 2 (some .boolean) 1 22 D cI cB cS (mW cI uM aM M_x1 M_x2 M_x3 M_x4 M_x5 M_x6 M_x7 M_x8 M_x12 M_x14 M_x17 M_x18 M_x19 M_x20 M_x23 M_x27 M_x29 M_x33 M_g24 M_g25 M_g26 M_g28 M_r0 M_r9 M_r10 M_r11 M_r13 M_r15 M_r16 M_r21 M_r22 M_r30 M_r31 M_r32) (mW cI uM aM M_x1 M_x2 M_x3 M_x4 M_x5 M_x6 M_x7 M_x8 M_x12 M_x14 M_x17 M_x18 M_x19 M_x20 M_x23 M_x27 M_x29 M_x33 M_g24 M_g25 M_g26 M_g28 M_r0 M_r9 M_r10 M_r11 M_r13 M_r15 M_r16 M_r21 M_r22 M_r30 M_r31 M_r32) [.ref uM, .int a1] (some (.int z)) := by
  refine entryZ (by decide +kernel) rfl (Nat.le_of_ble_eq_true rfl) ?_
  intro p e s m below meth c A ls QQ R ar F hRet jP jD jS jl
  obtain ⟨hx, hb, hml, hown, hts, jK, hA, hf1, hf2⟩ := id F
  have jl : lv_has ls 2 [(0, .ref uM), (1, .int a1)] := jl
  unfold fX6_isGood at h
  refine lv_aload_n hx hb dX6_isGood_0 rfl (lv_at jl 0 rfl) ?_
  refine lv_iload_n hx hb dX6_isGood_1 rfl (lv_at jl 1 rfl) ?_
  refine lv_iconst (v := (2 : Int32)) hx hb dX6_isGood_2 (by decide) ?_
  obtain ⟨t1, hc2, h⟩ := bd_some h
  refine callW (w1 := (mW cI uM aM M_x1 M_x2 M_x3 M_x4 M_x5 M_x6 M_x7 M_x8 M_x12 M_x14 M_x17 M_x18 M_x19 M_x20 M_x23 M_x27 M_x29 M_x33 M_g24 M_g25 M_g26 M_g28 M_r0 M_r9 M_r10 M_r11 M_r13 M_r15 M_r16 M_r21 M_r22 M_r30 M_r31 M_r32)) (As := [.int a1, .int (2 : Int32)]) (rest := []) (st1 := [.int t1]) 0 F (kX6_its l D cI cB cS uM aM M_x1 M_x2 M_x3 M_x4 M_x5 M_x6 M_x7 M_x8 M_x12 M_x14 M_x17 M_x18 M_x19 M_x20 M_x23 M_x27 M_x29 M_x33 M_g24 M_g25 M_g26 M_g28 M_r0 M_r9 M_r10 M_r11 M_r13 M_r15 M_r16 M_r21 M_r22 M_r30 M_r31 M_r32 a1 (2 : Int32) _ hc2 ) okX6_its w_320 (by decide) (by decide) ⟨Nat.zero_le _, Nat.zero_le _⟩ rfl rfl rfl jP jD jS rfl jl.1 rfl rfl (Nat.le_of_ble_eq_true rfl) dX6_isGood_3 (fun H locs jP jD jS => ?_)
  refine lv_aload_n hx hb dX6_isGood_6 rfl (lv_at jl 0 rfl) ?_
  refine va_get (D := D) (ci := 6) (v := .ref (aM 15)) (C := RX6) (T := TX6) (N := 34) hx hb hts in6 hown jK.1 jP 0 rfl rfl 15 (by decide) (hts _ w_82) (fun _ h9 => h9) rfl dX6_isGood_7 ?_
  refine lv_iconst (v := (0 : Int32)) hx hb dX6_isGood_10 (by decide) ?_
  refine va_iald (f := M_r15) hx hb jK.1 jP 6 0 rfl rfl (by unfold vp_in; decide) dX6_isGood_11 ?_
  refine lv_icmp_lt (tgt := 19) hx hb dX6_isGood_12 (by decide) (fun c3 => ?_) (fun c3 => ?_)
  · have h := itp c3 h
    refine lv_iconst (v := (0 : Int32)) hx hb dX6_isGood_19 (by decide) ?_
    obtain rfl := Option.some.inj h
    exact hRet _ _ _ _ (Or.inl rfl) jP jD jS dX6_isGood_20
  · have h := itn c3 h
    refine lv_iconst (v := (1 : Int32)) hx hb dX6_isGood_15 (by decide) ?_
    refine lv_goto (tgt := 20) hx hb dX6_isGood_16 (by decide) ?_
    obtain rfl := Option.some.inj h
    exact hRet _ _ _ _ (Or.inr rfl) jP jD jS dX6_isGood_20
theorem okX6_of : okV yX6_of cX6_of 3 (some .int) 2 := ⟨w_333, w_334, w_335, w_5, by decide, by decide, by decide +kernel⟩
def fX6_of (M_r11 : (Nat → Int32)) (M_r15 : (Nat → Int32)) (M_x12 : Int32) (a1 : Int32) (a2 : Int32) : Option Int32 :=
  bd (fX6_isSort (M_x12) a1) (fun t1 => if t1 = (0 : Int32) then (some (-1 : Int32)) else (bd (fX6_in a2.toInt64 (0 : Int64) (5 : Int64)) (fun t4 => if t4 = (0 : Int32) then (some (-1 : Int32)) else (if a2 = (5 : Int32) then (bd (fX6_isGood (M_r11) (M_r15) a1) (fun t10 => if t10 = (0 : Int32) then (some (0 : Int32)) else (some (1 : Int32)))) else (bd (fX6_its (M_r11) a1 a2) (fun t8 => some t8))))))
set_option maxRecDepth 100000 in
set_option maxHeartbeats 4000000 in
theorem kX6_of (l : Launch) (D : va_G) (cI cB cS : ClassId) (uM : Nat) (aM : Nat → Nat) (M_x1 : Int32) (M_x2 : Int32) (M_x3 : Int32) (M_x4 : Int32) (M_x5 : Int32) (M_x6 : Int32) (M_x7 : Int32) (M_x8 : Int32) (M_x12 : Int32) (M_x14 : Int32) (M_x17 : Int32) (M_x18 : Int32) (M_x19 : Int32) (M_x20 : Int32) (M_x23 : Int32) (M_x27 : Int32) (M_x29 : Int32) (M_x33 : Int32) (M_g24 : Int64) (M_g25 : Int64) (M_g26 : Int64) (M_g28 : Int64) (M_r0 : (Nat → Int32)) (M_r9 : (Nat → Int32)) (M_r10 : (Nat → Int32)) (M_r11 : (Nat → Int32)) (M_r13 : (Nat → Int32)) (M_r15 : (Nat → Int32)) (M_r16 : (Nat → Int32)) (M_r21 : (Nat → Int32)) (M_r22 : (Nat → Int32)) (M_r30 : (Nat → Int32)) (M_r31 : (Nat → Int32)) (M_r32 : (Nat → Int32)) (a1 : Int32) (a2 : Int32) (z : Int32) (h : fX6_of M_r11 M_r15 M_x12 a1 a2 = some z) : Mt l yX6_of cX6_of 3 (some .int) 2 46 D cI cB cS (mW cI uM aM M_x1 M_x2 M_x3 M_x4 M_x5 M_x6 M_x7 M_x8 M_x12 M_x14 M_x17 M_x18 M_x19 M_x20 M_x23 M_x27 M_x29 M_x33 M_g24 M_g25 M_g26 M_g28 M_r0 M_r9 M_r10 M_r11 M_r13 M_r15 M_r16 M_r21 M_r22 M_r30 M_r31 M_r32) (mW cI uM aM M_x1 M_x2 M_x3 M_x4 M_x5 M_x6 M_x7 M_x8 M_x12 M_x14 M_x17 M_x18 M_x19 M_x20 M_x23 M_x27 M_x29 M_x33 M_g24 M_g25 M_g26 M_g28 M_r0 M_r9 M_r10 M_r11 M_r13 M_r15 M_r16 M_r21 M_r22 M_r30 M_r31 M_r32) [.ref uM, .int a1, .int a2] (some (.int z)) := by
  refine entryI (by decide +kernel) rfl (Nat.le_of_ble_eq_true rfl) ?_
  intro p e s m below meth c A ls QQ R ar F hRet jP jD jS jl
  obtain ⟨hx, hb, hml, hown, hts, jK, hA, hf1, hf2⟩ := id F
  have jl : lv_has ls 3 [(0, .ref uM), (1, .int a1), (2, .int a2)] := jl
  unfold fX6_of at h
  refine lv_aload_n hx hb dX6_of_0 rfl (lv_at jl 0 rfl) ?_
  refine lv_iload_n hx hb dX6_of_1 rfl (lv_at jl 1 rfl) ?_
  obtain ⟨t1, hc2, h⟩ := bd_some h
  refine callW (w1 := (mW cI uM aM M_x1 M_x2 M_x3 M_x4 M_x5 M_x6 M_x7 M_x8 M_x12 M_x14 M_x17 M_x18 M_x19 M_x20 M_x23 M_x27 M_x29 M_x33 M_g24 M_g25 M_g26 M_g28 M_r0 M_r9 M_r10 M_r11 M_r13 M_r15 M_r16 M_r21 M_r22 M_r30 M_r31 M_r32)) (As := [.int a1]) (rest := []) (st1 := [.int t1]) 0 F (kX6_isSort l D cI cB cS uM aM M_x1 M_x2 M_x3 M_x4 M_x5 M_x6 M_x7 M_x8 M_x12 M_x14 M_x17 M_x18 M_x19 M_x20 M_x23 M_x27 M_x29 M_x33 M_g24 M_g25 M_g26 M_g28 M_r0 M_r9 M_r10 M_r11 M_r13 M_r15 M_r16 M_r21 M_r22 M_r30 M_r31 M_r32 a1 _ hc2 ) okX6_isSort w_316 (by decide) (by decide) ⟨Nat.zero_le _, Nat.zero_le _⟩ rfl rfl rfl jP jD jS rfl jl.1 rfl rfl (Nat.le_of_ble_eq_true rfl) dX6_of_2 (fun H locs jP jD jS => ?_)
  refine lv_if_eq (tgt := 20) hx hb dX6_of_5 (by decide) (fun c3 => ?_) (fun c3 => ?_)
  · have h := itp c3 h
    refine lv_iconst (v := (-1 : Int32)) hx hb dX6_of_20 (by decide) ?_
    obtain rfl := Option.some.inj h
    exact hRet _ _ _ _ jP jD jS dX6_of_21
  · have h := itn c3 h
    refine lv_iload_n hx hb dX6_of_8 rfl (lv_at jl 2 rfl) ?_
    refine lv_i2l (v := a2.toInt64) hx hb dX6_of_9 rfl ?_
    refine lv_lconst (v := (0 : Int64)) hx hb dX6_of_10 (by decide) ?_
    refine lv_ldc2 (v := (5 : Int64)) hx hb hown (hts _ w_336) dX6_of_11 ?_
    obtain ⟨t4, hc5, h⟩ := bd_some h
    refine call0 (As := [.long a2.toInt64, .long (0 : Int64), .long (5 : Int64)]) (rest := []) (st1 := [.int t4]) F (kX6_in l D cI cB cS  a2.toInt64 (0 : Int64) (5 : Int64) _ hc5 ) okX6_in w_112 (by decide) (by decide) ⟨Nat.zero_le _, Nat.zero_le _⟩ jP jD jS rfl jl.1 rfl rfl (Nat.le_of_ble_eq_true rfl) dX6_of_14 (fun H locs jP jD jS => ?_)
    refine lv_if_ne (tgt := 22) hx hb dX6_of_17 (by decide) (fun c6 => ?_) (fun c6 => ?_)
    · have h := itn c6 h
      refine lv_iload_n hx hb dX6_of_22 rfl (lv_at jl 2 rfl) ?_
      refine lv_iconst (v := (5 : Int32)) hx hb dX6_of_23 (by decide) ?_
      refine lv_icmp_ne (tgt := 43) hx hb dX6_of_24 (by decide) (fun c7 => ?_) (fun c7 => ?_)
      · have h := itn c7 h
        refine lv_aload_n hx hb dX6_of_43 rfl (lv_at jl 0 rfl) ?_
        refine lv_iload_n hx hb dX6_of_44 rfl (lv_at jl 1 rfl) ?_
        refine lv_iload_n hx hb dX6_of_45 rfl (lv_at jl 2 rfl) ?_
        obtain ⟨t8, hc9, h⟩ := bd_some h
        refine callW (w1 := (mW cI uM aM M_x1 M_x2 M_x3 M_x4 M_x5 M_x6 M_x7 M_x8 M_x12 M_x14 M_x17 M_x18 M_x19 M_x20 M_x23 M_x27 M_x29 M_x33 M_g24 M_g25 M_g26 M_g28 M_r0 M_r9 M_r10 M_r11 M_r13 M_r15 M_r16 M_r21 M_r22 M_r30 M_r31 M_r32)) (As := [.int a1, .int a2]) (rest := []) (st1 := [.int t8]) 0 F (kX6_its l D cI cB cS uM aM M_x1 M_x2 M_x3 M_x4 M_x5 M_x6 M_x7 M_x8 M_x12 M_x14 M_x17 M_x18 M_x19 M_x20 M_x23 M_x27 M_x29 M_x33 M_g24 M_g25 M_g26 M_g28 M_r0 M_r9 M_r10 M_r11 M_r13 M_r15 M_r16 M_r21 M_r22 M_r30 M_r31 M_r32 a1 a2 _ hc9 ) okX6_its w_320 (by decide) (by decide) ⟨Nat.zero_le _, Nat.zero_le _⟩ rfl rfl rfl jP jD jS rfl jl.1 rfl rfl (Nat.le_of_ble_eq_true rfl) dX6_of_46 (fun H locs jP jD jS => ?_)
        obtain rfl := Option.some.inj h
        exact hRet _ _ _ _ jP jD jS dX6_of_49
      · have h := itp c7 h
        refine lv_aload_n hx hb dX6_of_27 rfl (lv_at jl 0 rfl) ?_
        refine lv_iload_n hx hb dX6_of_28 rfl (lv_at jl 1 rfl) ?_
        obtain ⟨t10, hc11, h⟩ := bd_some h
        refine callW (w1 := (mW cI uM aM M_x1 M_x2 M_x3 M_x4 M_x5 M_x6 M_x7 M_x8 M_x12 M_x14 M_x17 M_x18 M_x19 M_x20 M_x23 M_x27 M_x29 M_x33 M_g24 M_g25 M_g26 M_g28 M_r0 M_r9 M_r10 M_r11 M_r13 M_r15 M_r16 M_r21 M_r22 M_r30 M_r31 M_r32)) (As := [.int a1]) (rest := []) (st1 := [.int t10]) 0 F (kX6_isGood l D cI cB cS uM aM M_x1 M_x2 M_x3 M_x4 M_x5 M_x6 M_x7 M_x8 M_x12 M_x14 M_x17 M_x18 M_x19 M_x20 M_x23 M_x27 M_x29 M_x33 M_g24 M_g25 M_g26 M_g28 M_r0 M_r9 M_r10 M_r11 M_r13 M_r15 M_r16 M_r21 M_r22 M_r30 M_r31 M_r32 a1 _ hc11 ) okX6_isGood w_337 (by decide) (by decide) ⟨Nat.zero_le _, Nat.zero_le _⟩ rfl rfl rfl jP jD jS rfl jl.1 rfl rfl (Nat.le_of_ble_eq_true rfl) dX6_of_29 (fun H locs jP jD jS => ?_)
        refine lv_if_eq (tgt := 39) hx hb dX6_of_32 (by decide) (fun c12 => ?_) (fun c12 => ?_)
        · have h := itp c12 h
          refine lv_iconst (v := (0 : Int32)) hx hb dX6_of_39 (by decide) ?_
          refine lv_goto (tgt := 49) hx hb dX6_of_40 (by decide) ?_
          obtain rfl := Option.some.inj h
          exact hRet _ _ _ _ jP jD jS dX6_of_49
        · have h := itn c12 h
          refine lv_iconst (v := (1 : Int32)) hx hb dX6_of_35 (by decide) ?_
          refine lv_goto (tgt := 49) hx hb dX6_of_36 (by decide) ?_
          obtain rfl := Option.some.inj h
          exact hRet _ _ _ _ jP jD jS dX6_of_49
    · have h := itp c6 h
      refine lv_iconst (v := (-1 : Int32)) hx hb dX6_of_20 (by decide) ?_
      obtain rfl := Option.some.inj h
      exact hRet _ _ _ _ jP jD jS dX6_of_21
theorem okX6_rule : okV yX6_rule cX6_rule 2 (some .int) 1 := ⟨w_350, w_351, w_352, w_5, by decide, by decide, by decide +kernel⟩
def fX6_rule (M_r15 : (Nat → Int32)) (a1 : Int32) : Option Int32 :=
  bd (fX6_in a1.toInt64 (0 : Int64) (3 : Int64)) (fun t1 => if t1 = (0 : Int32) then (some (-1 : Int32)) else (ckI a1 4 (some (M_r15 a1.toNatClampNeg))))
set_option maxRecDepth 100000 in
set_option maxHeartbeats 4000000 in
theorem kX6_rule (l : Launch) (D : va_G) (cI cB cS : ClassId) (uM : Nat) (aM : Nat → Nat) (M_x1 : Int32) (M_x2 : Int32) (M_x3 : Int32) (M_x4 : Int32) (M_x5 : Int32) (M_x6 : Int32) (M_x7 : Int32) (M_x8 : Int32) (M_x12 : Int32) (M_x14 : Int32) (M_x17 : Int32) (M_x18 : Int32) (M_x19 : Int32) (M_x20 : Int32) (M_x23 : Int32) (M_x27 : Int32) (M_x29 : Int32) (M_x33 : Int32) (M_g24 : Int64) (M_g25 : Int64) (M_g26 : Int64) (M_g28 : Int64) (M_r0 : (Nat → Int32)) (M_r9 : (Nat → Int32)) (M_r10 : (Nat → Int32)) (M_r11 : (Nat → Int32)) (M_r13 : (Nat → Int32)) (M_r15 : (Nat → Int32)) (M_r16 : (Nat → Int32)) (M_r21 : (Nat → Int32)) (M_r22 : (Nat → Int32)) (M_r30 : (Nat → Int32)) (M_r31 : (Nat → Int32)) (M_r32 : (Nat → Int32)) (a1 : Int32) (z : Int32) (h : fX6_rule M_r15 a1 = some z) : Mt l yX6_rule cX6_rule 2 (some .int) 1 25 D cI cB cS (mW cI uM aM M_x1 M_x2 M_x3 M_x4 M_x5 M_x6 M_x7 M_x8 M_x12 M_x14 M_x17 M_x18 M_x19 M_x20 M_x23 M_x27 M_x29 M_x33 M_g24 M_g25 M_g26 M_g28 M_r0 M_r9 M_r10 M_r11 M_r13 M_r15 M_r16 M_r21 M_r22 M_r30 M_r31 M_r32) (mW cI uM aM M_x1 M_x2 M_x3 M_x4 M_x5 M_x6 M_x7 M_x8 M_x12 M_x14 M_x17 M_x18 M_x19 M_x20 M_x23 M_x27 M_x29 M_x33 M_g24 M_g25 M_g26 M_g28 M_r0 M_r9 M_r10 M_r11 M_r13 M_r15 M_r16 M_r21 M_r22 M_r30 M_r31 M_r32) [.ref uM, .int a1] (some (.int z)) := by
  refine entryI (by decide +kernel) rfl (Nat.le_of_ble_eq_true rfl) ?_
  intro p e s m below meth c A ls QQ R ar F hRet jP jD jS jl
  obtain ⟨hx, hb, hml, hown, hts, jK, hA, hf1, hf2⟩ := id F
  have jl : lv_has ls 2 [(0, .ref uM), (1, .int a1)] := jl
  unfold fX6_rule at h
  refine lv_iload_n hx hb dX6_rule_0 rfl (lv_at jl 1 rfl) ?_
  refine lv_i2l (v := a1.toInt64) hx hb dX6_rule_1 rfl ?_
  refine lv_lconst (v := (0 : Int64)) hx hb dX6_rule_2 (by decide) ?_
  refine lv_ldc2 (v := (3 : Int64)) hx hb hown (hts _ w_353) dX6_rule_3 ?_
  obtain ⟨t1, hc2, h⟩ := bd_some h
  refine call0 (As := [.long a1.toInt64, .long (0 : Int64), .long (3 : Int64)]) (rest := []) (st1 := [.int t1]) F (kX6_in l D cI cB cS  a1.toInt64 (0 : Int64) (3 : Int64) _ hc2 ) okX6_in w_112 (by decide) (by decide) ⟨Nat.zero_le _, Nat.zero_le _⟩ jP jD jS rfl jl.1 rfl rfl (Nat.le_of_ble_eq_true rfl) dX6_rule_6 (fun H locs jP jD jS => ?_)
  refine lv_if_eq (tgt := 21) hx hb dX6_rule_9 (by decide) (fun c3 => ?_) (fun c3 => ?_)
  · have h := itp c3 h
    refine lv_iconst (v := (-1 : Int32)) hx hb dX6_rule_21 (by decide) ?_
    obtain rfl := Option.some.inj h
    exact hRet _ _ _ _ jP jD jS dX6_rule_22
  · have h := itn c3 h
    refine lv_aload_n hx hb dX6_rule_12 rfl (lv_at jl 0 rfl) ?_
    refine va_get (D := D) (ci := 6) (v := .ref (aM 15)) (C := RX6) (T := TX6) (N := 34) hx hb hts in6 hown jK.1 jP 0 rfl rfl 15 (by decide) (hts _ w_82) (fun _ h9 => h9) rfl dX6_rule_13 ?_
    refine lv_iload_n hx hb dX6_rule_16 rfl (lv_at jl 1 rfl) ?_
    obtain ⟨hin, h⟩ := ckI_some h
    refine va_iald (f := M_r15) hx hb jK.1 jP 6 0 rfl rfl hin dX6_rule_17 ?_
    refine lv_goto (tgt := 22) hx hb dX6_rule_18 (by decide) ?_
    obtain rfl := Option.some.inj h
    exact hRet _ _ _ _ jP jD jS dX6_rule_22
