theorem okX6_isThere : okV yX6_isThere cX6_isThere 2 (some .boolean) 1 := ⟨w_436, w_437, w_438, w_5, by decide, by decide, by decide +kernel⟩
def fX6_isThere (M_x12 : Int32) (M_x18 : Int32) (a1 : Int32) : Option Int32 :=
  if M_x12 ≤ a1 then (some (0 : Int32)) else (if a1 = M_x18 then (some (0 : Int32)) else (some (1 : Int32)))
set_option maxRecDepth 100000 in
set_option maxHeartbeats 4000000 in
theorem kX6_isThere (l : Launch) (D : va_G) (cI cB cS : ClassId) (uM : Nat) (aM : Nat → Nat) (M_x1 : Int32) (M_x2 : Int32) (M_x3 : Int32) (M_x4 : Int32) (M_x5 : Int32) (M_x6 : Int32) (M_x7 : Int32) (M_x8 : Int32) (M_x12 : Int32) (M_x14 : Int32) (M_x17 : Int32) (M_x18 : Int32) (M_x19 : Int32) (M_x20 : Int32) (M_x23 : Int32) (M_x27 : Int32) (M_x29 : Int32) (M_x33 : Int32) (M_g24 : Int64) (M_g25 : Int64) (M_g26 : Int64) (M_g28 : Int64) (M_r0 : (Nat → Int32)) (M_r9 : (Nat → Int32)) (M_r10 : (Nat → Int32)) (M_r11 : (Nat → Int32)) (M_r13 : (Nat → Int32)) (M_r15 : (Nat → Int32)) (M_r16 : (Nat → Int32)) (M_r21 : (Nat → Int32)) (M_r22 : (Nat → Int32)) (M_r30 : (Nat → Int32)) (M_r31 : (Nat → Int32)) (M_r32 : (Nat → Int32)) (a1 : Int32) (z : Int32) (h : fX6_isThere M_x12 M_x18 a1 = some z) : Mt l yX6_isThere cX6_isThere 2 (some .boolean) 0 0 D cI cB cS (mW cI uM aM M_x1 M_x2 M_x3 M_x4 M_x5 M_x6 M_x7 M_x8 M_x12 M_x14 M_x17 M_x18 M_x19 M_x20 M_x23 M_x27 M_x29 M_x33 M_g24 M_g25 M_g26 M_g28 M_r0 M_r9 M_r10 M_r11 M_r13 M_r15 M_r16 M_r21 M_r22 M_r30 M_r31 M_r32) (mW cI uM aM M_x1 M_x2 M_x3 M_x4 M_x5 M_x6 M_x7 M_x8 M_x12 M_x14 M_x17 M_x18 M_x19 M_x20 M_x23 M_x27 M_x29 M_x33 M_g24 M_g25 M_g26 M_g28 M_r0 M_r9 M_r10 M_r11 M_r13 M_r15 M_r16 M_r21 M_r22 M_r30 M_r31 M_r32) [.ref uM, .int a1] (some (.int z)) := by
  refine entryZ (by decide +kernel) rfl (Nat.le_of_ble_eq_true rfl) ?_
  intro p e s m below meth c A ls QQ R ar F hRet jP jD jS jl
  obtain ⟨hx, hb, hml, hown, hts, jK, hA, hf1, hf2⟩ := id F
  have jl : lv_has ls 2 [(0, .ref uM), (1, .int a1)] := jl
  unfold fX6_isThere at h
  refine lv_iload_n hx hb dX6_isThere_0 rfl (lv_at jl 1 rfl) ?_
  refine lv_aload_n hx hb dX6_isThere_1 rfl (lv_at jl 0 rfl) ?_
  refine va_get (D := D) (ci := 6) (v := .int M_x12) (C := RX6) (T := TX6) (N := 34) hx hb hts in6 hown jK.1 jP 0 rfl rfl 12 (by decide) (hts _ w_222) (fun _ h9 => h9) rfl dX6_isThere_2 ?_
  refine lv_icmp_ge (tgt := 20) hx hb dX6_isThere_5 (by decide) (fun c1 => ?_) (fun c1 => ?_)
  · have h := itp c1 h
    refine lv_iconst (v := (0 : Int32)) hx hb dX6_isThere_20 (by decide) ?_
    obtain rfl := Option.some.inj h
    exact hRet _ _ _ _ (Or.inl rfl) jP jD jS dX6_isThere_21
  · have h := itn c1 h
    refine lv_iload_n hx hb dX6_isThere_8 rfl (lv_at jl 1 rfl) ?_
    refine lv_aload_n hx hb dX6_isThere_9 rfl (lv_at jl 0 rfl) ?_
    refine va_get (D := D) (ci := 6) (v := .int M_x18) (C := RX6) (T := TX6) (N := 34) hx hb hts in6 hown jK.1 jP 0 rfl rfl 18 (by decide) (hts _ w_84) (fun _ h9 => h9) rfl dX6_isThere_10 ?_
    refine lv_icmp_eq (tgt := 20) hx hb dX6_isThere_13 (by decide) (fun c2 => ?_) (fun c2 => ?_)
    · have h := itp c2 h
      refine lv_iconst (v := (0 : Int32)) hx hb dX6_isThere_20 (by decide) ?_
      obtain rfl := Option.some.inj h
      exact hRet _ _ _ _ (Or.inl rfl) jP jD jS dX6_isThere_21
    · have h := itn c2 h
      refine lv_iconst (v := (1 : Int32)) hx hb dX6_isThere_16 (by decide) ?_
      refine lv_goto (tgt := 21) hx hb dX6_isThere_17 (by decide) ?_
      obtain rfl := Option.some.inj h
      exact hRet _ _ _ _ (Or.inr rfl) jP jD jS dX6_isThere_21
theorem okX6_isHeap : okV yX6_isHeap cX6_isHeap 5 (some .boolean) 1 := ⟨w_432, w_433, w_434, w_5, by decide, by decide, by decide +kernel⟩
def fX6_isHeap_b7 (l1 : Int32) (M_x12 : Int32) (M_x18 : Int32) (M_r11 : (Nat → Int32)) (v1 : (Int32 × Int32 × Int32)) : Option ((Int32 × Int32 × Int32) ⊕ (Int32 × Int32)) :=
  if (8 : Int32) ≤ v1.2.2 then (some (.inr (v1.1, v1.2.1))) else (bd (fX6_isThere (M_x12) (M_x18) v1.2.2) (fun t1 => bd (if t1 = (0 : Int32) then (some (v1.1, v1.2.1)) else (bd (fX6_its (M_r11) v1.2.2 (0 : Int32)) (fun t2 => bd (fX6_its (M_r11) v1.2.2 (1 : Int32)) (fun t3 => bd (fX6_its (M_r11) v1.2.2 (0 : Int32)) (fun t4 => some ((v1.1 + (t2 * t3)), (v1.2.1 + t4))))))) (fun t5 => some (.inl (t5.1, t5.2, (v1.2.2 + (1 : Int32)))))))
def fX6_isHeap (M_r11 : (Nat → Int32)) (M_x12 : Int32) (M_x18 : Int32) (a1 : Int32) : Option Int32 :=
  bd (loopF (fX6_isHeap_b7 a1 M_x12 M_x18 M_r11) 1000 ((0 : Int32), (0 : Int32), (0 : Int32))) (fun T1 => if T1.2 ≤ (0 : Int32) then (some (0 : Int32)) else (if (a1 * T1.2) < T1.1 then (some (0 : Int32)) else (some (1 : Int32))))
set_option maxRecDepth 100000 in
set_option maxHeartbeats 4000000 in
theorem kX6_isHeap (l : Launch) (D : va_G) (cI cB cS : ClassId) (uM : Nat) (aM : Nat → Nat) (M_x1 : Int32) (M_x2 : Int32) (M_x3 : Int32) (M_x4 : Int32) (M_x5 : Int32) (M_x6 : Int32) (M_x7 : Int32) (M_x8 : Int32) (M_x12 : Int32) (M_x14 : Int32) (M_x17 : Int32) (M_x18 : Int32) (M_x19 : Int32) (M_x20 : Int32) (M_x23 : Int32) (M_x27 : Int32) (M_x29 : Int32) (M_x33 : Int32) (M_g24 : Int64) (M_g25 : Int64) (M_g26 : Int64) (M_g28 : Int64) (M_r0 : (Nat → Int32)) (M_r9 : (Nat → Int32)) (M_r10 : (Nat → Int32)) (M_r11 : (Nat → Int32)) (M_r13 : (Nat → Int32)) (M_r15 : (Nat → Int32)) (M_r16 : (Nat → Int32)) (M_r21 : (Nat → Int32)) (M_r22 : (Nat → Int32)) (M_r30 : (Nat → Int32)) (M_r31 : (Nat → Int32)) (M_r32 : (Nat → Int32)) (a1 : Int32) (z : Int32) (h : fX6_isHeap M_r11 M_x12 M_x18 a1 = some z) : Mt l yX6_isHeap cX6_isHeap 5 (some .boolean) 1 22 D cI cB cS (mW cI uM aM M_x1 M_x2 M_x3 M_x4 M_x5 M_x6 M_x7 M_x8 M_x12 M_x14 M_x17 M_x18 M_x19 M_x20 M_x23 M_x27 M_x29 M_x33 M_g24 M_g25 M_g26 M_g28 M_r0 M_r9 M_r10 M_r11 M_r13 M_r15 M_r16 M_r21 M_r22 M_r30 M_r31 M_r32) (mW cI uM aM M_x1 M_x2 M_x3 M_x4 M_x5 M_x6 M_x7 M_x8 M_x12 M_x14 M_x17 M_x18 M_x19 M_x20 M_x23 M_x27 M_x29 M_x33 M_g24 M_g25 M_g26 M_g28 M_r0 M_r9 M_r10 M_r11 M_r13 M_r15 M_r16 M_r21 M_r22 M_r30 M_r31 M_r32) [.ref uM, .int a1] (some (.int z)) := by
  refine entryZ (by decide +kernel) rfl (Nat.le_of_ble_eq_true rfl) ?_
  intro p e s m below meth c A ls QQ R ar F hRet jP jD jS jl
  obtain ⟨hx, hb, hml, hown, hts, jK, hA, hf1, hf2⟩ := id F
  have jl : lv_has ls 5 [(0, .ref uM), (1, .int a1)] := jl
  unfold fX6_isHeap at h
  refine lv_iconst (v := (0 : Int32)) hx hb dX6_isHeap_0 (by decide) ?_
  refine lv_istore_n (lv' := [(2, .int (0 : Int32)), (0, .ref uM), (1, .int a1)]) hx hb dX6_isHeap_1 rfl jl (by decide) rfl (fun ls jl => ?_)
  refine lv_iconst (v := (0 : Int32)) hx hb dX6_isHeap_2 (by decide) ?_
  refine lv_istore_n (lv' := [(3, .int (0 : Int32)), (2, .int (0 : Int32)), (0, .ref uM), (1, .int a1)]) hx hb dX6_isHeap_3 rfl jl (by decide) rfl (fun ls jl => ?_)
  refine lv_iconst (v := (0 : Int32)) hx hb dX6_isHeap_4 (by decide) ?_
  refine lv_istore (lv' := [(4, .int (0 : Int32)), (3, .int (0 : Int32)), (2, .int (0 : Int32)), (0, .ref uM), (1, .int a1)]) hx hb dX6_isHeap_5 jl (by decide) rfl (fun ls jl => ?_)
  obtain ⟨T1, hT1, hz1⟩ := bd_some h
  clear h
  have hE1 : ∀ (H : Heap) (locs : List Loc) (ls : Array Slot), va_P D vwCl (mW cI uM aM M_x1 M_x2 M_x3 M_x4 M_x5 M_x6 M_x7 M_x8 M_x12 M_x14 M_x17 M_x18 M_x19 M_x20 M_x23 M_x27 M_x29 M_x33 M_g24 M_g25 M_g26 M_g28 M_r0 M_r9 M_r10 M_r11 M_r13 M_r15 M_r16 M_r21 M_r22 M_r30 M_r31 M_r32) H → va_D A (mW cI uM aM M_x1 M_x2 M_x3 M_x4 M_x5 M_x6 M_x7 M_x8 M_x12 M_x14 M_x17 M_x18 M_x19 M_x20 M_x23 M_x27 M_x29 M_x33 M_g24 M_g25 M_g26 M_g28 M_r0 M_r9 M_r10 M_r11 M_r13 M_r15 M_r16 M_r21 M_r22 M_r30 M_r31 M_r32) → va_S A s.heap H locs → lv_has ls 5 [(1, .int a1), (2, .int T1.1), (3, .int T1.2)] → W p l e R s m ar below meth c H locs 0 0 QQ (F0 m 57 ls []) := by
    clear jP jD jS jl
    intro H locs ls jP jD jS jl
    refine lv_iload_n hx hb dX6_isHeap_57 rfl (lv_at jl 2 rfl) ?_
    refine lv_if_le (tgt := 72) hx hb dX6_isHeap_58 (by decide) (fun c13 => ?_) (fun c13 => ?_)
    · have hz1 := itp c13 hz1
      refine lv_iconst (v := (0 : Int32)) hx hb dX6_isHeap_72 (by decide) ?_
      obtain rfl := Option.some.inj hz1
      exact hRet _ _ _ _ (Or.inl rfl) jP jD jS dX6_isHeap_73
    · have hz1 := itn c13 hz1
      refine lv_iload_n hx hb dX6_isHeap_61 rfl (lv_at jl 1 rfl) ?_
      refine lv_iload_n hx hb dX6_isHeap_62 rfl (lv_at jl 0 rfl) ?_
      refine lv_iload_n hx hb dX6_isHeap_63 rfl (lv_at jl 2 rfl) ?_
      refine lv_imul hx hb dX6_isHeap_64 ?_
      refine lv_icmp_gt (tgt := 72) hx hb dX6_isHeap_65 (by decide) (fun c14 => ?_) (fun c14 => ?_)
      · have hz1 := itp c14 hz1
        refine lv_iconst (v := (0 : Int32)) hx hb dX6_isHeap_72 (by decide) ?_
        obtain rfl := Option.some.inj hz1
        exact hRet _ _ _ _ (Or.inl rfl) jP jD jS dX6_isHeap_73
      · have hz1 := itn c14 hz1
        refine lv_iconst (v := (1 : Int32)) hx hb dX6_isHeap_68 (by decide) ?_
        refine lv_goto (tgt := 73) hx hb dX6_isHeap_69 (by decide) ?_
        obtain rfl := Option.some.inj hz1
        exact hRet _ _ _ _ (Or.inr rfl) jP jD jS dX6_isHeap_73
  have hL1 : ∀ (n : Nat) (v1 : (Int32 × Int32 × Int32)), loopF (fX6_isHeap_b7 a1 M_x12 M_x18 M_r11) n v1 = some T1 → ∀ (H : Heap) (locs : List Loc) (ls : Array Slot), va_P D vwCl (mW cI uM aM M_x1 M_x2 M_x3 M_x4 M_x5 M_x6 M_x7 M_x8 M_x12 M_x14 M_x17 M_x18 M_x19 M_x20 M_x23 M_x27 M_x29 M_x33 M_g24 M_g25 M_g26 M_g28 M_r0 M_r9 M_r10 M_r11 M_r13 M_r15 M_r16 M_r21 M_r22 M_r30 M_r31 M_r32) H → va_D A (mW cI uM aM M_x1 M_x2 M_x3 M_x4 M_x5 M_x6 M_x7 M_x8 M_x12 M_x14 M_x17 M_x18 M_x19 M_x20 M_x23 M_x27 M_x29 M_x33 M_g24 M_g25 M_g26 M_g28 M_r0 M_r9 M_r10 M_r11 M_r13 M_r15 M_r16 M_r21 M_r22 M_r30 M_r31 M_r32) → va_S A s.heap H locs → lv_has ls 5 [(0, .ref uM), (1, .int a1), (2, .int v1.1), (3, .int v1.2.1), (4, .int v1.2.2)] → W p l e R s m ar below meth c H locs 0 0 QQ (F0 m 7 ls []) := by
    clear jP jD jS jl hT1
    intro n
    induction n with
    | zero => intro v1 hq; exact (loop_none hq).elim
    | succ n ih =>
      intro v1 hq H locs ls jP jD jS jl
      obtain ⟨o1, hv1, hq1⟩ := loop_some hq
      clear hq
      unfold fX6_isHeap_b7 at hv1
      refine lv_iload hx hb dX6_isHeap_7 (lv_at jl 4 rfl) ?_
      refine lv_bipush (v := (8 : Int32)) hx hb dX6_isHeap_9 (by decide) ?_
      refine lv_icmp_ge (tgt := 57) hx hb dX6_isHeap_11 (by decide) (fun c2 => ?_) (fun c2 => ?_)
      · have hv1 := itp c2 hv1
        obtain rfl := Option.some.inj hv1
        obtain rfl := nxt_r hq1
        exact hE1 _ _ _ jP jD jS (lv_sub jl [1, 2, 3] rfl)
      · have hv1 := itn c2 hv1
        refine lv_aload_n hx hb dX6_isHeap_14 rfl (lv_at jl 0 rfl) ?_
        refine lv_iload hx hb dX6_isHeap_15 (lv_at jl 4 rfl) ?_
        obtain ⟨t3, hc4, hv1⟩ := bd_some hv1
        refine callW (w1 := (mW cI uM aM M_x1 M_x2 M_x3 M_x4 M_x5 M_x6 M_x7 M_x8 M_x12 M_x14 M_x17 M_x18 M_x19 M_x20 M_x23 M_x27 M_x29 M_x33 M_g24 M_g25 M_g26 M_g28 M_r0 M_r9 M_r10 M_r11 M_r13 M_r15 M_r16 M_r21 M_r22 M_r30 M_r31 M_r32)) (As := [.int v1.2.2]) (rest := []) (st1 := [.int t3]) 0 F (kX6_isThere l D cI cB cS uM aM M_x1 M_x2 M_x3 M_x4 M_x5 M_x6 M_x7 M_x8 M_x12 M_x14 M_x17 M_x18 M_x19 M_x20 M_x23 M_x27 M_x29 M_x33 M_g24 M_g25 M_g26 M_g28 M_r0 M_r9 M_r10 M_r11 M_r13 M_r15 M_r16 M_r21 M_r22 M_r30 M_r31 M_r32 v1.2.2 _ hc4 ) okX6_isThere w_435 (by decide) (by decide) ⟨Nat.zero_le _, Nat.zero_le _⟩ rfl rfl rfl jP jD jS rfl jl.1 rfl rfl (Nat.le_of_ble_eq_true rfl) dX6_isHeap_17 (fun H locs jP jD jS => ?_)
        obtain ⟨t12, hvt12, hv1⟩ := bd_some hv1
        have hJt12 : ∀ (H : Heap) (locs : List Loc) (ls : Array Slot), va_P D vwCl (mW cI uM aM M_x1 M_x2 M_x3 M_x4 M_x5 M_x6 M_x7 M_x8 M_x12 M_x14 M_x17 M_x18 M_x19 M_x20 M_x23 M_x27 M_x29 M_x33 M_g24 M_g25 M_g26 M_g28 M_r0 M_r9 M_r10 M_r11 M_r13 M_r15 M_r16 M_r21 M_r22 M_r30 M_r31 M_r32) H → va_D A (mW cI uM aM M_x1 M_x2 M_x3 M_x4 M_x5 M_x6 M_x7 M_x8 M_x12 M_x14 M_x17 M_x18 M_x19 M_x20 M_x23 M_x27 M_x29 M_x33 M_g24 M_g25 M_g26 M_g28 M_r0 M_r9 M_r10 M_r11 M_r13 M_r15 M_r16 M_r21 M_r22 M_r30 M_r31 M_r32) → va_S A s.heap H locs → lv_has ls 5 [(0, .ref uM), (1, .int a1), (2, .int t12.1), (3, .int t12.2), (4, .int v1.2.2)] → W p l e R s m ar below meth c H locs 0 0 QQ (F0 m 51 ls []) := by
          clear jP jD jS jl
          intro H locs ls jP jD jS jl
          refine lv_iinc (v := (v1.2.2 + (1 : Int32))) (lv' := [(4, .int (v1.2.2 + (1 : Int32))), (0, .ref uM), (1, .int a1), (2, .int t12.1), (3, .int t12.2)]) hx hb dX6_isHeap_51 jl (k := 4) rfl rfl (by decide) rfl (fun ls jl => ?_)
          refine lv_goto (tgt := 7) hx hb dX6_isHeap_54 (by decide) ?_
          obtain rfl := Option.some.inj hv1
          exact ih _ (nxt_l hq1) _ _ _ jP jD jS (lv_sub jl [1, 2, 3, 4, 0] rfl)
        clear hv1
        refine lv_if_eq (tgt := 51) hx hb dX6_isHeap_20 (by decide) (fun c5 => ?_) (fun c5 => ?_)
        · have hvt12 := itp c5 hvt12
          obtain rfl := Option.some.inj hvt12
          exact hJt12 _ _ _ jP jD jS (lv_sub jl [0, 1, 2, 3, 4] rfl)
        · have hvt12 := itn c5 hvt12
          refine lv_iload_n hx hb dX6_isHeap_23 rfl (lv_at jl 2 rfl) ?_
          refine lv_aload_n hx hb dX6_isHeap_24 rfl (lv_at jl 0 rfl) ?_
          refine lv_iload hx hb dX6_isHeap_25 (lv_at jl 4 rfl) ?_
          refine lv_iconst (v := (0 : Int32)) hx hb dX6_isHeap_27 (by decide) ?_
          obtain ⟨t6, hc7, hvt12⟩ := bd_some hvt12
          refine callW (w1 := (mW cI uM aM M_x1 M_x2 M_x3 M_x4 M_x5 M_x6 M_x7 M_x8 M_x12 M_x14 M_x17 M_x18 M_x19 M_x20 M_x23 M_x27 M_x29 M_x33 M_g24 M_g25 M_g26 M_g28 M_r0 M_r9 M_r10 M_r11 M_r13 M_r15 M_r16 M_r21 M_r22 M_r30 M_r31 M_r32)) (As := [.int v1.2.2, .int (0 : Int32)]) (rest := [.int v1.1]) (st1 := [.int t6, .int v1.1]) 0 F (kX6_its l D cI cB cS uM aM M_x1 M_x2 M_x3 M_x4 M_x5 M_x6 M_x7 M_x8 M_x12 M_x14 M_x17 M_x18 M_x19 M_x20 M_x23 M_x27 M_x29 M_x33 M_g24 M_g25 M_g26 M_g28 M_r0 M_r9 M_r10 M_r11 M_r13 M_r15 M_r16 M_r21 M_r22 M_r30 M_r31 M_r32 v1.2.2 (0 : Int32) _ hc7 ) okX6_its w_320 (by decide) (by decide) ⟨Nat.zero_le _, Nat.zero_le _⟩ rfl rfl rfl jP jD jS rfl jl.1 rfl rfl (Nat.le_of_ble_eq_true rfl) dX6_isHeap_28 (fun H locs jP jD jS => ?_)
          refine lv_aload_n hx hb dX6_isHeap_31 rfl (lv_at jl 0 rfl) ?_
          refine lv_iload hx hb dX6_isHeap_32 (lv_at jl 4 rfl) ?_
          refine lv_iconst (v := (1 : Int32)) hx hb dX6_isHeap_34 (by decide) ?_
          obtain ⟨t8, hc9, hvt12⟩ := bd_some hvt12
          refine callW (w1 := (mW cI uM aM M_x1 M_x2 M_x3 M_x4 M_x5 M_x6 M_x7 M_x8 M_x12 M_x14 M_x17 M_x18 M_x19 M_x20 M_x23 M_x27 M_x29 M_x33 M_g24 M_g25 M_g26 M_g28 M_r0 M_r9 M_r10 M_r11 M_r13 M_r15 M_r16 M_r21 M_r22 M_r30 M_r31 M_r32)) (As := [.int v1.2.2, .int (1 : Int32)]) (rest := [.int t6, .int v1.1]) (st1 := [.int t8, .int t6, .int v1.1]) 0 F (kX6_its l D cI cB cS uM aM M_x1 M_x2 M_x3 M_x4 M_x5 M_x6 M_x7 M_x8 M_x12 M_x14 M_x17 M_x18 M_x19 M_x20 M_x23 M_x27 M_x29 M_x33 M_g24 M_g25 M_g26 M_g28 M_r0 M_r9 M_r10 M_r11 M_r13 M_r15 M_r16 M_r21 M_r22 M_r30 M_r31 M_r32 v1.2.2 (1 : Int32) _ hc9 ) okX6_its w_320 (by decide) (by decide) ⟨Nat.zero_le _, Nat.zero_le _⟩ rfl rfl rfl jP jD jS rfl jl.1 rfl rfl (Nat.le_of_ble_eq_true rfl) dX6_isHeap_35 (fun H locs jP jD jS => ?_)
          refine lv_imul hx hb dX6_isHeap_38 ?_
          refine lv_iadd hx hb dX6_isHeap_39 ?_
          refine lv_istore_n (lv' := [(2, .int (v1.1 + (t6 * t8))), (0, .ref uM), (1, .int a1), (3, .int v1.2.1), (4, .int v1.2.2)]) hx hb dX6_isHeap_40 rfl jl (by decide) rfl (fun ls jl => ?_)
          refine lv_iload_n hx hb dX6_isHeap_41 rfl (lv_at jl 3 rfl) ?_
          refine lv_aload_n hx hb dX6_isHeap_42 rfl (lv_at jl 1 rfl) ?_
          refine lv_iload hx hb dX6_isHeap_43 (lv_at jl 4 rfl) ?_
          refine lv_iconst (v := (0 : Int32)) hx hb dX6_isHeap_45 (by decide) ?_
          obtain ⟨t10, hc11, hvt12⟩ := bd_some hvt12
          refine callW (w1 := (mW cI uM aM M_x1 M_x2 M_x3 M_x4 M_x5 M_x6 M_x7 M_x8 M_x12 M_x14 M_x17 M_x18 M_x19 M_x20 M_x23 M_x27 M_x29 M_x33 M_g24 M_g25 M_g26 M_g28 M_r0 M_r9 M_r10 M_r11 M_r13 M_r15 M_r16 M_r21 M_r22 M_r30 M_r31 M_r32)) (As := [.int v1.2.2, .int (0 : Int32)]) (rest := [.int v1.2.1]) (st1 := [.int t10, .int v1.2.1]) 0 F (kX6_its l D cI cB cS uM aM M_x1 M_x2 M_x3 M_x4 M_x5 M_x6 M_x7 M_x8 M_x12 M_x14 M_x17 M_x18 M_x19 M_x20 M_x23 M_x27 M_x29 M_x33 M_g24 M_g25 M_g26 M_g28 M_r0 M_r9 M_r10 M_r11 M_r13 M_r15 M_r16 M_r21 M_r22 M_r30 M_r31 M_r32 v1.2.2 (0 : Int32) _ hc11 ) okX6_its w_320 (by decide) (by decide) ⟨Nat.zero_le _, Nat.zero_le _⟩ rfl rfl rfl jP jD jS rfl jl.1 rfl rfl (Nat.le_of_ble_eq_true rfl) dX6_isHeap_46 (fun H locs jP jD jS => ?_)
          refine lv_iadd hx hb dX6_isHeap_49 ?_
          refine lv_istore_n (lv' := [(3, .int (v1.2.1 + t10)), (2, .int (v1.1 + (t6 * t8))), (0, .ref uM), (1, .int a1), (4, .int v1.2.2)]) hx hb dX6_isHeap_50 rfl jl (by decide) rfl (fun ls jl => ?_)
          obtain rfl := Option.some.inj hvt12
          exact hJt12 _ _ _ jP jD jS (lv_sub jl [2, 3, 1, 0, 4] rfl)
  exact hL1 1000 _ hT1 _ _ _ jP jD jS (lv_sub jl [3, 4, 2, 1, 0] rfl)
theorem okX6_comesWhole : okV yX6_comesWhole cX6_comesWhole 5 (some .boolean) 4 := ⟨w_440, w_441, w_442, w_5, by decide, by decide, by decide +kernel⟩
def fX6_comesWhole (M_r11 : (Nat → Int32)) (a1 : Int32) (a2 : Int32) (a3 : Int32) (a4 : Int32) : Option Int32 :=
  if a1 = (1 : Int32) then (bd (fX6_its (M_r11) a4 (1 : Int32)) (fun t3 => bd (fX6_its (M_r11) a4 (3 : Int32)) (fun t5 => if ((10 : Int32) * a3) < (((10 : Int32) * t3) + (t5 * a2)) then (some (0 : Int32)) else (some (1 : Int32))))) else (if a1 = (3 : Int32) then (bd (fX6_its (M_r11) a4 (1 : Int32)) (fun t8 => if t8 ≤ a3 then (some (1 : Int32)) else (bd (fX6_its (M_r11) a4 (3 : Int32)) (fun t11 => if (t11 * a2) = (100 : Int32) then (some (1 : Int32)) else (some (0 : Int32)))))) else (bd (fX6_its (M_r11) a4 (1 : Int32)) (fun t14 => if a3 < t14 then (some (0 : Int32)) else (some (1 : Int32)))))
set_option maxRecDepth 100000 in
set_option maxHeartbeats 4000000 in
theorem kX6_comesWhole (l : Launch) (D : va_G) (cI cB cS : ClassId) (uM : Nat) (aM : Nat → Nat) (M_x1 : Int32) (M_x2 : Int32) (M_x3 : Int32) (M_x4 : Int32) (M_x5 : Int32) (M_x6 : Int32) (M_x7 : Int32) (M_x8 : Int32) (M_x12 : Int32) (M_x14 : Int32) (M_x17 : Int32) (M_x18 : Int32) (M_x19 : Int32) (M_x20 : Int32) (M_x23 : Int32) (M_x27 : Int32) (M_x29 : Int32) (M_x33 : Int32) (M_g24 : Int64) (M_g25 : Int64) (M_g26 : Int64) (M_g28 : Int64) (M_r0 : (Nat → Int32)) (M_r9 : (Nat → Int32)) (M_r10 : (Nat → Int32)) (M_r11 : (Nat → Int32)) (M_r13 : (Nat → Int32)) (M_r15 : (Nat → Int32)) (M_r16 : (Nat → Int32)) (M_r21 : (Nat → Int32)) (M_r22 : (Nat → Int32)) (M_r30 : (Nat → Int32)) (M_r31 : (Nat → Int32)) (M_r32 : (Nat → Int32)) (a1 : Int32) (a2 : Int32) (a3 : Int32) (a4 : Int32) (z : Int32) (h : fX6_comesWhole M_r11 a1 a2 a3 a4 = some z) : Mt l yX6_comesWhole cX6_comesWhole 5 (some .boolean) 1 22 D cI cB cS (mW cI uM aM M_x1 M_x2 M_x3 M_x4 M_x5 M_x6 M_x7 M_x8 M_x12 M_x14 M_x17 M_x18 M_x19 M_x20 M_x23 M_x27 M_x29 M_x33 M_g24 M_g25 M_g26 M_g28 M_r0 M_r9 M_r10 M_r11 M_r13 M_r15 M_r16 M_r21 M_r22 M_r30 M_r31 M_r32) (mW cI uM aM M_x1 M_x2 M_x3 M_x4 M_x5 M_x6 M_x7 M_x8 M_x12 M_x14 M_x17 M_x18 M_x19 M_x20 M_x23 M_x27 M_x29 M_x33 M_g24 M_g25 M_g26 M_g28 M_r0 M_r9 M_r10 M_r11 M_r13 M_r15 M_r16 M_r21 M_r22 M_r30 M_r31 M_r32) [.ref uM, .int a1, .int a2, .int a3, .int a4] (some (.int z)) := by
  refine entryZ (by decide +kernel) rfl (Nat.le_of_ble_eq_true rfl) ?_
  intro p e s m below meth c A ls QQ R ar F hRet jP jD jS jl
  obtain ⟨hx, hb, hml, hown, hts, jK, hA, hf1, hf2⟩ := id F
  have jl : lv_has ls 5 [(0, .ref uM), (1, .int a1), (2, .int a2), (3, .int a3), (4, .int a4)] := jl
  unfold fX6_comesWhole at h
  refine lv_iload_n hx hb dX6_comesWhole_0 rfl (lv_at jl 1 rfl) ?_
  by_cases hk1 : a1 = (1 : Int32)
  · have h := itp hk1 h
    refine swLk (k := 1) (tgt := 28) hx hb hk1 dX6_comesWhole_1 (by decide) rfl (by decide) ?_
    refine lv_bipush (v := (10 : Int32)) hx hb dX6_comesWhole_28 (by decide) ?_
    refine lv_aload_n hx hb dX6_comesWhole_30 rfl (lv_at jl 0 rfl) ?_
    refine lv_iload hx hb dX6_comesWhole_31 (lv_at jl 4 rfl) ?_
    refine lv_iconst (v := (1 : Int32)) hx hb dX6_comesWhole_33 (by decide) ?_
    obtain ⟨t3, hc4, h⟩ := bd_some h
    refine callW (w1 := (mW cI uM aM M_x1 M_x2 M_x3 M_x4 M_x5 M_x6 M_x7 M_x8 M_x12 M_x14 M_x17 M_x18 M_x19 M_x20 M_x23 M_x27 M_x29 M_x33 M_g24 M_g25 M_g26 M_g28 M_r0 M_r9 M_r10 M_r11 M_r13 M_r15 M_r16 M_r21 M_r22 M_r30 M_r31 M_r32)) (As := [.int a4, .int (1 : Int32)]) (rest := [.int (10 : Int32)]) (st1 := [.int t3, .int (10 : Int32)]) 0 F (kX6_its l D cI cB cS uM aM M_x1 M_x2 M_x3 M_x4 M_x5 M_x6 M_x7 M_x8 M_x12 M_x14 M_x17 M_x18 M_x19 M_x20 M_x23 M_x27 M_x29 M_x33 M_g24 M_g25 M_g26 M_g28 M_r0 M_r9 M_r10 M_r11 M_r13 M_r15 M_r16 M_r21 M_r22 M_r30 M_r31 M_r32 a4 (1 : Int32) _ hc4 ) okX6_its w_320 (by decide) (by decide) ⟨Nat.zero_le _, Nat.zero_le _⟩ rfl rfl rfl jP jD jS rfl jl.1 rfl rfl (Nat.le_of_ble_eq_true rfl) dX6_comesWhole_34 (fun H locs jP jD jS => ?_)
    refine lv_imul hx hb dX6_comesWhole_37 ?_
    refine lv_aload_n hx hb dX6_comesWhole_38 rfl (lv_at jl 0 rfl) ?_
    refine lv_iload hx hb dX6_comesWhole_39 (lv_at jl 4 rfl) ?_
    refine lv_iconst (v := (3 : Int32)) hx hb dX6_comesWhole_41 (by decide) ?_
    obtain ⟨t5, hc6, h⟩ := bd_some h
    refine callW (w1 := (mW cI uM aM M_x1 M_x2 M_x3 M_x4 M_x5 M_x6 M_x7 M_x8 M_x12 M_x14 M_x17 M_x18 M_x19 M_x20 M_x23 M_x27 M_x29 M_x33 M_g24 M_g25 M_g26 M_g28 M_r0 M_r9 M_r10 M_r11 M_r13 M_r15 M_r16 M_r21 M_r22 M_r30 M_r31 M_r32)) (As := [.int a4, .int (3 : Int32)]) (rest := [.int ((10 : Int32) * t3)]) (st1 := [.int t5, .int ((10 : Int32) * t3)]) 0 F (kX6_its l D cI cB cS uM aM M_x1 M_x2 M_x3 M_x4 M_x5 M_x6 M_x7 M_x8 M_x12 M_x14 M_x17 M_x18 M_x19 M_x20 M_x23 M_x27 M_x29 M_x33 M_g24 M_g25 M_g26 M_g28 M_r0 M_r9 M_r10 M_r11 M_r13 M_r15 M_r16 M_r21 M_r22 M_r30 M_r31 M_r32 a4 (3 : Int32) _ hc6 ) okX6_its w_320 (by decide) (by decide) ⟨Nat.zero_le _, Nat.zero_le _⟩ rfl rfl rfl jP jD jS rfl jl.1 rfl rfl (Nat.le_of_ble_eq_true rfl) dX6_comesWhole_42 (fun H locs jP jD jS => ?_)
    refine lv_iload_n hx hb dX6_comesWhole_45 rfl (lv_at jl 2 rfl) ?_
    refine lv_imul hx hb dX6_comesWhole_46 ?_
    refine lv_iadd hx hb dX6_comesWhole_47 ?_
    refine lv_bipush (v := (10 : Int32)) hx hb dX6_comesWhole_48 (by decide) ?_
    refine lv_iload_n hx hb dX6_comesWhole_50 rfl (lv_at jl 3 rfl) ?_
    refine lv_imul hx hb dX6_comesWhole_51 ?_
    refine lv_icmp_gt (tgt := 59) hx hb dX6_comesWhole_52 (by decide) (fun c7 => ?_) (fun c7 => ?_)
    · have h := itp c7 h
      refine lv_iconst (v := (0 : Int32)) hx hb dX6_comesWhole_59 (by decide) ?_
      obtain rfl := Option.some.inj h
      exact hRet _ _ _ _ (Or.inl rfl) jP jD jS dX6_comesWhole_60
    · have h := itn c7 h
      refine lv_iconst (v := (1 : Int32)) hx hb dX6_comesWhole_55 (by decide) ?_
      refine lv_goto (tgt := 60) hx hb dX6_comesWhole_56 (by decide) ?_
      obtain rfl := Option.some.inj h
      exact hRet _ _ _ _ (Or.inr rfl) jP jD jS dX6_comesWhole_60
  · have h := itn hk1 h
    by_cases hk2 : a1 = (3 : Int32)
    · have h := itp hk2 h
      refine swLk (k := 3) (tgt := 61) hx hb hk2 dX6_comesWhole_1 (by decide) rfl (by decide) ?_
      refine lv_aload_n hx hb dX6_comesWhole_61 rfl (lv_at jl 0 rfl) ?_
      refine lv_iload hx hb dX6_comesWhole_62 (lv_at jl 4 rfl) ?_
      refine lv_iconst (v := (1 : Int32)) hx hb dX6_comesWhole_64 (by decide) ?_
      obtain ⟨t8, hc9, h⟩ := bd_some h
      refine callW (w1 := (mW cI uM aM M_x1 M_x2 M_x3 M_x4 M_x5 M_x6 M_x7 M_x8 M_x12 M_x14 M_x17 M_x18 M_x19 M_x20 M_x23 M_x27 M_x29 M_x33 M_g24 M_g25 M_g26 M_g28 M_r0 M_r9 M_r10 M_r11 M_r13 M_r15 M_r16 M_r21 M_r22 M_r30 M_r31 M_r32)) (As := [.int a4, .int (1 : Int32)]) (rest := []) (st1 := [.int t8]) 0 F (kX6_its l D cI cB cS uM aM M_x1 M_x2 M_x3 M_x4 M_x5 M_x6 M_x7 M_x8 M_x12 M_x14 M_x17 M_x18 M_x19 M_x20 M_x23 M_x27 M_x29 M_x33 M_g24 M_g25 M_g26 M_g28 M_r0 M_r9 M_r10 M_r11 M_r13 M_r15 M_r16 M_r21 M_r22 M_r30 M_r31 M_r32 a4 (1 : Int32) _ hc9 ) okX6_its w_320 (by decide) (by decide) ⟨Nat.zero_le _, Nat.zero_le _⟩ rfl rfl rfl jP jD jS rfl jl.1 rfl rfl (Nat.le_of_ble_eq_true rfl) dX6_comesWhole_65 (fun H locs jP jD jS => ?_)
      refine lv_iload_n hx hb dX6_comesWhole_68 rfl (lv_at jl 3 rfl) ?_
      refine lv_icmp_le (tgt := 86) hx hb dX6_comesWhole_69 (by decide) (fun c10 => ?_) (fun c10 => ?_)
      · have h := itp c10 h
        refine lv_iconst (v := (1 : Int32)) hx hb dX6_comesWhole_86 (by decide) ?_
        refine lv_goto (tgt := 91) hx hb dX6_comesWhole_87 (by decide) ?_
        obtain rfl := Option.some.inj h
        exact hRet _ _ _ _ (Or.inr rfl) jP jD jS dX6_comesWhole_91
      · have h := itn c10 h
        refine lv_aload_n hx hb dX6_comesWhole_72 rfl (lv_at jl 0 rfl) ?_
        refine lv_iload hx hb dX6_comesWhole_73 (lv_at jl 4 rfl) ?_
        refine lv_iconst (v := (3 : Int32)) hx hb dX6_comesWhole_75 (by decide) ?_
        obtain ⟨t11, hc12, h⟩ := bd_some h
        refine callW (w1 := (mW cI uM aM M_x1 M_x2 M_x3 M_x4 M_x5 M_x6 M_x7 M_x8 M_x12 M_x14 M_x17 M_x18 M_x19 M_x20 M_x23 M_x27 M_x29 M_x33 M_g24 M_g25 M_g26 M_g28 M_r0 M_r9 M_r10 M_r11 M_r13 M_r15 M_r16 M_r21 M_r22 M_r30 M_r31 M_r32)) (As := [.int a4, .int (3 : Int32)]) (rest := []) (st1 := [.int t11]) 0 F (kX6_its l D cI cB cS uM aM M_x1 M_x2 M_x3 M_x4 M_x5 M_x6 M_x7 M_x8 M_x12 M_x14 M_x17 M_x18 M_x19 M_x20 M_x23 M_x27 M_x29 M_x33 M_g24 M_g25 M_g26 M_g28 M_r0 M_r9 M_r10 M_r11 M_r13 M_r15 M_r16 M_r21 M_r22 M_r30 M_r31 M_r32 a4 (3 : Int32) _ hc12 ) okX6_its w_320 (by decide) (by decide) ⟨Nat.zero_le _, Nat.zero_le _⟩ rfl rfl rfl jP jD jS rfl jl.1 rfl rfl (Nat.le_of_ble_eq_true rfl) dX6_comesWhole_76 (fun H locs jP jD jS => ?_)
        refine lv_iload_n hx hb dX6_comesWhole_79 rfl (lv_at jl 2 rfl) ?_
        refine lv_imul hx hb dX6_comesWhole_80 ?_
        refine lv_bipush (v := (100 : Int32)) hx hb dX6_comesWhole_81 (by decide) ?_
        refine lv_icmp_ne (tgt := 90) hx hb dX6_comesWhole_83 (by decide) (fun c13 => ?_) (fun c13 => ?_)
        · have h := itn c13 h
          refine lv_iconst (v := (0 : Int32)) hx hb dX6_comesWhole_90 (by decide) ?_
          obtain rfl := Option.some.inj h
          exact hRet _ _ _ _ (Or.inl rfl) jP jD jS dX6_comesWhole_91
        · have h := itp c13 h
          refine lv_iconst (v := (1 : Int32)) hx hb dX6_comesWhole_86 (by decide) ?_
          refine lv_goto (tgt := 91) hx hb dX6_comesWhole_87 (by decide) ?_
          obtain rfl := Option.some.inj h
          exact hRet _ _ _ _ (Or.inr rfl) jP jD jS dX6_comesWhole_91
    · have h := itn hk2 h
      refine lv_lookup (off := 91) (tgt := 92) hx hb dX6_comesWhole_1 (by decide) ((lv_osw hk1 (by decide)).trans ((lv_osw hk2 (by decide)).trans rfl)) (by decide) ?_
      refine lv_aload_n hx hb dX6_comesWhole_92 rfl (lv_at jl 0 rfl) ?_
      refine lv_iload hx hb dX6_comesWhole_93 (lv_at jl 4 rfl) ?_
      refine lv_iconst (v := (1 : Int32)) hx hb dX6_comesWhole_95 (by decide) ?_
      obtain ⟨t14, hc15, h⟩ := bd_some h
      refine callW (w1 := (mW cI uM aM M_x1 M_x2 M_x3 M_x4 M_x5 M_x6 M_x7 M_x8 M_x12 M_x14 M_x17 M_x18 M_x19 M_x20 M_x23 M_x27 M_x29 M_x33 M_g24 M_g25 M_g26 M_g28 M_r0 M_r9 M_r10 M_r11 M_r13 M_r15 M_r16 M_r21 M_r22 M_r30 M_r31 M_r32)) (As := [.int a4, .int (1 : Int32)]) (rest := []) (st1 := [.int t14]) 0 F (kX6_its l D cI cB cS uM aM M_x1 M_x2 M_x3 M_x4 M_x5 M_x6 M_x7 M_x8 M_x12 M_x14 M_x17 M_x18 M_x19 M_x20 M_x23 M_x27 M_x29 M_x33 M_g24 M_g25 M_g26 M_g28 M_r0 M_r9 M_r10 M_r11 M_r13 M_r15 M_r16 M_r21 M_r22 M_r30 M_r31 M_r32 a4 (1 : Int32) _ hc15 ) okX6_its w_320 (by decide) (by decide) ⟨Nat.zero_le _, Nat.zero_le _⟩ rfl rfl rfl jP jD jS rfl jl.1 rfl rfl (Nat.le_of_ble_eq_true rfl) dX6_comesWhole_96 (fun H locs jP jD jS => ?_)
      refine lv_iload_n hx hb dX6_comesWhole_99 rfl (lv_at jl 3 rfl) ?_
      refine lv_icmp_gt (tgt := 107) hx hb dX6_comesWhole_100 (by decide) (fun c16 => ?_) (fun c16 => ?_)
      · have h := itp c16 h
        refine lv_iconst (v := (0 : Int32)) hx hb dX6_comesWhole_107 (by decide) ?_
        obtain rfl := Option.some.inj h
        exact hRet _ _ _ _ (Or.inl rfl) jP jD jS dX6_comesWhole_108
      · have h := itn c16 h
        refine lv_iconst (v := (1 : Int32)) hx hb dX6_comesWhole_103 (by decide) ?_
        refine lv_goto (tgt := 108) hx hb dX6_comesWhole_104 (by decide) ?_
        obtain rfl := Option.some.inj h
        exact hRet _ _ _ _ (Or.inr rfl) jP jD jS dX6_comesWhole_108
theorem okX6_partsOf : okV yX6_partsOf cX6_partsOf 4 (some .int) 3 := ⟨w_444, w_445, w_446, w_5, by decide, by decide, by decide +kernel⟩
def fX6_partsOf (M_r11 : (Nat → Int32)) (M_r15 : (Nat → Int32)) (a1 : Int32) (a2 : Int32) (a3 : Int32) : Option Int32 :=
  if a1 = (2 : Int32) then (bd (fX6_isGood (M_r11) (M_r15) a3) (fun t5 => bd (if t5 = (0 : Int32) then (some ((8 : Int32) - (M_r15 (1 : Int32).toNatClampNeg))) else (some (M_r15 (1 : Int32).toNatClampNeg))) (fun t8 => some ((100 : Int32) * t8)))) else (if a1 = (3 : Int32) then (bd (fX6_its (M_r11) a3 (3 : Int32)) (fun t3 => some ((8 : Int32) * ((100 : Int32) - (t3 * a2))))) else (some (800 : Int32)))
set_option maxRecDepth 100000 in
set_option maxHeartbeats 4000000 in
theorem kX6_partsOf (l : Launch) (D : va_G) (cI cB cS : ClassId) (uM : Nat) (aM : Nat → Nat) (M_x1 : Int32) (M_x2 : Int32) (M_x3 : Int32) (M_x4 : Int32) (M_x5 : Int32) (M_x6 : Int32) (M_x7 : Int32) (M_x8 : Int32) (M_x12 : Int32) (M_x14 : Int32) (M_x17 : Int32) (M_x18 : Int32) (M_x19 : Int32) (M_x20 : Int32) (M_x23 : Int32) (M_x27 : Int32) (M_x29 : Int32) (M_x33 : Int32) (M_g24 : Int64) (M_g25 : Int64) (M_g26 : Int64) (M_g28 : Int64) (M_r0 : (Nat → Int32)) (M_r9 : (Nat → Int32)) (M_r10 : (Nat → Int32)) (M_r11 : (Nat → Int32)) (M_r13 : (Nat → Int32)) (M_r15 : (Nat → Int32)) (M_r16 : (Nat → Int32)) (M_r21 : (Nat → Int32)) (M_r22 : (Nat → Int32)) (M_r30 : (Nat → Int32)) (M_r31 : (Nat → Int32)) (M_r32 : (Nat → Int32)) (a1 : Int32) (a2 : Int32) (a3 : Int32) (z : Int32) (h : fX6_partsOf M_r11 M_r15 a1 a2 a3 = some z) : Mt l yX6_partsOf cX6_partsOf 4 (some .int) 2 43 D cI cB cS (mW cI uM aM M_x1 M_x2 M_x3 M_x4 M_x5 M_x6 M_x7 M_x8 M_x12 M_x14 M_x17 M_x18 M_x19 M_x20 M_x23 M_x27 M_x29 M_x33 M_g24 M_g25 M_g26 M_g28 M_r0 M_r9 M_r10 M_r11 M_r13 M_r15 M_r16 M_r21 M_r22 M_r30 M_r31 M_r32) (mW cI uM aM M_x1 M_x2 M_x3 M_x4 M_x5 M_x6 M_x7 M_x8 M_x12 M_x14 M_x17 M_x18 M_x19 M_x20 M_x23 M_x27 M_x29 M_x33 M_g24 M_g25 M_g26 M_g28 M_r0 M_r9 M_r10 M_r11 M_r13 M_r15 M_r16 M_r21 M_r22 M_r30 M_r31 M_r32) [.ref uM, .int a1, .int a2, .int a3] (some (.int z)) := by
  refine entryI (by decide +kernel) rfl (Nat.le_of_ble_eq_true rfl) ?_
  intro p e s m below meth c A ls QQ R ar F hRet jP jD jS jl
  obtain ⟨hx, hb, hml, hown, hts, jK, hA, hf1, hf2⟩ := id F
  have jl : lv_has ls 4 [(0, .ref uM), (1, .int a1), (2, .int a2), (3, .int a3)] := jl
  unfold fX6_partsOf at h
  refine lv_iload_n hx hb dX6_partsOf_0 rfl (lv_at jl 1 rfl) ?_
  refine lv_iconst (v := (2 : Int32)) hx hb dX6_partsOf_1 (by decide) ?_
  refine lv_icmp_ne (tgt := 37) hx hb dX6_partsOf_2 (by decide) (fun c1 => ?_) (fun c1 => ?_)
  · have h := itn c1 h
    refine lv_iload_n hx hb dX6_partsOf_37 rfl (lv_at jl 1 rfl) ?_
    refine lv_iconst (v := (3 : Int32)) hx hb dX6_partsOf_38 (by decide) ?_
    refine lv_icmp_ne (tgt := 59) hx hb dX6_partsOf_39 (by decide) (fun c2 => ?_) (fun c2 => ?_)
    · have h := itn c2 h
      refine lv_sipush (v := (800 : Int32)) hx hb dX6_partsOf_59 (by decide) ?_
      obtain rfl := Option.some.inj h
      exact hRet _ _ _ _ jP jD jS dX6_partsOf_62
    · have h := itp c2 h
      refine lv_bipush (v := (8 : Int32)) hx hb dX6_partsOf_42 (by decide) ?_
      refine lv_bipush (v := (100 : Int32)) hx hb dX6_partsOf_44 (by decide) ?_
      refine lv_aload_n hx hb dX6_partsOf_46 rfl (lv_at jl 0 rfl) ?_
      refine lv_iload_n hx hb dX6_partsOf_47 rfl (lv_at jl 3 rfl) ?_
      refine lv_iconst (v := (3 : Int32)) hx hb dX6_partsOf_48 (by decide) ?_
      obtain ⟨t3, hc4, h⟩ := bd_some h
      refine callW (w1 := (mW cI uM aM M_x1 M_x2 M_x3 M_x4 M_x5 M_x6 M_x7 M_x8 M_x12 M_x14 M_x17 M_x18 M_x19 M_x20 M_x23 M_x27 M_x29 M_x33 M_g24 M_g25 M_g26 M_g28 M_r0 M_r9 M_r10 M_r11 M_r13 M_r15 M_r16 M_r21 M_r22 M_r30 M_r31 M_r32)) (As := [.int a3, .int (3 : Int32)]) (rest := [.int (100 : Int32), .int (8 : Int32)]) (st1 := [.int t3, .int (100 : Int32), .int (8 : Int32)]) 0 F (kX6_its l D cI cB cS uM aM M_x1 M_x2 M_x3 M_x4 M_x5 M_x6 M_x7 M_x8 M_x12 M_x14 M_x17 M_x18 M_x19 M_x20 M_x23 M_x27 M_x29 M_x33 M_g24 M_g25 M_g26 M_g28 M_r0 M_r9 M_r10 M_r11 M_r13 M_r15 M_r16 M_r21 M_r22 M_r30 M_r31 M_r32 a3 (3 : Int32) _ hc4 ) okX6_its w_320 (by decide) (by decide) ⟨Nat.zero_le _, Nat.zero_le _⟩ rfl rfl rfl jP jD jS rfl jl.1 rfl rfl (Nat.le_of_ble_eq_true rfl) dX6_partsOf_49 (fun H locs jP jD jS => ?_)
      refine lv_iload_n hx hb dX6_partsOf_52 rfl (lv_at jl 2 rfl) ?_
      refine lv_imul hx hb dX6_partsOf_53 ?_
      refine lv_isub hx hb dX6_partsOf_54 ?_
      refine lv_imul hx hb dX6_partsOf_55 ?_
      refine lv_goto (tgt := 62) hx hb dX6_partsOf_56 (by decide) ?_
      obtain rfl := Option.some.inj h
      exact hRet _ _ _ _ jP jD jS dX6_partsOf_62
  · have h := itp c1 h
    refine lv_bipush (v := (100 : Int32)) hx hb dX6_partsOf_5 (by decide) ?_
    refine lv_aload_n hx hb dX6_partsOf_7 rfl (lv_at jl 0 rfl) ?_
    refine lv_iload_n hx hb dX6_partsOf_8 rfl (lv_at jl 3 rfl) ?_
    obtain ⟨t5, hc6, h⟩ := bd_some h
    refine callW (w1 := (mW cI uM aM M_x1 M_x2 M_x3 M_x4 M_x5 M_x6 M_x7 M_x8 M_x12 M_x14 M_x17 M_x18 M_x19 M_x20 M_x23 M_x27 M_x29 M_x33 M_g24 M_g25 M_g26 M_g28 M_r0 M_r9 M_r10 M_r11 M_r13 M_r15 M_r16 M_r21 M_r22 M_r30 M_r31 M_r32)) (As := [.int a3]) (rest := [.int (100 : Int32)]) (st1 := [.int t5, .int (100 : Int32)]) 0 F (kX6_isGood l D cI cB cS uM aM M_x1 M_x2 M_x3 M_x4 M_x5 M_x6 M_x7 M_x8 M_x12 M_x14 M_x17 M_x18 M_x19 M_x20 M_x23 M_x27 M_x29 M_x33 M_g24 M_g25 M_g26 M_g28 M_r0 M_r9 M_r10 M_r11 M_r13 M_r15 M_r16 M_r21 M_r22 M_r30 M_r31 M_r32 a3 _ hc6 ) okX6_isGood w_337 (by decide) (by decide) ⟨Nat.zero_le _, Nat.zero_le _⟩ rfl rfl rfl jP jD jS rfl jl.1 rfl rfl (Nat.le_of_ble_eq_true rfl) dX6_partsOf_9 (fun H locs jP jD jS => ?_)
    obtain ⟨t8, hvt8, h⟩ := bd_some h
    have hJt8 : ∀ (H : Heap) (locs : List Loc) (ls : Array Slot), va_P D vwCl (mW cI uM aM M_x1 M_x2 M_x3 M_x4 M_x5 M_x6 M_x7 M_x8 M_x12 M_x14 M_x17 M_x18 M_x19 M_x20 M_x23 M_x27 M_x29 M_x33 M_g24 M_g25 M_g26 M_g28 M_r0 M_r9 M_r10 M_r11 M_r13 M_r15 M_r16 M_r21 M_r22 M_r30 M_r31 M_r32) H → va_D A (mW cI uM aM M_x1 M_x2 M_x3 M_x4 M_x5 M_x6 M_x7 M_x8 M_x12 M_x14 M_x17 M_x18 M_x19 M_x20 M_x23 M_x27 M_x29 M_x33 M_g24 M_g25 M_g26 M_g28 M_r0 M_r9 M_r10 M_r11 M_r13 M_r15 M_r16 M_r21 M_r22 M_r30 M_r31 M_r32) → va_S A s.heap H locs → lv_has ls 4 [] → W p l e R s m ar below meth c H locs 0 0 QQ (F0 m 33 ls [.int t8, .int (100 : Int32)]) := by
      clear jP jD jS jl
      intro H locs ls jP jD jS jl
      refine lv_imul hx hb dX6_partsOf_33 ?_
      refine lv_goto (tgt := 62) hx hb dX6_partsOf_34 (by decide) ?_
      obtain rfl := Option.some.inj h
      exact hRet _ _ _ _ jP jD jS dX6_partsOf_62
    clear h
    refine lv_if_eq (tgt := 24) hx hb dX6_partsOf_12 (by decide) (fun c7 => ?_) (fun c7 => ?_)
    · have hvt8 := itp c7 hvt8
      refine lv_bipush (v := (8 : Int32)) hx hb dX6_partsOf_24 (by decide) ?_
      refine lv_aload_n hx hb dX6_partsOf_26 rfl (lv_at jl 0 rfl) ?_
      refine va_get (D := D) (ci := 6) (v := .ref (aM 15)) (C := RX6) (T := TX6) (N := 34) hx hb hts in6 hown jK.1 jP 0 rfl rfl 15 (by decide) (hts _ w_82) (fun _ h9 => h9) rfl dX6_partsOf_27 ?_
      refine lv_iconst (v := (1 : Int32)) hx hb dX6_partsOf_30 (by decide) ?_
      refine va_iald (f := M_r15) hx hb jK.1 jP 6 0 rfl rfl (by unfold vp_in; decide) dX6_partsOf_31 ?_
      refine lv_isub hx hb dX6_partsOf_32 ?_
      obtain rfl := Option.some.inj hvt8
      exact hJt8 _ _ _ jP jD jS (lv_sub jl [] rfl)
    · have hvt8 := itn c7 hvt8
      refine lv_aload_n hx hb dX6_partsOf_15 rfl (lv_at jl 0 rfl) ?_
      refine va_get (D := D) (ci := 6) (v := .ref (aM 15)) (C := RX6) (T := TX6) (N := 34) hx hb hts in6 hown jK.1 jP 0 rfl rfl 15 (by decide) (hts _ w_82) (fun _ h9 => h9) rfl dX6_partsOf_16 ?_
      refine lv_iconst (v := (1 : Int32)) hx hb dX6_partsOf_19 (by decide) ?_
      refine va_iald (f := M_r15) hx hb jK.1 jP 6 0 rfl rfl (by unfold vp_in; decide) dX6_partsOf_20 ?_
      refine lv_goto (tgt := 33) hx hb dX6_partsOf_21 (by decide) ?_
      obtain rfl := Option.some.inj hvt8
      exact hJt8 _ _ _ jP jD jS (lv_sub jl [] rfl)
theorem okX6_layOffer : okV yX6_layOffer cX6_layOffer 7 none 3 := ⟨w_424, w_425, w_426, w_5, by decide, by decide, by decide +kernel⟩
def fX6_layOffer_b48 (l1 : Int32) (l2 : Int32) (l3 : Int32) (l4 : Int32) (M_x12 : Int32) (M_x18 : Int32) (M_r11 : (Nat → Int32)) (M_r15 : (Nat → Int32)) (v1 : (Int32 × Int64 × Int64 × (Nat → Int32) × (Nat → Int32) × Int32 × Int32 × Int32)) : Option ((Int32 × Int64 × Int64 × (Nat → Int32) × (Nat → Int32) × Int32 × Int32 × Int32) ⊕ (Int64 × Int64 × (Nat → Int32) × (Nat → Int32) × Int32 × Int32 × Int32)) :=
  if (8 : Int32) ≤ v1.1 then (some (.inr (v1.2.1, v1.2.2.1, v1.2.2.2.1, v1.2.2.2.2.1, v1.2.2.2.2.2.1, v1.2.2.2.2.2.2.1, v1.2.2.2.2.2.2.2))) else (ckI v1.1 8 (ckI v1.1 8 (bd (fX6_isThere (M_x12) (M_x18) v1.1) (fun t1 => bd (if t1 = (0 : Int32) then (some (v1.2.1, v1.2.2.1, (upd v1.2.2.2.1 v1.1.toNatClampNeg (0 : Int32)), (upd v1.2.2.2.2.1 v1.1.toNatClampNeg (0 : Int32)), v1.2.2.2.2.2.1, v1.2.2.2.2.2.2.1, v1.2.2.2.2.2.2.2)) else (bd (if l1 = (4 : Int32) then some l4 else (bd (fX6_comesWhole (M_r11) (l1) (l2) (l3) v1.1) (fun t2 => some t2))) (fun t3 => bd (if t3 = (0 : Int32) then (some (0 : Int32)) else (some ((1 : Int32) <<< (v1.1 &&& 31)))) (fun t4 => bd (if t3 = (0 : Int32) then (if l1 = (4 : Int32) then (some (0 : Int32)) else (bd (fX6_its (M_r11) v1.1 (4 : Int32)) (fun t5 => some t5))) else (bd (fX6_its (M_r11) v1.1 (0 : Int32)) (fun t6 => some t6))) (fun t7 => ckI v1.1 8 (ckI v1.1 8 (bd (fX6_partsOf (M_r11) (M_r15) (l1) (l2) v1.1) (fun t8 => ckI v1.1 8 (ckI v1.1 8 (ckI v1.1 8 (ckI v1.1 8 (bd (fX6_its (M_r11) v1.1 (2 : Int32)) (fun t9 => bd (if l1 = (1 : Int32) then (bd (fX6_its (M_r11) v1.1 (3 : Int32)) (fun t10 => some (t10 * l2))) else (some (0 : Int32))) (fun t11 => ckI v1.1 8 (bd (fX6_its (M_r11) v1.1 (2 : Int32)) (fun t12 => bd (fX6_its (M_r11) v1.1 (1 : Int32)) (fun t13 => some ((v1.2.1 + (((upd (upd v1.2.2.2.2.1 v1.1.toNatClampNeg (0 : Int32)) v1.1.toNatClampNeg (((upd (upd v1.2.2.2.1 v1.1.toNatClampNeg (0 : Int32)) v1.1.toNatClampNeg t7) v1.1.toNatClampNeg) * t8)) v1.1.toNatClampNeg).toInt64 * (((10 : Int32) * t9) + t11).toInt64)), (v1.2.2.1 + (((upd (upd v1.2.2.2.2.1 v1.1.toNatClampNeg (0 : Int32)) v1.1.toNatClampNeg (((upd (upd v1.2.2.2.1 v1.1.toNatClampNeg (0 : Int32)) v1.1.toNatClampNeg t7) v1.1.toNatClampNeg) * t8)) v1.1.toNatClampNeg).toInt64 * (t12 - t13).toInt64)), (upd (upd v1.2.2.2.1 v1.1.toNatClampNeg (0 : Int32)) v1.1.toNatClampNeg t7), (upd (upd v1.2.2.2.2.1 v1.1.toNatClampNeg (0 : Int32)) v1.1.toNatClampNeg (((upd (upd v1.2.2.2.1 v1.1.toNatClampNeg (0 : Int32)) v1.1.toNatClampNeg t7) v1.1.toNatClampNeg) * t8)), (v1.2.2.2.2.2.1 ||| t4), (v1.2.2.2.2.2.2.1 + ((upd (upd v1.2.2.2.1 v1.1.toNatClampNeg (0 : Int32)) v1.1.toNatClampNeg t7) v1.1.toNatClampNeg)), (v1.2.2.2.2.2.2.2 + ((upd (upd v1.2.2.2.2.1 v1.1.toNatClampNeg (0 : Int32)) v1.1.toNatClampNeg (((upd (upd v1.2.2.2.1 v1.1.toNatClampNeg (0 : Int32)) v1.1.toNatClampNeg t7) v1.1.toNatClampNeg) * t8)) v1.1.toNatClampNeg)))))))))))))))))))) (fun t14 => some (.inl ((v1.1 + (1 : Int32)), t14.1, t14.2.1, t14.2.2.1, t14.2.2.2.1, t14.2.2.2.2.1, t14.2.2.2.2.2.1, t14.2.2.2.2.2.2)))))))
def fX6_layOffer (M_r11 : (Nat → Int32)) (M_r15 : (Nat → Int32)) (M_r21 : (Nat → Int32)) (M_r22 : (Nat → Int32)) (M_x12 : Int32) (M_x18 : Int32) (a1 : Int32) (a2 : Int32) (a3 : Int32) : Option (Int64 × Int64 × Int64 × (Nat → Int32) × (Nat → Int32) × Int32 × Int32 × Int32) :=
  bd (if a1 = (4 : Int32) then (bd (fX6_isHeap (M_r11) (M_x12) (M_x18) a3) (fun t2 => if t2 = (0 : Int32) then (some (0 : Int32)) else (some (1 : Int32)))) else (some (0 : Int32))) (fun t5 => bd (loopF (fX6_layOffer_b48 a1 a2 a3 t5 M_x12 M_x18 M_r11 M_r15) 1000 ((0 : Int32), (0 : Int64), (0 : Int64), M_r21, M_r22, (0 : Int32), (0 : Int32), (0 : Int32))) (fun T6 => bd (if a1 = (2 : Int32) then (some (((800 : Int64) * (M_r15 (2 : Int32).toNatClampNeg).toInt64) * T6.2.2.2.2.2.1.toInt64)) else (some (0 : Int64))) (fun t38 => some ((T6.1 - ((10 : Int64) * t38)), ((10 : Int64) * T6.2.2.2.2.2.2.toInt64), (T6.2.1 - t38), T6.2.2.1, T6.2.2.2.1, T6.2.2.2.2.1, T6.2.2.2.2.2.1, T6.2.2.2.2.2.2))))
set_option maxRecDepth 100000 in
set_option maxHeartbeats 4000000 in
theorem kX6_layOffer (l : Launch) (D : va_G) (cI cB cS : ClassId) (uM : Nat) (aM : Nat → Nat) (M_x1 : Int32) (M_x2 : Int32) (M_x3 : Int32) (M_x4 : Int32) (M_x5 : Int32) (M_x6 : Int32) (M_x7 : Int32) (M_x8 : Int32) (M_x12 : Int32) (M_x14 : Int32) (M_x17 : Int32) (M_x18 : Int32) (M_x19 : Int32) (M_x20 : Int32) (M_x23 : Int32) (M_x27 : Int32) (M_x29 : Int32) (M_x33 : Int32) (M_g24 : Int64) (M_g25 : Int64) (M_g26 : Int64) (M_g28 : Int64) (M_r0 : (Nat → Int32)) (M_r9 : (Nat → Int32)) (M_r10 : (Nat → Int32)) (M_r11 : (Nat → Int32)) (M_r13 : (Nat → Int32)) (M_r15 : (Nat → Int32)) (M_r16 : (Nat → Int32)) (M_r21 : (Nat → Int32)) (M_r22 : (Nat → Int32)) (M_r30 : (Nat → Int32)) (M_r31 : (Nat → Int32)) (M_r32 : (Nat → Int32)) (a1 : Int32) (a2 : Int32) (a3 : Int32) (z : (Int64 × Int64 × Int64 × (Nat → Int32) × (Nat → Int32) × Int32 × Int32 × Int32)) (h : fX6_layOffer M_r11 M_r15 M_r21 M_r22 M_x12 M_x18 a1 a2 a3 = some z) : Mt l yX6_layOffer cX6_layOffer 7 none 3 66 D cI cB cS (mW cI uM aM M_x1 M_x2 M_x3 M_x4 M_x5 M_x6 M_x7 M_x8 M_x12 M_x14 M_x17 M_x18 M_x19 M_x20 M_x23 M_x27 M_x29 M_x33 M_g24 M_g25 M_g26 M_g28 M_r0 M_r9 M_r10 M_r11 M_r13 M_r15 M_r16 M_r21 M_r22 M_r30 M_r31 M_r32) (mW cI uM aM M_x1 M_x2 M_x3 M_x4 M_x5 M_x6 M_x7 M_x8 M_x12 M_x14 M_x17 M_x18 z.2.2.2.2.2.1 z.2.2.2.2.2.2.1 z.2.2.2.2.2.2.2 M_x27 M_x29 M_x33 z.1 z.2.1 z.2.2.1 M_g28 M_r0 M_r9 M_r10 M_r11 M_r13 M_r15 M_r16 z.2.2.2.1 z.2.2.2.2.1 M_r30 M_r31 M_r32) [.ref uM, .int a1, .int a2, .int a3] none := by
  refine entryV (by decide +kernel) rfl (Nat.le_of_ble_eq_true rfl) ?_
  intro p e s m below meth c A ls QQ R ar F hRet jP jD jS jl
  obtain ⟨hx, hb, hml, hown, hts, jK, hA, hf1, hf2⟩ := id F
  have jl : lv_has ls 7 [(0, .ref uM), (1, .int a1), (2, .int a2), (3, .int a3)] := jl
  unfold fX6_layOffer at h
  refine lv_iload_n hx hb dX6_layOffer_0 rfl (lv_at jl 1 rfl) ?_
  refine lv_iconst (v := (4 : Int32)) hx hb dX6_layOffer_1 (by decide) ?_
  obtain ⟨t5, hvt5, h⟩ := bd_some h
  have hJt5 : ∀ (H : Heap) (locs : List Loc) (ls : Array Slot), va_P D vwCl (mW cI uM aM M_x1 M_x2 M_x3 M_x4 M_x5 M_x6 M_x7 M_x8 M_x12 M_x14 M_x17 M_x18 M_x19 M_x20 M_x23 M_x27 M_x29 M_x33 M_g24 M_g25 M_g26 M_g28 M_r0 M_r9 M_r10 M_r11 M_r13 M_r15 M_r16 M_r21 M_r22 M_r30 M_r31 M_r32) H → va_D A (mW cI uM aM M_x1 M_x2 M_x3 M_x4 M_x5 M_x6 M_x7 M_x8 M_x12 M_x14 M_x17 M_x18 M_x19 M_x20 M_x23 M_x27 M_x29 M_x33 M_g24 M_g25 M_g26 M_g28 M_r0 M_r9 M_r10 M_r11 M_r13 M_r15 M_r16 M_r21 M_r22 M_r30 M_r31 M_r32) → va_S A s.heap H locs → lv_has ls 7 [(0, .ref uM), (1, .int a1), (2, .int a2), (3, .int a3)] → W p l e R s m ar below meth c H locs 0 0 QQ (F0 m 18 ls [.int t5]) := by
    clear jP jD jS jl
    intro H locs ls jP jD jS jl
    refine lv_istore (lv' := [(4, .int t5), (0, .ref uM), (1, .int a1), (2, .int a2), (3, .int a3)]) hx hb dX6_layOffer_18 jl (by decide) rfl (fun ls jl => ?_)
    refine lv_aload_n hx hb dX6_layOffer_20 rfl (lv_at jl 1 rfl) ?_
    refine lv_iconst (v := (0 : Int32)) hx hb dX6_layOffer_21 (by decide) ?_
    refine va_put (D := D) (ci := 6) (v := .int (0 : Int32)) (ty := .int) (C := RX6) (T := TX6) (N := 34) hx hb hts in6 tyX6 tyX6_ok nmX6 hown jK.1 jP jD jS 0 rfl rfl 19 (by decide) (hts _ w_414) (fun _ h9 => h9) rfl (by decide +kernel) rfl rfl (Nat.le_of_ble_eq_true rfl) dX6_layOffer_22 (fun H locs jP jD jS => ?_)
    have jP : va_P D vwCl (mW cI uM aM M_x1 M_x2 M_x3 M_x4 M_x5 M_x6 M_x7 M_x8 M_x12 M_x14 M_x17 M_x18 (0 : Int32) M_x20 M_x23 M_x27 M_x29 M_x33 M_g24 M_g25 M_g26 M_g28 M_r0 M_r9 M_r10 M_r11 M_r13 M_r15 M_r16 M_r21 M_r22 M_r30 M_r31 M_r32) H := jP
    have jD : va_D A (mW cI uM aM M_x1 M_x2 M_x3 M_x4 M_x5 M_x6 M_x7 M_x8 M_x12 M_x14 M_x17 M_x18 (0 : Int32) M_x20 M_x23 M_x27 M_x29 M_x33 M_g24 M_g25 M_g26 M_g28 M_r0 M_r9 M_r10 M_r11 M_r13 M_r15 M_r16 M_r21 M_r22 M_r30 M_r31 M_r32) := jD
    refine lv_aload_n hx hb dX6_layOffer_25 rfl (lv_at jl 1 rfl) ?_
    refine lv_iconst (v := (0 : Int32)) hx hb dX6_layOffer_26 (by decide) ?_
    refine va_put (D := D) (ci := 6) (v := .int (0 : Int32)) (ty := .int) (C := RX6) (T := TX6) (N := 34) hx hb hts in6 tyX6 tyX6_ok nmX6 hown jK.1 jP jD jS 0 rfl rfl 20 (by decide) (hts _ w_415) (fun _ h9 => h9) rfl (by decide +kernel) rfl rfl (Nat.le_of_ble_eq_true rfl) dX6_layOffer_27 (fun H locs jP jD jS => ?_)
    have jP : va_P D vwCl (mW cI uM aM M_x1 M_x2 M_x3 M_x4 M_x5 M_x6 M_x7 M_x8 M_x12 M_x14 M_x17 M_x18 (0 : Int32) (0 : Int32) M_x23 M_x27 M_x29 M_x33 M_g24 M_g25 M_g26 M_g28 M_r0 M_r9 M_r10 M_r11 M_r13 M_r15 M_r16 M_r21 M_r22 M_r30 M_r31 M_r32) H := jP
    have jD : va_D A (mW cI uM aM M_x1 M_x2 M_x3 M_x4 M_x5 M_x6 M_x7 M_x8 M_x12 M_x14 M_x17 M_x18 (0 : Int32) (0 : Int32) M_x23 M_x27 M_x29 M_x33 M_g24 M_g25 M_g26 M_g28 M_r0 M_r9 M_r10 M_r11 M_r13 M_r15 M_r16 M_r21 M_r22 M_r30 M_r31 M_r32) := jD
    refine lv_aload_n hx hb dX6_layOffer_30 rfl (lv_at jl 1 rfl) ?_
    refine lv_iconst (v := (0 : Int32)) hx hb dX6_layOffer_31 (by decide) ?_
    refine va_put (D := D) (ci := 6) (v := .int (0 : Int32)) (ty := .int) (C := RX6) (T := TX6) (N := 34) hx hb hts in6 tyX6 tyX6_ok nmX6 hown jK.1 jP jD jS 0 rfl rfl 23 (by decide) (hts _ w_416) (fun _ h9 => h9) rfl (by decide +kernel) rfl rfl (Nat.le_of_ble_eq_true rfl) dX6_layOffer_32 (fun H locs jP jD jS => ?_)
    have jP : va_P D vwCl (mW cI uM aM M_x1 M_x2 M_x3 M_x4 M_x5 M_x6 M_x7 M_x8 M_x12 M_x14 M_x17 M_x18 (0 : Int32) (0 : Int32) (0 : Int32) M_x27 M_x29 M_x33 M_g24 M_g25 M_g26 M_g28 M_r0 M_r9 M_r10 M_r11 M_r13 M_r15 M_r16 M_r21 M_r22 M_r30 M_r31 M_r32) H := jP
    have jD : va_D A (mW cI uM aM M_x1 M_x2 M_x3 M_x4 M_x5 M_x6 M_x7 M_x8 M_x12 M_x14 M_x17 M_x18 (0 : Int32) (0 : Int32) (0 : Int32) M_x27 M_x29 M_x33 M_g24 M_g25 M_g26 M_g28 M_r0 M_r9 M_r10 M_r11 M_r13 M_r15 M_r16 M_r21 M_r22 M_r30 M_r31 M_r32) := jD
    refine lv_aload_n hx hb dX6_layOffer_35 rfl (lv_at jl 1 rfl) ?_
    refine lv_lconst (v := (0 : Int64)) hx hb dX6_layOffer_36 (by decide) ?_
    refine va_put (D := D) (ci := 6) (v := .long (0 : Int64)) (ty := .long) (C := RX6) (T := TX6) (N := 34) hx hb hts in6 tyX6 tyX6_ok nmX6 hown jK.1 jP jD jS 0 rfl rfl 24 (by decide) (hts _ w_427) (fun _ h9 => h9) rfl (by decide +kernel) rfl rfl (Nat.le_of_ble_eq_true rfl) dX6_layOffer_37 (fun H locs jP jD jS => ?_)
    have jP : va_P D vwCl (mW cI uM aM M_x1 M_x2 M_x3 M_x4 M_x5 M_x6 M_x7 M_x8 M_x12 M_x14 M_x17 M_x18 (0 : Int32) (0 : Int32) (0 : Int32) M_x27 M_x29 M_x33 (0 : Int64) M_g25 M_g26 M_g28 M_r0 M_r9 M_r10 M_r11 M_r13 M_r15 M_r16 M_r21 M_r22 M_r30 M_r31 M_r32) H := jP
    have jD : va_D A (mW cI uM aM M_x1 M_x2 M_x3 M_x4 M_x5 M_x6 M_x7 M_x8 M_x12 M_x14 M_x17 M_x18 (0 : Int32) (0 : Int32) (0 : Int32) M_x27 M_x29 M_x33 (0 : Int64) M_g25 M_g26 M_g28 M_r0 M_r9 M_r10 M_r11 M_r13 M_r15 M_r16 M_r21 M_r22 M_r30 M_r31 M_r32) := jD
    refine lv_aload_n hx hb dX6_layOffer_40 rfl (lv_at jl 1 rfl) ?_
    refine lv_lconst (v := (0 : Int64)) hx hb dX6_layOffer_41 (by decide) ?_
    refine va_put (D := D) (ci := 6) (v := .long (0 : Int64)) (ty := .long) (C := RX6) (T := TX6) (N := 34) hx hb hts in6 tyX6 tyX6_ok nmX6 hown jK.1 jP jD jS 0 rfl rfl 26 (by decide) (hts _ w_428) (fun _ h9 => h9) rfl (by decide +kernel) rfl rfl (Nat.le_of_ble_eq_true rfl) dX6_layOffer_42 (fun H locs jP jD jS => ?_)
    have jP : va_P D vwCl (mW cI uM aM M_x1 M_x2 M_x3 M_x4 M_x5 M_x6 M_x7 M_x8 M_x12 M_x14 M_x17 M_x18 (0 : Int32) (0 : Int32) (0 : Int32) M_x27 M_x29 M_x33 (0 : Int64) M_g25 (0 : Int64) M_g28 M_r0 M_r9 M_r10 M_r11 M_r13 M_r15 M_r16 M_r21 M_r22 M_r30 M_r31 M_r32) H := jP
    have jD : va_D A (mW cI uM aM M_x1 M_x2 M_x3 M_x4 M_x5 M_x6 M_x7 M_x8 M_x12 M_x14 M_x17 M_x18 (0 : Int32) (0 : Int32) (0 : Int32) M_x27 M_x29 M_x33 (0 : Int64) M_g25 (0 : Int64) M_g28 M_r0 M_r9 M_r10 M_r11 M_r13 M_r15 M_r16 M_r21 M_r22 M_r30 M_r31 M_r32) := jD
    refine lv_iconst (v := (0 : Int32)) hx hb dX6_layOffer_45 (by decide) ?_
    refine lv_istore (lv' := [(5, .int (0 : Int32)), (4, .int t5), (0, .ref uM), (1, .int a1), (2, .int a2), (3, .int a3)]) hx hb dX6_layOffer_46 jl (by decide) rfl (fun ls jl => ?_)
    obtain ⟨T6, hT6, hz6⟩ := bd_some h
    clear h
    have hE6 : ∀ (H : Heap) (locs : List Loc) (ls : Array Slot), va_P D vwCl (mW cI uM aM M_x1 M_x2 M_x3 M_x4 M_x5 M_x6 M_x7 M_x8 M_x12 M_x14 M_x17 M_x18 T6.2.2.2.2.1 T6.2.2.2.2.2.1 T6.2.2.2.2.2.2 M_x27 M_x29 M_x33 T6.1 M_g25 T6.2.1 M_g28 M_r0 M_r9 M_r10 M_r11 M_r13 M_r15 M_r16 T6.2.2.1 T6.2.2.2.1 M_r30 M_r31 M_r32) H → va_D A (mW cI uM aM M_x1 M_x2 M_x3 M_x4 M_x5 M_x6 M_x7 M_x8 M_x12 M_x14 M_x17 M_x18 T6.2.2.2.2.1 T6.2.2.2.2.2.1 T6.2.2.2.2.2.2 M_x27 M_x29 M_x33 T6.1 M_g25 T6.2.1 M_g28 M_r0 M_r9 M_r10 M_r11 M_r13 M_r15 M_r16 T6.2.2.1 T6.2.2.2.1 M_r30 M_r31 M_r32) → va_S A s.heap H locs → lv_has ls 7 [(0, .ref uM), (1, .int a1)] → W p l e R s m ar below meth c H locs 0 0 QQ (F0 m 304 ls []) := by
      clear jP jD jS jl
      intro H locs ls jP jD jS jl
      refine lv_iload_n hx hb dX6_layOffer_304 rfl (lv_at jl 1 rfl) ?_
      refine lv_iconst (v := (2 : Int32)) hx hb dX6_layOffer_305 (by decide) ?_
      obtain ⟨t38, hvt38, hz6⟩ := bd_some hz6
      have hJt38 : ∀ (H : Heap) (locs : List Loc) (ls : Array Slot), va_P D vwCl (mW cI uM aM M_x1 M_x2 M_x3 M_x4 M_x5 M_x6 M_x7 M_x8 M_x12 M_x14 M_x17 M_x18 T6.2.2.2.2.1 T6.2.2.2.2.2.1 T6.2.2.2.2.2.2 M_x27 M_x29 M_x33 T6.1 M_g25 T6.2.1 M_g28 M_r0 M_r9 M_r10 M_r11 M_r13 M_r15 M_r16 T6.2.2.1 T6.2.2.2.1 M_r30 M_r31 M_r32) H → va_D A (mW cI uM aM M_x1 M_x2 M_x3 M_x4 M_x5 M_x6 M_x7 M_x8 M_x12 M_x14 M_x17 M_x18 T6.2.2.2.2.1 T6.2.2.2.2.2.1 T6.2.2.2.2.2.2 M_x27 M_x29 M_x33 T6.1 M_g25 T6.2.1 M_g28 M_r0 M_r9 M_r10 M_r11 M_r13 M_r15 M_r16 T6.2.2.1 T6.2.2.2.1 M_r30 M_r31 M_r32) → va_S A s.heap H locs → lv_has ls 7 [(0, .ref uM)] → W p l e R s m ar below meth c H locs 0 0 QQ (F0 m 330 ls [.long t38]) := by
        clear jP jD jS jl
        intro H locs ls jP jD jS jl
        refine lv_lstore (lv' := [(5, .long t38), (0, .ref uM)]) hx hb dX6_layOffer_330 jl (by decide) rfl (fun ls jl => ?_)
        refine lv_aload_n hx hb dX6_layOffer_332 rfl (lv_at jl 1 rfl) ?_
        refine lv_dup hx hb dX6_layOffer_333 rfl ?_
        refine va_get (D := D) (ci := 6) (v := .long T6.1) (C := RX6) (T := TX6) (N := 34) hx hb hts in6 hown jK.1 jP 0 rfl rfl 24 (by decide) (hts _ w_427) (fun _ h9 => h9) rfl dX6_layOffer_334 ?_
        refine lv_ldc2 (v := (10 : Int64)) hx hb hown (hts _ w_290) dX6_layOffer_337 ?_
        refine lv_lload hx hb dX6_layOffer_340 (lv_at jl 0 rfl) ?_
        refine lv_lmul hx hb dX6_layOffer_342 ?_
        refine lv_lsub hx hb dX6_layOffer_343 ?_
        refine va_put (D := D) (ci := 6) (v := .long (T6.1 - ((10 : Int64) * t38))) (ty := .long) (C := RX6) (T := TX6) (N := 34) hx hb hts in6 tyX6 tyX6_ok nmX6 hown jK.1 jP jD jS 0 rfl rfl 24 (by decide) (hts _ w_427) (fun _ h9 => h9) rfl (by decide +kernel) rfl rfl (Nat.le_of_ble_eq_true rfl) dX6_layOffer_344 (fun H locs jP jD jS => ?_)
        have jP : va_P D vwCl (mW cI uM aM M_x1 M_x2 M_x3 M_x4 M_x5 M_x6 M_x7 M_x8 M_x12 M_x14 M_x17 M_x18 T6.2.2.2.2.1 T6.2.2.2.2.2.1 T6.2.2.2.2.2.2 M_x27 M_x29 M_x33 (T6.1 - ((10 : Int64) * t38)) M_g25 T6.2.1 M_g28 M_r0 M_r9 M_r10 M_r11 M_r13 M_r15 M_r16 T6.2.2.1 T6.2.2.2.1 M_r30 M_r31 M_r32) H := jP
        have jD : va_D A (mW cI uM aM M_x1 M_x2 M_x3 M_x4 M_x5 M_x6 M_x7 M_x8 M_x12 M_x14 M_x17 M_x18 T6.2.2.2.2.1 T6.2.2.2.2.2.1 T6.2.2.2.2.2.2 M_x27 M_x29 M_x33 (T6.1 - ((10 : Int64) * t38)) M_g25 T6.2.1 M_g28 M_r0 M_r9 M_r10 M_r11 M_r13 M_r15 M_r16 T6.2.2.1 T6.2.2.2.1 M_r30 M_r31 M_r32) := jD
        refine lv_aload_n hx hb dX6_layOffer_347 rfl (lv_at jl 1 rfl) ?_
        refine lv_ldc2 (v := (10 : Int64)) hx hb hown (hts _ w_290) dX6_layOffer_348 ?_
        refine lv_aload_n hx hb dX6_layOffer_351 rfl (lv_at jl 1 rfl) ?_
        refine va_get (D := D) (ci := 6) (v := .int T6.2.2.2.2.2.2) (C := RX6) (T := TX6) (N := 34) hx hb hts in6 hown jK.1 jP 0 rfl rfl 23 (by decide) (hts _ w_416) (fun _ h9 => h9) rfl dX6_layOffer_352 ?_
        refine lv_i2l (v := T6.2.2.2.2.2.2.toInt64) hx hb dX6_layOffer_355 rfl ?_
        refine lv_lmul hx hb dX6_layOffer_356 ?_
        refine va_put (D := D) (ci := 6) (v := .long ((10 : Int64) * T6.2.2.2.2.2.2.toInt64)) (ty := .long) (C := RX6) (T := TX6) (N := 34) hx hb hts in6 tyX6 tyX6_ok nmX6 hown jK.1 jP jD jS 0 rfl rfl 25 (by decide) (hts _ w_430) (fun _ h9 => h9) rfl (by decide +kernel) rfl rfl (Nat.le_of_ble_eq_true rfl) dX6_layOffer_357 (fun H locs jP jD jS => ?_)
        have jP : va_P D vwCl (mW cI uM aM M_x1 M_x2 M_x3 M_x4 M_x5 M_x6 M_x7 M_x8 M_x12 M_x14 M_x17 M_x18 T6.2.2.2.2.1 T6.2.2.2.2.2.1 T6.2.2.2.2.2.2 M_x27 M_x29 M_x33 (T6.1 - ((10 : Int64) * t38)) ((10 : Int64) * T6.2.2.2.2.2.2.toInt64) T6.2.1 M_g28 M_r0 M_r9 M_r10 M_r11 M_r13 M_r15 M_r16 T6.2.2.1 T6.2.2.2.1 M_r30 M_r31 M_r32) H := jP
        have jD : va_D A (mW cI uM aM M_x1 M_x2 M_x3 M_x4 M_x5 M_x6 M_x7 M_x8 M_x12 M_x14 M_x17 M_x18 T6.2.2.2.2.1 T6.2.2.2.2.2.1 T6.2.2.2.2.2.2 M_x27 M_x29 M_x33 (T6.1 - ((10 : Int64) * t38)) ((10 : Int64) * T6.2.2.2.2.2.2.toInt64) T6.2.1 M_g28 M_r0 M_r9 M_r10 M_r11 M_r13 M_r15 M_r16 T6.2.2.1 T6.2.2.2.1 M_r30 M_r31 M_r32) := jD
        refine lv_aload_n hx hb dX6_layOffer_360 rfl (lv_at jl 1 rfl) ?_
        refine lv_dup hx hb dX6_layOffer_361 rfl ?_
        refine va_get (D := D) (ci := 6) (v := .long T6.2.1) (C := RX6) (T := TX6) (N := 34) hx hb hts in6 hown jK.1 jP 0 rfl rfl 26 (by decide) (hts _ w_428) (fun _ h9 => h9) rfl dX6_layOffer_362 ?_
        refine lv_lload hx hb dX6_layOffer_365 (lv_at jl 0 rfl) ?_
        refine lv_lsub hx hb dX6_layOffer_367 ?_
        refine va_put (D := D) (ci := 6) (v := .long (T6.2.1 - t38)) (ty := .long) (C := RX6) (T := TX6) (N := 34) hx hb hts in6 tyX6 tyX6_ok nmX6 hown jK.1 jP jD jS 0 rfl rfl 26 (by decide) (hts _ w_428) (fun _ h9 => h9) rfl (by decide +kernel) rfl rfl (Nat.le_of_ble_eq_true rfl) dX6_layOffer_368 (fun H locs jP jD jS => ?_)
        have jP : va_P D vwCl (mW cI uM aM M_x1 M_x2 M_x3 M_x4 M_x5 M_x6 M_x7 M_x8 M_x12 M_x14 M_x17 M_x18 T6.2.2.2.2.1 T6.2.2.2.2.2.1 T6.2.2.2.2.2.2 M_x27 M_x29 M_x33 (T6.1 - ((10 : Int64) * t38)) ((10 : Int64) * T6.2.2.2.2.2.2.toInt64) (T6.2.1 - t38) M_g28 M_r0 M_r9 M_r10 M_r11 M_r13 M_r15 M_r16 T6.2.2.1 T6.2.2.2.1 M_r30 M_r31 M_r32) H := jP
        have jD : va_D A (mW cI uM aM M_x1 M_x2 M_x3 M_x4 M_x5 M_x6 M_x7 M_x8 M_x12 M_x14 M_x17 M_x18 T6.2.2.2.2.1 T6.2.2.2.2.2.1 T6.2.2.2.2.2.2 M_x27 M_x29 M_x33 (T6.1 - ((10 : Int64) * t38)) ((10 : Int64) * T6.2.2.2.2.2.2.toInt64) (T6.2.1 - t38) M_g28 M_r0 M_r9 M_r10 M_r11 M_r13 M_r15 M_r16 T6.2.2.1 T6.2.2.2.1 M_r30 M_r31 M_r32) := jD
        obtain rfl := Option.some.inj hz6
        exact hRet _ _ _ _ jP jD jS dX6_layOffer_371
      clear hz6
      refine lv_icmp_ne (tgt := 329) hx hb dX6_layOffer_306 (by decide) (fun c37 => ?_) (fun c37 => ?_)
      · have hvt38 := itn c37 hvt38
        refine lv_lconst (v := (0 : Int64)) hx hb dX6_layOffer_329 (by decide) ?_
        obtain rfl := Option.some.inj hvt38
        exact hJt38 _ _ _ jP jD jS (lv_sub jl [0] rfl)
      · have hvt38 := itp c37 hvt38
        refine lv_ldc2 (v := (800 : Int64)) hx hb hown (hts _ w_429) dX6_layOffer_309 ?_
        refine lv_aload_n hx hb dX6_layOffer_312 rfl (lv_at jl 0 rfl) ?_
        refine va_get (D := D) (ci := 6) (v := .ref (aM 15)) (C := RX6) (T := TX6) (N := 34) hx hb hts in6 hown jK.1 jP 0 rfl rfl 15 (by decide) (hts _ w_82) (fun _ h9 => h9) rfl dX6_layOffer_313 ?_
        refine lv_iconst (v := (2 : Int32)) hx hb dX6_layOffer_316 (by decide) ?_
        refine va_iald (f := M_r15) hx hb jK.1 jP 6 0 rfl rfl (by unfold vp_in; decide) dX6_layOffer_317 ?_
        refine lv_i2l (v := (M_r15 (2 : Int32).toNatClampNeg).toInt64) hx hb dX6_layOffer_318 rfl ?_
        refine lv_lmul hx hb dX6_layOffer_319 ?_
        refine lv_aload_n hx hb dX6_layOffer_320 rfl (lv_at jl 0 rfl) ?_
        refine va_get (D := D) (ci := 6) (v := .int T6.2.2.2.2.2.1) (C := RX6) (T := TX6) (N := 34) hx hb hts in6 hown jK.1 jP 0 rfl rfl 20 (by decide) (hts _ w_415) (fun _ h9 => h9) rfl dX6_layOffer_321 ?_
        refine lv_i2l (v := T6.2.2.2.2.2.1.toInt64) hx hb dX6_layOffer_324 rfl ?_
        refine lv_lmul hx hb dX6_layOffer_325 ?_
        refine lv_goto (tgt := 330) hx hb dX6_layOffer_326 (by decide) ?_
        obtain rfl := Option.some.inj hvt38
        exact hJt38 _ _ _ jP jD jS (lv_sub jl [0] rfl)
    have hL6 : ∀ (n : Nat) (v6 : (Int32 × Int64 × Int64 × (Nat → Int32) × (Nat → Int32) × Int32 × Int32 × Int32)), loopF (fX6_layOffer_b48 a1 a2 a3 t5 M_x12 M_x18 M_r11 M_r15) n v6 = some T6 → ∀ (H : Heap) (locs : List Loc) (ls : Array Slot), va_P D vwCl (mW cI uM aM M_x1 M_x2 M_x3 M_x4 M_x5 M_x6 M_x7 M_x8 M_x12 M_x14 M_x17 M_x18 v6.2.2.2.2.2.1 v6.2.2.2.2.2.2.1 v6.2.2.2.2.2.2.2 M_x27 M_x29 M_x33 v6.2.1 M_g25 v6.2.2.1 M_g28 M_r0 M_r9 M_r10 M_r11 M_r13 M_r15 M_r16 v6.2.2.2.1 v6.2.2.2.2.1 M_r30 M_r31 M_r32) H → va_D A (mW cI uM aM M_x1 M_x2 M_x3 M_x4 M_x5 M_x6 M_x7 M_x8 M_x12 M_x14 M_x17 M_x18 v6.2.2.2.2.2.1 v6.2.2.2.2.2.2.1 v6.2.2.2.2.2.2.2 M_x27 M_x29 M_x33 v6.2.1 M_g25 v6.2.2.1 M_g28 M_r0 M_r9 M_r10 M_r11 M_r13 M_r15 M_r16 v6.2.2.2.1 v6.2.2.2.2.1 M_r30 M_r31 M_r32) → va_S A s.heap H locs → lv_has ls 7 [(0, .ref uM), (1, .int a1), (2, .int a2), (3, .int a3), (4, .int t5), (5, .int v6.1)] → W p l e R s m ar below meth c H locs 0 0 QQ (F0 m 48 ls []) := by
      clear jP jD jS jl hT6
      intro n
      induction n with
      | zero => intro v6 hq; exact (loop_none hq).elim
      | succ n ih =>
        intro v6 hq H locs ls jP jD jS jl
        obtain ⟨o6, hv6, hq6⟩ := loop_some hq
        clear hq
        unfold fX6_layOffer_b48 at hv6
        refine lv_iload hx hb dX6_layOffer_48 (lv_at jl 5 rfl) ?_
        refine lv_bipush (v := (8 : Int32)) hx hb dX6_layOffer_50 (by decide) ?_
        refine lv_icmp_ge (tgt := 304) hx hb dX6_layOffer_52 (by decide) (fun c7 => ?_) (fun c7 => ?_)
        · have hv6 := itp c7 hv6
          obtain rfl := Option.some.inj hv6
          obtain rfl := nxt_r hq6
          exact hE6 _ _ _ jP jD jS (lv_sub jl [0, 1] rfl)
        · have hv6 := itn c7 hv6
          refine lv_aload_n hx hb dX6_layOffer_55 rfl (lv_at jl 0 rfl) ?_
          refine va_get (D := D) (ci := 6) (v := .ref (aM 21)) (C := RX6) (T := TX6) (N := 34) hx hb hts in6 hown jK.1 jP 0 rfl rfl 21 (by decide) (hts _ w_85) (fun _ h9 => h9) rfl dX6_layOffer_56 ?_
          refine lv_iload hx hb dX6_layOffer_59 (lv_at jl 5 rfl) ?_
          refine lv_iconst (v := (0 : Int32)) hx hb dX6_layOffer_61 (by decide) ?_
          obtain ⟨hin, hv6⟩ := ckI_some hv6
          refine va_iast (f := v6.2.2.2.1) hx hb jK.1 jP jD jS 8 0 rfl rfl hin dX6_layOffer_62 (fun H locs jP jD jS => ?_)
          have jP : va_P D vwCl (mW cI uM aM M_x1 M_x2 M_x3 M_x4 M_x5 M_x6 M_x7 M_x8 M_x12 M_x14 M_x17 M_x18 v6.2.2.2.2.2.1 v6.2.2.2.2.2.2.1 v6.2.2.2.2.2.2.2 M_x27 M_x29 M_x33 v6.2.1 M_g25 v6.2.2.1 M_g28 M_r0 M_r9 M_r10 M_r11 M_r13 M_r15 M_r16 (upd v6.2.2.2.1 v6.1.toNatClampNeg (0 : Int32)) v6.2.2.2.2.1 M_r30 M_r31 M_r32) H := jP
          have jD : va_D A (mW cI uM aM M_x1 M_x2 M_x3 M_x4 M_x5 M_x6 M_x7 M_x8 M_x12 M_x14 M_x17 M_x18 v6.2.2.2.2.2.1 v6.2.2.2.2.2.2.1 v6.2.2.2.2.2.2.2 M_x27 M_x29 M_x33 v6.2.1 M_g25 v6.2.2.1 M_g28 M_r0 M_r9 M_r10 M_r11 M_r13 M_r15 M_r16 (upd v6.2.2.2.1 v6.1.toNatClampNeg (0 : Int32)) v6.2.2.2.2.1 M_r30 M_r31 M_r32) := jD
          refine lv_aload_n hx hb dX6_layOffer_63 rfl (lv_at jl 0 rfl) ?_
          refine va_get (D := D) (ci := 6) (v := .ref (aM 22)) (C := RX6) (T := TX6) (N := 34) hx hb hts in6 hown jK.1 jP 0 rfl rfl 22 (by decide) (hts _ w_86) (fun _ h9 => h9) rfl dX6_layOffer_64 ?_
          refine lv_iload hx hb dX6_layOffer_67 (lv_at jl 5 rfl) ?_
          refine lv_iconst (v := (0 : Int32)) hx hb dX6_layOffer_69 (by decide) ?_
          obtain ⟨hin, hv6⟩ := ckI_some hv6
          refine va_iast (f := v6.2.2.2.2.1) hx hb jK.1 jP jD jS 9 0 rfl rfl hin dX6_layOffer_70 (fun H locs jP jD jS => ?_)
          have jP : va_P D vwCl (mW cI uM aM M_x1 M_x2 M_x3 M_x4 M_x5 M_x6 M_x7 M_x8 M_x12 M_x14 M_x17 M_x18 v6.2.2.2.2.2.1 v6.2.2.2.2.2.2.1 v6.2.2.2.2.2.2.2 M_x27 M_x29 M_x33 v6.2.1 M_g25 v6.2.2.1 M_g28 M_r0 M_r9 M_r10 M_r11 M_r13 M_r15 M_r16 (upd v6.2.2.2.1 v6.1.toNatClampNeg (0 : Int32)) (upd v6.2.2.2.2.1 v6.1.toNatClampNeg (0 : Int32)) M_r30 M_r31 M_r32) H := jP
          have jD : va_D A (mW cI uM aM M_x1 M_x2 M_x3 M_x4 M_x5 M_x6 M_x7 M_x8 M_x12 M_x14 M_x17 M_x18 v6.2.2.2.2.2.1 v6.2.2.2.2.2.2.1 v6.2.2.2.2.2.2.2 M_x27 M_x29 M_x33 v6.2.1 M_g25 v6.2.2.1 M_g28 M_r0 M_r9 M_r10 M_r11 M_r13 M_r15 M_r16 (upd v6.2.2.2.1 v6.1.toNatClampNeg (0 : Int32)) (upd v6.2.2.2.2.1 v6.1.toNatClampNeg (0 : Int32)) M_r30 M_r31 M_r32) := jD
          refine lv_aload_n hx hb dX6_layOffer_71 rfl (lv_at jl 0 rfl) ?_
          refine lv_iload hx hb dX6_layOffer_72 (lv_at jl 5 rfl) ?_
          obtain ⟨t8, hc9, hv6⟩ := bd_some hv6
          refine callW (w1 := (mW cI uM aM M_x1 M_x2 M_x3 M_x4 M_x5 M_x6 M_x7 M_x8 M_x12 M_x14 M_x17 M_x18 v6.2.2.2.2.2.1 v6.2.2.2.2.2.2.1 v6.2.2.2.2.2.2.2 M_x27 M_x29 M_x33 v6.2.1 M_g25 v6.2.2.1 M_g28 M_r0 M_r9 M_r10 M_r11 M_r13 M_r15 M_r16 (upd v6.2.2.2.1 v6.1.toNatClampNeg (0 : Int32)) (upd v6.2.2.2.2.1 v6.1.toNatClampNeg (0 : Int32)) M_r30 M_r31 M_r32)) (As := [.int v6.1]) (rest := []) (st1 := [.int t8]) 0 F (kX6_isThere l D cI cB cS uM aM M_x1 M_x2 M_x3 M_x4 M_x5 M_x6 M_x7 M_x8 M_x12 M_x14 M_x17 M_x18 v6.2.2.2.2.2.1 v6.2.2.2.2.2.2.1 v6.2.2.2.2.2.2.2 M_x27 M_x29 M_x33 v6.2.1 M_g25 v6.2.2.1 M_g28 M_r0 M_r9 M_r10 M_r11 M_r13 M_r15 M_r16 (upd v6.2.2.2.1 v6.1.toNatClampNeg (0 : Int32)) (upd v6.2.2.2.2.1 v6.1.toNatClampNeg (0 : Int32)) M_r30 M_r31 M_r32 v6.1 _ hc9 ) okX6_isThere w_435 (by decide) (by decide) ⟨Nat.zero_le _, Nat.zero_le _⟩ rfl rfl rfl jP jD jS rfl jl.1 rfl rfl (Nat.le_of_ble_eq_true rfl) dX6_layOffer_74 (fun H locs jP jD jS => ?_)
          obtain ⟨t36, hvt36, hv6⟩ := bd_some hv6
          have hJt36 : ∀ (H : Heap) (locs : List Loc) (ls : Array Slot), va_P D vwCl (mW cI uM aM M_x1 M_x2 M_x3 M_x4 M_x5 M_x6 M_x7 M_x8 M_x12 M_x14 M_x17 M_x18 t36.2.2.2.2.1 t36.2.2.2.2.2.1 t36.2.2.2.2.2.2 M_x27 M_x29 M_x33 t36.1 M_g25 t36.2.1 M_g28 M_r0 M_r9 M_r10 M_r11 M_r13 M_r15 M_r16 t36.2.2.1 t36.2.2.2.1 M_r30 M_r31 M_r32) H → va_D A (mW cI uM aM M_x1 M_x2 M_x3 M_x4 M_x5 M_x6 M_x7 M_x8 M_x12 M_x14 M_x17 M_x18 t36.2.2.2.2.1 t36.2.2.2.2.2.1 t36.2.2.2.2.2.2 M_x27 M_x29 M_x33 t36.1 M_g25 t36.2.1 M_g28 M_r0 M_r9 M_r10 M_r11 M_r13 M_r15 M_r16 t36.2.2.1 t36.2.2.2.1 M_r30 M_r31 M_r32) → va_S A s.heap H locs → lv_has ls 7 [(0, .ref uM), (1, .int a1), (2, .int a2), (3, .int a3), (4, .int t5), (5, .int v6.1)] → W p l e R s m ar below meth c H locs 0 0 QQ (F0 m 298 ls []) := by
            clear jP jD jS jl
            intro H locs ls jP jD jS jl
            refine lv_iinc (v := (v6.1 + (1 : Int32))) (lv' := [(5, .int (v6.1 + (1 : Int32))), (0, .ref uM), (1, .int a1), (2, .int a2), (3, .int a3), (4, .int t5)]) hx hb dX6_layOffer_298 jl (k := 5) rfl rfl (by decide) rfl (fun ls jl => ?_)
            refine lv_goto (tgt := 48) hx hb dX6_layOffer_301 (by decide) ?_
            obtain rfl := Option.some.inj hv6
            exact ih _ (nxt_l hq6) _ _ _ jP jD jS (lv_sub jl [1, 2, 3, 4, 5, 0] rfl)
          clear hv6
          refine lv_if_eq (tgt := 298) hx hb dX6_layOffer_77 (by decide) (fun c10 => ?_) (fun c10 => ?_)
          · have hvt36 := itp c10 hvt36
            obtain rfl := Option.some.inj hvt36
            exact hJt36 _ _ _ jP jD jS (lv_sub jl [0, 1, 2, 3, 4, 5] rfl)
          · have hvt36 := itn c10 hvt36
            refine lv_iload_n hx hb dX6_layOffer_80 rfl (lv_at jl 1 rfl) ?_
            refine lv_iconst (v := (4 : Int32)) hx hb dX6_layOffer_81 (by decide) ?_
            obtain ⟨t14, hvt14, hvt36⟩ := bd_some hvt36
            have hJt14 : ∀ (H : Heap) (locs : List Loc) (ls : Array Slot), va_P D vwCl (mW cI uM aM M_x1 M_x2 M_x3 M_x4 M_x5 M_x6 M_x7 M_x8 M_x12 M_x14 M_x17 M_x18 v6.2.2.2.2.2.1 v6.2.2.2.2.2.2.1 v6.2.2.2.2.2.2.2 M_x27 M_x29 M_x33 v6.2.1 M_g25 v6.2.2.1 M_g28 M_r0 M_r9 M_r10 M_r11 M_r13 M_r15 M_r16 (upd v6.2.2.2.1 v6.1.toNatClampNeg (0 : Int32)) (upd v6.2.2.2.2.1 v6.1.toNatClampNeg (0 : Int32)) M_r30 M_r31 M_r32) H → va_D A (mW cI uM aM M_x1 M_x2 M_x3 M_x4 M_x5 M_x6 M_x7 M_x8 M_x12 M_x14 M_x17 M_x18 v6.2.2.2.2.2.1 v6.2.2.2.2.2.2.1 v6.2.2.2.2.2.2.2 M_x27 M_x29 M_x33 v6.2.1 M_g25 v6.2.2.1 M_g28 M_r0 M_r9 M_r10 M_r11 M_r13 M_r15 M_r16 (upd v6.2.2.2.1 v6.1.toNatClampNeg (0 : Int32)) (upd v6.2.2.2.2.1 v6.1.toNatClampNeg (0 : Int32)) M_r30 M_r31 M_r32) → va_S A s.heap H locs → lv_has ls 7 [(0, .ref uM), (1, .int a1), (2, .int a2), (3, .int a3), (4, .int t5), (5, .int v6.1)] → W p l e R s m ar below meth c H locs 0 0 QQ (F0 m 99 ls [.int t14]) := by
              clear jP jD jS jl
              intro H locs ls jP jD jS jl
              refine lv_istore (lv' := [(6, .int t14), (0, .ref uM), (1, .int a1), (2, .int a2), (3, .int a3), (4, .int t5), (5, .int v6.1)]) hx hb dX6_layOffer_99 jl (by decide) rfl (fun ls jl => ?_)
              refine lv_aload_n hx hb dX6_layOffer_101 rfl (lv_at jl 1 rfl) ?_
              refine lv_dup hx hb dX6_layOffer_102 rfl ?_
              refine va_get (D := D) (ci := 6) (v := .int v6.2.2.2.2.2.1) (C := RX6) (T := TX6) (N := 34) hx hb hts in6 hown jK.1 jP 0 rfl rfl 19 (by decide) (hts _ w_414) (fun _ h9 => h9) rfl dX6_layOffer_103 ?_
              refine lv_iload hx hb dX6_layOffer_106 (lv_at jl 0 rfl) ?_
              obtain ⟨t16, hvt16, hvt36⟩ := bd_some hvt36
              have hJt16 : ∀ (H : Heap) (locs : List Loc) (ls : Array Slot), va_P D vwCl (mW cI uM aM M_x1 M_x2 M_x3 M_x4 M_x5 M_x6 M_x7 M_x8 M_x12 M_x14 M_x17 M_x18 v6.2.2.2.2.2.1 v6.2.2.2.2.2.2.1 v6.2.2.2.2.2.2.2 M_x27 M_x29 M_x33 v6.2.1 M_g25 v6.2.2.1 M_g28 M_r0 M_r9 M_r10 M_r11 M_r13 M_r15 M_r16 (upd v6.2.2.2.1 v6.1.toNatClampNeg (0 : Int32)) (upd v6.2.2.2.2.1 v6.1.toNatClampNeg (0 : Int32)) M_r30 M_r31 M_r32) H → va_D A (mW cI uM aM M_x1 M_x2 M_x3 M_x4 M_x5 M_x6 M_x7 M_x8 M_x12 M_x14 M_x17 M_x18 v6.2.2.2.2.2.1 v6.2.2.2.2.2.2.1 v6.2.2.2.2.2.2.2 M_x27 M_x29 M_x33 v6.2.1 M_g25 v6.2.2.1 M_g28 M_r0 M_r9 M_r10 M_r11 M_r13 M_r15 M_r16 (upd v6.2.2.2.1 v6.1.toNatClampNeg (0 : Int32)) (upd v6.2.2.2.2.1 v6.1.toNatClampNeg (0 : Int32)) M_r30 M_r31 M_r32) → va_S A s.heap H locs → lv_has ls 7 [(0, .ref uM), (1, .int a1), (2, .int a2), (3, .int a3), (4, .int t5), (5, .int v6.1), (6, .int t14)] → W p l e R s m ar below meth c H locs 0 0 QQ (F0 m 119 ls [.int t16, .int v6.2.2.2.2.2.1, .ref uM]) := by
                clear jP jD jS jl
                intro H locs ls jP jD jS jl
                refine lv_ior hx hb dX6_layOffer_119 ?_
                refine va_put (D := D) (ci := 6) (v := .int (v6.2.2.2.2.2.1 ||| t16)) (ty := .int) (C := RX6) (T := TX6) (N := 34) hx hb hts in6 tyX6 tyX6_ok nmX6 hown jK.1 jP jD jS 0 rfl rfl 19 (by decide) (hts _ w_414) (fun _ h9 => h9) rfl (by decide +kernel) rfl rfl (Nat.le_of_ble_eq_true rfl) dX6_layOffer_120 (fun H locs jP jD jS => ?_)
                have jP : va_P D vwCl (mW cI uM aM M_x1 M_x2 M_x3 M_x4 M_x5 M_x6 M_x7 M_x8 M_x12 M_x14 M_x17 M_x18 (v6.2.2.2.2.2.1 ||| t16) v6.2.2.2.2.2.2.1 v6.2.2.2.2.2.2.2 M_x27 M_x29 M_x33 v6.2.1 M_g25 v6.2.2.1 M_g28 M_r0 M_r9 M_r10 M_r11 M_r13 M_r15 M_r16 (upd v6.2.2.2.1 v6.1.toNatClampNeg (0 : Int32)) (upd v6.2.2.2.2.1 v6.1.toNatClampNeg (0 : Int32)) M_r30 M_r31 M_r32) H := jP
                have jD : va_D A (mW cI uM aM M_x1 M_x2 M_x3 M_x4 M_x5 M_x6 M_x7 M_x8 M_x12 M_x14 M_x17 M_x18 (v6.2.2.2.2.2.1 ||| t16) v6.2.2.2.2.2.2.1 v6.2.2.2.2.2.2.2 M_x27 M_x29 M_x33 v6.2.1 M_g25 v6.2.2.1 M_g28 M_r0 M_r9 M_r10 M_r11 M_r13 M_r15 M_r16 (upd v6.2.2.2.1 v6.1.toNatClampNeg (0 : Int32)) (upd v6.2.2.2.2.1 v6.1.toNatClampNeg (0 : Int32)) M_r30 M_r31 M_r32) := jD
                refine lv_aload_n hx hb dX6_layOffer_123 rfl (lv_at jl 0 rfl) ?_
                refine va_get (D := D) (ci := 6) (v := .ref (aM 21)) (C := RX6) (T := TX6) (N := 34) hx hb hts in6 hown jK.1 jP 0 rfl rfl 21 (by decide) (hts _ w_85) (fun _ h9 => h9) rfl dX6_layOffer_124 ?_
                refine lv_iload hx hb dX6_layOffer_127 (lv_at jl 5 rfl) ?_
                refine lv_iload hx hb dX6_layOffer_129 (lv_at jl 6 rfl) ?_
                obtain ⟨t23, hvt23, hvt36⟩ := bd_some hvt36
                have hJt23 : ∀ (H : Heap) (locs : List Loc) (ls : Array Slot), va_P D vwCl (mW cI uM aM M_x1 M_x2 M_x3 M_x4 M_x5 M_x6 M_x7 M_x8 M_x12 M_x14 M_x17 M_x18 (v6.2.2.2.2.2.1 ||| t16) v6.2.2.2.2.2.2.1 v6.2.2.2.2.2.2.2 M_x27 M_x29 M_x33 v6.2.1 M_g25 v6.2.2.1 M_g28 M_r0 M_r9 M_r10 M_r11 M_r13 M_r15 M_r16 (upd v6.2.2.2.1 v6.1.toNatClampNeg (0 : Int32)) (upd v6.2.2.2.2.1 v6.1.toNatClampNeg (0 : Int32)) M_r30 M_r31 M_r32) H → va_D A (mW cI uM aM M_x1 M_x2 M_x3 M_x4 M_x5 M_x6 M_x7 M_x8 M_x12 M_x14 M_x17 M_x18 (v6.2.2.2.2.2.1 ||| t16) v6.2.2.2.2.2.2.1 v6.2.2.2.2.2.2.2 M_x27 M_x29 M_x33 v6.2.1 M_g25 v6.2.2.1 M_g28 M_r0 M_r9 M_r10 M_r11 M_r13 M_r15 M_r16 (upd v6.2.2.2.1 v6.1.toNatClampNeg (0 : Int32)) (upd v6.2.2.2.2.1 v6.1.toNatClampNeg (0 : Int32)) M_r30 M_r31 M_r32) → va_S A s.heap H locs → lv_has ls 7 [(0, .ref uM), (1, .int a1), (2, .int a2), (3, .int a3), (4, .int t5), (5, .int v6.1)] → W p l e R s m ar below meth c H locs 0 0 QQ (F0 m 160 ls [.int t23, .int v6.1, .ref (aM 21)]) := by
                  clear jP jD jS jl
                  intro H locs ls jP jD jS jl
                  obtain ⟨hin, hvt36⟩ := ckI_some hvt36
                  refine va_iast (f := (upd v6.2.2.2.1 v6.1.toNatClampNeg (0 : Int32))) hx hb jK.1 jP jD jS 8 0 rfl rfl hin dX6_layOffer_160 (fun H locs jP jD jS => ?_)
                  have jP : va_P D vwCl (mW cI uM aM M_x1 M_x2 M_x3 M_x4 M_x5 M_x6 M_x7 M_x8 M_x12 M_x14 M_x17 M_x18 (v6.2.2.2.2.2.1 ||| t16) v6.2.2.2.2.2.2.1 v6.2.2.2.2.2.2.2 M_x27 M_x29 M_x33 v6.2.1 M_g25 v6.2.2.1 M_g28 M_r0 M_r9 M_r10 M_r11 M_r13 M_r15 M_r16 (upd (upd v6.2.2.2.1 v6.1.toNatClampNeg (0 : Int32)) v6.1.toNatClampNeg t23) (upd v6.2.2.2.2.1 v6.1.toNatClampNeg (0 : Int32)) M_r30 M_r31 M_r32) H := jP
                  have jD : va_D A (mW cI uM aM M_x1 M_x2 M_x3 M_x4 M_x5 M_x6 M_x7 M_x8 M_x12 M_x14 M_x17 M_x18 (v6.2.2.2.2.2.1 ||| t16) v6.2.2.2.2.2.2.1 v6.2.2.2.2.2.2.2 M_x27 M_x29 M_x33 v6.2.1 M_g25 v6.2.2.1 M_g28 M_r0 M_r9 M_r10 M_r11 M_r13 M_r15 M_r16 (upd (upd v6.2.2.2.1 v6.1.toNatClampNeg (0 : Int32)) v6.1.toNatClampNeg t23) (upd v6.2.2.2.2.1 v6.1.toNatClampNeg (0 : Int32)) M_r30 M_r31 M_r32) := jD
                  refine lv_aload_n hx hb dX6_layOffer_161 rfl (lv_at jl 0 rfl) ?_
                  refine va_get (D := D) (ci := 6) (v := .ref (aM 22)) (C := RX6) (T := TX6) (N := 34) hx hb hts in6 hown jK.1 jP 0 rfl rfl 22 (by decide) (hts _ w_86) (fun _ h9 => h9) rfl dX6_layOffer_162 ?_
                  refine lv_iload hx hb dX6_layOffer_165 (lv_at jl 5 rfl) ?_
                  refine lv_aload_n hx hb dX6_layOffer_167 rfl (lv_at jl 0 rfl) ?_
                  refine va_get (D := D) (ci := 6) (v := .ref (aM 21)) (C := RX6) (T := TX6) (N := 34) hx hb hts in6 hown jK.1 jP 0 rfl rfl 21 (by decide) (hts _ w_85) (fun _ h9 => h9) rfl dX6_layOffer_168 ?_
                  refine lv_iload hx hb dX6_layOffer_171 (lv_at jl 5 rfl) ?_
                  obtain ⟨hin, hvt36⟩ := ckI_some hvt36
                  refine va_iald (f := (upd (upd v6.2.2.2.1 v6.1.toNatClampNeg (0 : Int32)) v6.1.toNatClampNeg t23)) hx hb jK.1 jP 8 0 rfl rfl hin dX6_layOffer_173 ?_
                  refine lv_aload_n hx hb dX6_layOffer_174 rfl (lv_at jl 0 rfl) ?_
                  refine lv_iload_n hx hb dX6_layOffer_175 rfl (lv_at jl 1 rfl) ?_
                  refine lv_iload_n hx hb dX6_layOffer_176 rfl (lv_at jl 2 rfl) ?_
                  refine lv_iload hx hb dX6_layOffer_177 (lv_at jl 5 rfl) ?_
                  obtain ⟨t24, hc25, hvt36⟩ := bd_some hvt36
                  refine callW (w1 := (mW cI uM aM M_x1 M_x2 M_x3 M_x4 M_x5 M_x6 M_x7 M_x8 M_x12 M_x14 M_x17 M_x18 (v6.2.2.2.2.2.1 ||| t16) v6.2.2.2.2.2.2.1 v6.2.2.2.2.2.2.2 M_x27 M_x29 M_x33 v6.2.1 M_g25 v6.2.2.1 M_g28 M_r0 M_r9 M_r10 M_r11 M_r13 M_r15 M_r16 (upd (upd v6.2.2.2.1 v6.1.toNatClampNeg (0 : Int32)) v6.1.toNatClampNeg t23) (upd v6.2.2.2.2.1 v6.1.toNatClampNeg (0 : Int32)) M_r30 M_r31 M_r32)) (As := [.int a1, .int a2, .int v6.1]) (rest := [.int ((upd (upd v6.2.2.2.1 v6.1.toNatClampNeg (0 : Int32)) v6.1.toNatClampNeg t23) v6.1.toNatClampNeg), .int v6.1, .ref (aM 22)]) (st1 := [.int t24, .int ((upd (upd v6.2.2.2.1 v6.1.toNatClampNeg (0 : Int32)) v6.1.toNatClampNeg t23) v6.1.toNatClampNeg), .int v6.1, .ref (aM 22)]) 0 F (kX6_partsOf l D cI cB cS uM aM M_x1 M_x2 M_x3 M_x4 M_x5 M_x6 M_x7 M_x8 M_x12 M_x14 M_x17 M_x18 (v6.2.2.2.2.2.1 ||| t16) v6.2.2.2.2.2.2.1 v6.2.2.2.2.2.2.2 M_x27 M_x29 M_x33 v6.2.1 M_g25 v6.2.2.1 M_g28 M_r0 M_r9 M_r10 M_r11 M_r13 M_r15 M_r16 (upd (upd v6.2.2.2.1 v6.1.toNatClampNeg (0 : Int32)) v6.1.toNatClampNeg t23) (upd v6.2.2.2.2.1 v6.1.toNatClampNeg (0 : Int32)) M_r30 M_r31 M_r32 a1 a2 v6.1 _ hc25 ) okX6_partsOf w_443 (by decide) (by decide) ⟨Nat.zero_le _, Nat.zero_le _⟩ rfl rfl rfl jP jD jS rfl jl.1 rfl rfl (Nat.le_of_ble_eq_true rfl) dX6_layOffer_179 (fun H locs jP jD jS => ?_)
                  refine lv_imul hx hb dX6_layOffer_182 ?_
                  obtain ⟨hin, hvt36⟩ := ckI_some hvt36
                  refine va_iast (f := (upd v6.2.2.2.2.1 v6.1.toNatClampNeg (0 : Int32))) hx hb jK.1 jP jD jS 9 0 rfl rfl hin dX6_layOffer_183 (fun H locs jP jD jS => ?_)
                  have jP : va_P D vwCl (mW cI uM aM M_x1 M_x2 M_x3 M_x4 M_x5 M_x6 M_x7 M_x8 M_x12 M_x14 M_x17 M_x18 (v6.2.2.2.2.2.1 ||| t16) v6.2.2.2.2.2.2.1 v6.2.2.2.2.2.2.2 M_x27 M_x29 M_x33 v6.2.1 M_g25 v6.2.2.1 M_g28 M_r0 M_r9 M_r10 M_r11 M_r13 M_r15 M_r16 (upd (upd v6.2.2.2.1 v6.1.toNatClampNeg (0 : Int32)) v6.1.toNatClampNeg t23) (upd (upd v6.2.2.2.2.1 v6.1.toNatClampNeg (0 : Int32)) v6.1.toNatClampNeg (((upd (upd v6.2.2.2.1 v6.1.toNatClampNeg (0 : Int32)) v6.1.toNatClampNeg t23) v6.1.toNatClampNeg) * t24)) M_r30 M_r31 M_r32) H := jP
                  have jD : va_D A (mW cI uM aM M_x1 M_x2 M_x3 M_x4 M_x5 M_x6 M_x7 M_x8 M_x12 M_x14 M_x17 M_x18 (v6.2.2.2.2.2.1 ||| t16) v6.2.2.2.2.2.2.1 v6.2.2.2.2.2.2.2 M_x27 M_x29 M_x33 v6.2.1 M_g25 v6.2.2.1 M_g28 M_r0 M_r9 M_r10 M_r11 M_r13 M_r15 M_r16 (upd (upd v6.2.2.2.1 v6.1.toNatClampNeg (0 : Int32)) v6.1.toNatClampNeg t23) (upd (upd v6.2.2.2.2.1 v6.1.toNatClampNeg (0 : Int32)) v6.1.toNatClampNeg (((upd (upd v6.2.2.2.1 v6.1.toNatClampNeg (0 : Int32)) v6.1.toNatClampNeg t23) v6.1.toNatClampNeg) * t24)) M_r30 M_r31 M_r32) := jD
                  refine lv_aload_n hx hb dX6_layOffer_184 rfl (lv_at jl 0 rfl) ?_
                  refine lv_dup hx hb dX6_layOffer_185 rfl ?_
                  refine va_get (D := D) (ci := 6) (v := .int v6.2.2.2.2.2.2.1) (C := RX6) (T := TX6) (N := 34) hx hb hts in6 hown jK.1 jP 0 rfl rfl 20 (by decide) (hts _ w_415) (fun _ h9 => h9) rfl dX6_layOffer_186 ?_
                  refine lv_aload_n hx hb dX6_layOffer_189 rfl (lv_at jl 0 rfl) ?_
                  refine va_get (D := D) (ci := 6) (v := .ref (aM 21)) (C := RX6) (T := TX6) (N := 34) hx hb hts in6 hown jK.1 jP 0 rfl rfl 21 (by decide) (hts _ w_85) (fun _ h9 => h9) rfl dX6_layOffer_190 ?_
                  refine lv_iload hx hb dX6_layOffer_193 (lv_at jl 5 rfl) ?_
                  obtain ⟨hin, hvt36⟩ := ckI_some hvt36
                  refine va_iald (f := (upd (upd v6.2.2.2.1 v6.1.toNatClampNeg (0 : Int32)) v6.1.toNatClampNeg t23)) hx hb jK.1 jP 8 0 rfl rfl hin dX6_layOffer_195 ?_
                  refine lv_iadd hx hb dX6_layOffer_196 ?_
                  refine va_put (D := D) (ci := 6) (v := .int (v6.2.2.2.2.2.2.1 + ((upd (upd v6.2.2.2.1 v6.1.toNatClampNeg (0 : Int32)) v6.1.toNatClampNeg t23) v6.1.toNatClampNeg))) (ty := .int) (C := RX6) (T := TX6) (N := 34) hx hb hts in6 tyX6 tyX6_ok nmX6 hown jK.1 jP jD jS 0 rfl rfl 20 (by decide) (hts _ w_415) (fun _ h9 => h9) rfl (by decide +kernel) rfl rfl (Nat.le_of_ble_eq_true rfl) dX6_layOffer_197 (fun H locs jP jD jS => ?_)
                  have jP : va_P D vwCl (mW cI uM aM M_x1 M_x2 M_x3 M_x4 M_x5 M_x6 M_x7 M_x8 M_x12 M_x14 M_x17 M_x18 (v6.2.2.2.2.2.1 ||| t16) (v6.2.2.2.2.2.2.1 + ((upd (upd v6.2.2.2.1 v6.1.toNatClampNeg (0 : Int32)) v6.1.toNatClampNeg t23) v6.1.toNatClampNeg)) v6.2.2.2.2.2.2.2 M_x27 M_x29 M_x33 v6.2.1 M_g25 v6.2.2.1 M_g28 M_r0 M_r9 M_r10 M_r11 M_r13 M_r15 M_r16 (upd (upd v6.2.2.2.1 v6.1.toNatClampNeg (0 : Int32)) v6.1.toNatClampNeg t23) (upd (upd v6.2.2.2.2.1 v6.1.toNatClampNeg (0 : Int32)) v6.1.toNatClampNeg (((upd (upd v6.2.2.2.1 v6.1.toNatClampNeg (0 : Int32)) v6.1.toNatClampNeg t23) v6.1.toNatClampNeg) * t24)) M_r30 M_r31 M_r32) H := jP
                  have jD : va_D A (mW cI uM aM M_x1 M_x2 M_x3 M_x4 M_x5 M_x6 M_x7 M_x8 M_x12 M_x14 M_x17 M_x18 (v6.2.2.2.2.2.1 ||| t16) (v6.2.2.2.2.2.2.1 + ((upd (upd v6.2.2.2.1 v6.1.toNatClampNeg (0 : Int32)) v6.1.toNatClampNeg t23) v6.1.toNatClampNeg)) v6.2.2.2.2.2.2.2 M_x27 M_x29 M_x33 v6.2.1 M_g25 v6.2.2.1 M_g28 M_r0 M_r9 M_r10 M_r11 M_r13 M_r15 M_r16 (upd (upd v6.2.2.2.1 v6.1.toNatClampNeg (0 : Int32)) v6.1.toNatClampNeg t23) (upd (upd v6.2.2.2.2.1 v6.1.toNatClampNeg (0 : Int32)) v6.1.toNatClampNeg (((upd (upd v6.2.2.2.1 v6.1.toNatClampNeg (0 : Int32)) v6.1.toNatClampNeg t23) v6.1.toNatClampNeg) * t24)) M_r30 M_r31 M_r32) := jD
                  refine lv_aload_n hx hb dX6_layOffer_200 rfl (lv_at jl 0 rfl) ?_
                  refine lv_dup hx hb dX6_layOffer_201 rfl ?_
                  refine va_get (D := D) (ci := 6) (v := .int v6.2.2.2.2.2.2.2) (C := RX6) (T := TX6) (N := 34) hx hb hts in6 hown jK.1 jP 0 rfl rfl 23 (by decide) (hts _ w_416) (fun _ h9 => h9) rfl dX6_layOffer_202 ?_
                  refine lv_aload_n hx hb dX6_layOffer_205 rfl (lv_at jl 0 rfl) ?_
                  refine va_get (D := D) (ci := 6) (v := .ref (aM 22)) (C := RX6) (T := TX6) (N := 34) hx hb hts in6 hown jK.1 jP 0 rfl rfl 22 (by decide) (hts _ w_86) (fun _ h9 => h9) rfl dX6_layOffer_206 ?_
                  refine lv_iload hx hb dX6_layOffer_209 (lv_at jl 5 rfl) ?_
                  obtain ⟨hin, hvt36⟩ := ckI_some hvt36
                  refine va_iald (f := (upd (upd v6.2.2.2.2.1 v6.1.toNatClampNeg (0 : Int32)) v6.1.toNatClampNeg (((upd (upd v6.2.2.2.1 v6.1.toNatClampNeg (0 : Int32)) v6.1.toNatClampNeg t23) v6.1.toNatClampNeg) * t24))) hx hb jK.1 jP 9 0 rfl rfl hin dX6_layOffer_211 ?_
                  refine lv_iadd hx hb dX6_layOffer_212 ?_
                  refine va_put (D := D) (ci := 6) (v := .int (v6.2.2.2.2.2.2.2 + ((upd (upd v6.2.2.2.2.1 v6.1.toNatClampNeg (0 : Int32)) v6.1.toNatClampNeg (((upd (upd v6.2.2.2.1 v6.1.toNatClampNeg (0 : Int32)) v6.1.toNatClampNeg t23) v6.1.toNatClampNeg) * t24)) v6.1.toNatClampNeg))) (ty := .int) (C := RX6) (T := TX6) (N := 34) hx hb hts in6 tyX6 tyX6_ok nmX6 hown jK.1 jP jD jS 0 rfl rfl 23 (by decide) (hts _ w_416) (fun _ h9 => h9) rfl (by decide +kernel) rfl rfl (Nat.le_of_ble_eq_true rfl) dX6_layOffer_213 (fun H locs jP jD jS => ?_)
                  have jP : va_P D vwCl (mW cI uM aM M_x1 M_x2 M_x3 M_x4 M_x5 M_x6 M_x7 M_x8 M_x12 M_x14 M_x17 M_x18 (v6.2.2.2.2.2.1 ||| t16) (v6.2.2.2.2.2.2.1 + ((upd (upd v6.2.2.2.1 v6.1.toNatClampNeg (0 : Int32)) v6.1.toNatClampNeg t23) v6.1.toNatClampNeg)) (v6.2.2.2.2.2.2.2 + ((upd (upd v6.2.2.2.2.1 v6.1.toNatClampNeg (0 : Int32)) v6.1.toNatClampNeg (((upd (upd v6.2.2.2.1 v6.1.toNatClampNeg (0 : Int32)) v6.1.toNatClampNeg t23) v6.1.toNatClampNeg) * t24)) v6.1.toNatClampNeg)) M_x27 M_x29 M_x33 v6.2.1 M_g25 v6.2.2.1 M_g28 M_r0 M_r9 M_r10 M_r11 M_r13 M_r15 M_r16 (upd (upd v6.2.2.2.1 v6.1.toNatClampNeg (0 : Int32)) v6.1.toNatClampNeg t23) (upd (upd v6.2.2.2.2.1 v6.1.toNatClampNeg (0 : Int32)) v6.1.toNatClampNeg (((upd (upd v6.2.2.2.1 v6.1.toNatClampNeg (0 : Int32)) v6.1.toNatClampNeg t23) v6.1.toNatClampNeg) * t24)) M_r30 M_r31 M_r32) H := jP
                  have jD : va_D A (mW cI uM aM M_x1 M_x2 M_x3 M_x4 M_x5 M_x6 M_x7 M_x8 M_x12 M_x14 M_x17 M_x18 (v6.2.2.2.2.2.1 ||| t16) (v6.2.2.2.2.2.2.1 + ((upd (upd v6.2.2.2.1 v6.1.toNatClampNeg (0 : Int32)) v6.1.toNatClampNeg t23) v6.1.toNatClampNeg)) (v6.2.2.2.2.2.2.2 + ((upd (upd v6.2.2.2.2.1 v6.1.toNatClampNeg (0 : Int32)) v6.1.toNatClampNeg (((upd (upd v6.2.2.2.1 v6.1.toNatClampNeg (0 : Int32)) v6.1.toNatClampNeg t23) v6.1.toNatClampNeg) * t24)) v6.1.toNatClampNeg)) M_x27 M_x29 M_x33 v6.2.1 M_g25 v6.2.2.1 M_g28 M_r0 M_r9 M_r10 M_r11 M_r13 M_r15 M_r16 (upd (upd v6.2.2.2.1 v6.1.toNatClampNeg (0 : Int32)) v6.1.toNatClampNeg t23) (upd (upd v6.2.2.2.2.1 v6.1.toNatClampNeg (0 : Int32)) v6.1.toNatClampNeg (((upd (upd v6.2.2.2.1 v6.1.toNatClampNeg (0 : Int32)) v6.1.toNatClampNeg t23) v6.1.toNatClampNeg) * t24)) M_r30 M_r31 M_r32) := jD
                  refine lv_aload_n hx hb dX6_layOffer_216 rfl (lv_at jl 0 rfl) ?_
                  refine lv_dup hx hb dX6_layOffer_217 rfl ?_
                  refine va_get (D := D) (ci := 6) (v := .long v6.2.1) (C := RX6) (T := TX6) (N := 34) hx hb hts in6 hown jK.1 jP 0 rfl rfl 24 (by decide) (hts _ w_427) (fun _ h9 => h9) rfl dX6_layOffer_218 ?_
                  refine lv_aload_n hx hb dX6_layOffer_221 rfl (lv_at jl 0 rfl) ?_
                  refine va_get (D := D) (ci := 6) (v := .ref (aM 22)) (C := RX6) (T := TX6) (N := 34) hx hb hts in6 hown jK.1 jP 0 rfl rfl 22 (by decide) (hts _ w_86) (fun _ h9 => h9) rfl dX6_layOffer_222 ?_
                  refine lv_iload hx hb dX6_layOffer_225 (lv_at jl 5 rfl) ?_
                  obtain ⟨hin, hvt36⟩ := ckI_some hvt36
                  refine va_iald (f := (upd (upd v6.2.2.2.2.1 v6.1.toNatClampNeg (0 : Int32)) v6.1.toNatClampNeg (((upd (upd v6.2.2.2.1 v6.1.toNatClampNeg (0 : Int32)) v6.1.toNatClampNeg t23) v6.1.toNatClampNeg) * t24))) hx hb jK.1 jP 9 0 rfl rfl hin dX6_layOffer_227 ?_
                  refine lv_i2l (v := ((upd (upd v6.2.2.2.2.1 v6.1.toNatClampNeg (0 : Int32)) v6.1.toNatClampNeg (((upd (upd v6.2.2.2.1 v6.1.toNatClampNeg (0 : Int32)) v6.1.toNatClampNeg t23) v6.1.toNatClampNeg) * t24)) v6.1.toNatClampNeg).toInt64) hx hb dX6_layOffer_228 rfl ?_
                  refine lv_bipush (v := (10 : Int32)) hx hb dX6_layOffer_229 (by decide) ?_
                  refine lv_aload_n hx hb dX6_layOffer_231 rfl (lv_at jl 0 rfl) ?_
                  refine lv_iload hx hb dX6_layOffer_232 (lv_at jl 5 rfl) ?_
                  refine lv_iconst (v := (2 : Int32)) hx hb dX6_layOffer_234 (by decide) ?_
                  obtain ⟨t26, hc27, hvt36⟩ := bd_some hvt36
                  refine callW (w1 := (mW cI uM aM M_x1 M_x2 M_x3 M_x4 M_x5 M_x6 M_x7 M_x8 M_x12 M_x14 M_x17 M_x18 (v6.2.2.2.2.2.1 ||| t16) (v6.2.2.2.2.2.2.1 + ((upd (upd v6.2.2.2.1 v6.1.toNatClampNeg (0 : Int32)) v6.1.toNatClampNeg t23) v6.1.toNatClampNeg)) (v6.2.2.2.2.2.2.2 + ((upd (upd v6.2.2.2.2.1 v6.1.toNatClampNeg (0 : Int32)) v6.1.toNatClampNeg (((upd (upd v6.2.2.2.1 v6.1.toNatClampNeg (0 : Int32)) v6.1.toNatClampNeg t23) v6.1.toNatClampNeg) * t24)) v6.1.toNatClampNeg)) M_x27 M_x29 M_x33 v6.2.1 M_g25 v6.2.2.1 M_g28 M_r0 M_r9 M_r10 M_r11 M_r13 M_r15 M_r16 (upd (upd v6.2.2.2.1 v6.1.toNatClampNeg (0 : Int32)) v6.1.toNatClampNeg t23) (upd (upd v6.2.2.2.2.1 v6.1.toNatClampNeg (0 : Int32)) v6.1.toNatClampNeg (((upd (upd v6.2.2.2.1 v6.1.toNatClampNeg (0 : Int32)) v6.1.toNatClampNeg t23) v6.1.toNatClampNeg) * t24)) M_r30 M_r31 M_r32)) (As := [.int v6.1, .int (2 : Int32)]) (rest := [.int (10 : Int32), .long (((upd (upd v6.2.2.2.2.1 v6.1.toNatClampNeg (0 : Int32)) v6.1.toNatClampNeg (((upd (upd v6.2.2.2.1 v6.1.toNatClampNeg (0 : Int32)) v6.1.toNatClampNeg t23) v6.1.toNatClampNeg) * t24)) v6.1.toNatClampNeg).toInt64), .long v6.2.1, .ref uM]) (st1 := [.int t26, .int (10 : Int32), .long (((upd (upd v6.2.2.2.2.1 v6.1.toNatClampNeg (0 : Int32)) v6.1.toNatClampNeg (((upd (upd v6.2.2.2.1 v6.1.toNatClampNeg (0 : Int32)) v6.1.toNatClampNeg t23) v6.1.toNatClampNeg) * t24)) v6.1.toNatClampNeg).toInt64), .long v6.2.1, .ref uM]) 0 F (kX6_its l D cI cB cS uM aM M_x1 M_x2 M_x3 M_x4 M_x5 M_x6 M_x7 M_x8 M_x12 M_x14 M_x17 M_x18 (v6.2.2.2.2.2.1 ||| t16) (v6.2.2.2.2.2.2.1 + ((upd (upd v6.2.2.2.1 v6.1.toNatClampNeg (0 : Int32)) v6.1.toNatClampNeg t23) v6.1.toNatClampNeg)) (v6.2.2.2.2.2.2.2 + ((upd (upd v6.2.2.2.2.1 v6.1.toNatClampNeg (0 : Int32)) v6.1.toNatClampNeg (((upd (upd v6.2.2.2.1 v6.1.toNatClampNeg (0 : Int32)) v6.1.toNatClampNeg t23) v6.1.toNatClampNeg) * t24)) v6.1.toNatClampNeg)) M_x27 M_x29 M_x33 v6.2.1 M_g25 v6.2.2.1 M_g28 M_r0 M_r9 M_r10 M_r11 M_r13 M_r15 M_r16 (upd (upd v6.2.2.2.1 v6.1.toNatClampNeg (0 : Int32)) v6.1.toNatClampNeg t23) (upd (upd v6.2.2.2.2.1 v6.1.toNatClampNeg (0 : Int32)) v6.1.toNatClampNeg (((upd (upd v6.2.2.2.1 v6.1.toNatClampNeg (0 : Int32)) v6.1.toNatClampNeg t23) v6.1.toNatClampNeg) * t24)) M_r30 M_r31 M_r32 v6.1 (2 : Int32) _ hc27 ) okX6_its w_320 (by decide) (by decide) ⟨Nat.zero_le _, Nat.zero_le _⟩ rfl rfl rfl jP jD jS rfl jl.1 rfl rfl (Nat.le_of_ble_eq_true rfl) dX6_layOffer_235 (fun H locs jP jD jS => ?_)
                  refine lv_imul hx hb dX6_layOffer_238 ?_
                  refine lv_iload_n hx hb dX6_layOffer_239 rfl (lv_at jl 1 rfl) ?_
                  refine lv_iconst (v := (1 : Int32)) hx hb dX6_layOffer_240 (by decide) ?_
                  obtain ⟨t31, hvt31, hvt36⟩ := bd_some hvt36
                  have hJt31 : ∀ (H : Heap) (locs : List Loc) (ls : Array Slot), va_P D vwCl (mW cI uM aM M_x1 M_x2 M_x3 M_x4 M_x5 M_x6 M_x7 M_x8 M_x12 M_x14 M_x17 M_x18 (v6.2.2.2.2.2.1 ||| t16) (v6.2.2.2.2.2.2.1 + ((upd (upd v6.2.2.2.1 v6.1.toNatClampNeg (0 : Int32)) v6.1.toNatClampNeg t23) v6.1.toNatClampNeg)) (v6.2.2.2.2.2.2.2 + ((upd (upd v6.2.2.2.2.1 v6.1.toNatClampNeg (0 : Int32)) v6.1.toNatClampNeg (((upd (upd v6.2.2.2.1 v6.1.toNatClampNeg (0 : Int32)) v6.1.toNatClampNeg t23) v6.1.toNatClampNeg) * t24)) v6.1.toNatClampNeg)) M_x27 M_x29 M_x33 v6.2.1 M_g25 v6.2.2.1 M_g28 M_r0 M_r9 M_r10 M_r11 M_r13 M_r15 M_r16 (upd (upd v6.2.2.2.1 v6.1.toNatClampNeg (0 : Int32)) v6.1.toNatClampNeg t23) (upd (upd v6.2.2.2.2.1 v6.1.toNatClampNeg (0 : Int32)) v6.1.toNatClampNeg (((upd (upd v6.2.2.2.1 v6.1.toNatClampNeg (0 : Int32)) v6.1.toNatClampNeg t23) v6.1.toNatClampNeg) * t24)) M_r30 M_r31 M_r32) H → va_D A (mW cI uM aM M_x1 M_x2 M_x3 M_x4 M_x5 M_x6 M_x7 M_x8 M_x12 M_x14 M_x17 M_x18 (v6.2.2.2.2.2.1 ||| t16) (v6.2.2.2.2.2.2.1 + ((upd (upd v6.2.2.2.1 v6.1.toNatClampNeg (0 : Int32)) v6.1.toNatClampNeg t23) v6.1.toNatClampNeg)) (v6.2.2.2.2.2.2.2 + ((upd (upd v6.2.2.2.2.1 v6.1.toNatClampNeg (0 : Int32)) v6.1.toNatClampNeg (((upd (upd v6.2.2.2.1 v6.1.toNatClampNeg (0 : Int32)) v6.1.toNatClampNeg t23) v6.1.toNatClampNeg) * t24)) v6.1.toNatClampNeg)) M_x27 M_x29 M_x33 v6.2.1 M_g25 v6.2.2.1 M_g28 M_r0 M_r9 M_r10 M_r11 M_r13 M_r15 M_r16 (upd (upd v6.2.2.2.1 v6.1.toNatClampNeg (0 : Int32)) v6.1.toNatClampNeg t23) (upd (upd v6.2.2.2.2.1 v6.1.toNatClampNeg (0 : Int32)) v6.1.toNatClampNeg (((upd (upd v6.2.2.2.1 v6.1.toNatClampNeg (0 : Int32)) v6.1.toNatClampNeg t23) v6.1.toNatClampNeg) * t24)) M_r30 M_r31 M_r32) → va_S A s.heap H locs → lv_has ls 7 [(0, .ref uM), (1, .int a1), (2, .int a2), (3, .int a3), (4, .int t5), (5, .int v6.1)] → W p l e R s m ar below meth c H locs 0 0 QQ (F0 m 257 ls [.int t31, .int ((10 : Int32) * t26), .long (((upd (upd v6.2.2.2.2.1 v6.1.toNatClampNeg (0 : Int32)) v6.1.toNatClampNeg (((upd (upd v6.2.2.2.1 v6.1.toNatClampNeg (0 : Int32)) v6.1.toNatClampNeg t23) v6.1.toNatClampNeg) * t24)) v6.1.toNatClampNeg).toInt64), .long v6.2.1, .ref uM]) := by
                    clear jP jD jS jl
                    intro H locs ls jP jD jS jl
                    refine lv_iadd hx hb dX6_layOffer_257 ?_
                    refine lv_i2l (v := (((10 : Int32) * t26) + t31).toInt64) hx hb dX6_layOffer_258 rfl ?_
                    refine lv_lmul hx hb dX6_layOffer_259 ?_
                    refine lv_ladd hx hb dX6_layOffer_260 ?_
                    refine va_put (D := D) (ci := 6) (v := .long (v6.2.1 + (((upd (upd v6.2.2.2.2.1 v6.1.toNatClampNeg (0 : Int32)) v6.1.toNatClampNeg (((upd (upd v6.2.2.2.1 v6.1.toNatClampNeg (0 : Int32)) v6.1.toNatClampNeg t23) v6.1.toNatClampNeg) * t24)) v6.1.toNatClampNeg).toInt64 * (((10 : Int32) * t26) + t31).toInt64))) (ty := .long) (C := RX6) (T := TX6) (N := 34) hx hb hts in6 tyX6 tyX6_ok nmX6 hown jK.1 jP jD jS 0 rfl rfl 24 (by decide) (hts _ w_427) (fun _ h9 => h9) rfl (by decide +kernel) rfl rfl (Nat.le_of_ble_eq_true rfl) dX6_layOffer_261 (fun H locs jP jD jS => ?_)
                    have jP : va_P D vwCl (mW cI uM aM M_x1 M_x2 M_x3 M_x4 M_x5 M_x6 M_x7 M_x8 M_x12 M_x14 M_x17 M_x18 (v6.2.2.2.2.2.1 ||| t16) (v6.2.2.2.2.2.2.1 + ((upd (upd v6.2.2.2.1 v6.1.toNatClampNeg (0 : Int32)) v6.1.toNatClampNeg t23) v6.1.toNatClampNeg)) (v6.2.2.2.2.2.2.2 + ((upd (upd v6.2.2.2.2.1 v6.1.toNatClampNeg (0 : Int32)) v6.1.toNatClampNeg (((upd (upd v6.2.2.2.1 v6.1.toNatClampNeg (0 : Int32)) v6.1.toNatClampNeg t23) v6.1.toNatClampNeg) * t24)) v6.1.toNatClampNeg)) M_x27 M_x29 M_x33 (v6.2.1 + (((upd (upd v6.2.2.2.2.1 v6.1.toNatClampNeg (0 : Int32)) v6.1.toNatClampNeg (((upd (upd v6.2.2.2.1 v6.1.toNatClampNeg (0 : Int32)) v6.1.toNatClampNeg t23) v6.1.toNatClampNeg) * t24)) v6.1.toNatClampNeg).toInt64 * (((10 : Int32) * t26) + t31).toInt64)) M_g25 v6.2.2.1 M_g28 M_r0 M_r9 M_r10 M_r11 M_r13 M_r15 M_r16 (upd (upd v6.2.2.2.1 v6.1.toNatClampNeg (0 : Int32)) v6.1.toNatClampNeg t23) (upd (upd v6.2.2.2.2.1 v6.1.toNatClampNeg (0 : Int32)) v6.1.toNatClampNeg (((upd (upd v6.2.2.2.1 v6.1.toNatClampNeg (0 : Int32)) v6.1.toNatClampNeg t23) v6.1.toNatClampNeg) * t24)) M_r30 M_r31 M_r32) H := jP
                    have jD : va_D A (mW cI uM aM M_x1 M_x2 M_x3 M_x4 M_x5 M_x6 M_x7 M_x8 M_x12 M_x14 M_x17 M_x18 (v6.2.2.2.2.2.1 ||| t16) (v6.2.2.2.2.2.2.1 + ((upd (upd v6.2.2.2.1 v6.1.toNatClampNeg (0 : Int32)) v6.1.toNatClampNeg t23) v6.1.toNatClampNeg)) (v6.2.2.2.2.2.2.2 + ((upd (upd v6.2.2.2.2.1 v6.1.toNatClampNeg (0 : Int32)) v6.1.toNatClampNeg (((upd (upd v6.2.2.2.1 v6.1.toNatClampNeg (0 : Int32)) v6.1.toNatClampNeg t23) v6.1.toNatClampNeg) * t24)) v6.1.toNatClampNeg)) M_x27 M_x29 M_x33 (v6.2.1 + (((upd (upd v6.2.2.2.2.1 v6.1.toNatClampNeg (0 : Int32)) v6.1.toNatClampNeg (((upd (upd v6.2.2.2.1 v6.1.toNatClampNeg (0 : Int32)) v6.1.toNatClampNeg t23) v6.1.toNatClampNeg) * t24)) v6.1.toNatClampNeg).toInt64 * (((10 : Int32) * t26) + t31).toInt64)) M_g25 v6.2.2.1 M_g28 M_r0 M_r9 M_r10 M_r11 M_r13 M_r15 M_r16 (upd (upd v6.2.2.2.1 v6.1.toNatClampNeg (0 : Int32)) v6.1.toNatClampNeg t23) (upd (upd v6.2.2.2.2.1 v6.1.toNatClampNeg (0 : Int32)) v6.1.toNatClampNeg (((upd (upd v6.2.2.2.1 v6.1.toNatClampNeg (0 : Int32)) v6.1.toNatClampNeg t23) v6.1.toNatClampNeg) * t24)) M_r30 M_r31 M_r32) := jD
                    refine lv_aload_n hx hb dX6_layOffer_264 rfl (lv_at jl 0 rfl) ?_
                    refine lv_dup hx hb dX6_layOffer_265 rfl ?_
                    refine va_get (D := D) (ci := 6) (v := .long v6.2.2.1) (C := RX6) (T := TX6) (N := 34) hx hb hts in6 hown jK.1 jP 0 rfl rfl 26 (by decide) (hts _ w_428) (fun _ h9 => h9) rfl dX6_layOffer_266 ?_
                    refine lv_aload_n hx hb dX6_layOffer_269 rfl (lv_at jl 0 rfl) ?_
                    refine va_get (D := D) (ci := 6) (v := .ref (aM 22)) (C := RX6) (T := TX6) (N := 34) hx hb hts in6 hown jK.1 jP 0 rfl rfl 22 (by decide) (hts _ w_86) (fun _ h9 => h9) rfl dX6_layOffer_270 ?_
                    refine lv_iload hx hb dX6_layOffer_273 (lv_at jl 5 rfl) ?_
                    obtain ⟨hin, hvt36⟩ := ckI_some hvt36
                    refine va_iald (f := (upd (upd v6.2.2.2.2.1 v6.1.toNatClampNeg (0 : Int32)) v6.1.toNatClampNeg (((upd (upd v6.2.2.2.1 v6.1.toNatClampNeg (0 : Int32)) v6.1.toNatClampNeg t23) v6.1.toNatClampNeg) * t24))) hx hb jK.1 jP 9 0 rfl rfl hin dX6_layOffer_275 ?_
                    refine lv_i2l (v := ((upd (upd v6.2.2.2.2.1 v6.1.toNatClampNeg (0 : Int32)) v6.1.toNatClampNeg (((upd (upd v6.2.2.2.1 v6.1.toNatClampNeg (0 : Int32)) v6.1.toNatClampNeg t23) v6.1.toNatClampNeg) * t24)) v6.1.toNatClampNeg).toInt64) hx hb dX6_layOffer_276 rfl ?_
                    refine lv_aload_n hx hb dX6_layOffer_277 rfl (lv_at jl 0 rfl) ?_
                    refine lv_iload hx hb dX6_layOffer_278 (lv_at jl 5 rfl) ?_
                    refine lv_iconst (v := (2 : Int32)) hx hb dX6_layOffer_280 (by decide) ?_
                    obtain ⟨t32, hc33, hvt36⟩ := bd_some hvt36
                    refine callW (w1 := (mW cI uM aM M_x1 M_x2 M_x3 M_x4 M_x5 M_x6 M_x7 M_x8 M_x12 M_x14 M_x17 M_x18 (v6.2.2.2.2.2.1 ||| t16) (v6.2.2.2.2.2.2.1 + ((upd (upd v6.2.2.2.1 v6.1.toNatClampNeg (0 : Int32)) v6.1.toNatClampNeg t23) v6.1.toNatClampNeg)) (v6.2.2.2.2.2.2.2 + ((upd (upd v6.2.2.2.2.1 v6.1.toNatClampNeg (0 : Int32)) v6.1.toNatClampNeg (((upd (upd v6.2.2.2.1 v6.1.toNatClampNeg (0 : Int32)) v6.1.toNatClampNeg t23) v6.1.toNatClampNeg) * t24)) v6.1.toNatClampNeg)) M_x27 M_x29 M_x33 (v6.2.1 + (((upd (upd v6.2.2.2.2.1 v6.1.toNatClampNeg (0 : Int32)) v6.1.toNatClampNeg (((upd (upd v6.2.2.2.1 v6.1.toNatClampNeg (0 : Int32)) v6.1.toNatClampNeg t23) v6.1.toNatClampNeg) * t24)) v6.1.toNatClampNeg).toInt64 * (((10 : Int32) * t26) + t31).toInt64)) M_g25 v6.2.2.1 M_g28 M_r0 M_r9 M_r10 M_r11 M_r13 M_r15 M_r16 (upd (upd v6.2.2.2.1 v6.1.toNatClampNeg (0 : Int32)) v6.1.toNatClampNeg t23) (upd (upd v6.2.2.2.2.1 v6.1.toNatClampNeg (0 : Int32)) v6.1.toNatClampNeg (((upd (upd v6.2.2.2.1 v6.1.toNatClampNeg (0 : Int32)) v6.1.toNatClampNeg t23) v6.1.toNatClampNeg) * t24)) M_r30 M_r31 M_r32)) (As := [.int v6.1, .int (2 : Int32)]) (rest := [.long (((upd (upd v6.2.2.2.2.1 v6.1.toNatClampNeg (0 : Int32)) v6.1.toNatClampNeg (((upd (upd v6.2.2.2.1 v6.1.toNatClampNeg (0 : Int32)) v6.1.toNatClampNeg t23) v6.1.toNatClampNeg) * t24)) v6.1.toNatClampNeg).toInt64), .long v6.2.2.1, .ref uM]) (st1 := [.int t32, .long (((upd (upd v6.2.2.2.2.1 v6.1.toNatClampNeg (0 : Int32)) v6.1.toNatClampNeg (((upd (upd v6.2.2.2.1 v6.1.toNatClampNeg (0 : Int32)) v6.1.toNatClampNeg t23) v6.1.toNatClampNeg) * t24)) v6.1.toNatClampNeg).toInt64), .long v6.2.2.1, .ref uM]) 0 F (kX6_its l D cI cB cS uM aM M_x1 M_x2 M_x3 M_x4 M_x5 M_x6 M_x7 M_x8 M_x12 M_x14 M_x17 M_x18 (v6.2.2.2.2.2.1 ||| t16) (v6.2.2.2.2.2.2.1 + ((upd (upd v6.2.2.2.1 v6.1.toNatClampNeg (0 : Int32)) v6.1.toNatClampNeg t23) v6.1.toNatClampNeg)) (v6.2.2.2.2.2.2.2 + ((upd (upd v6.2.2.2.2.1 v6.1.toNatClampNeg (0 : Int32)) v6.1.toNatClampNeg (((upd (upd v6.2.2.2.1 v6.1.toNatClampNeg (0 : Int32)) v6.1.toNatClampNeg t23) v6.1.toNatClampNeg) * t24)) v6.1.toNatClampNeg)) M_x27 M_x29 M_x33 (v6.2.1 + (((upd (upd v6.2.2.2.2.1 v6.1.toNatClampNeg (0 : Int32)) v6.1.toNatClampNeg (((upd (upd v6.2.2.2.1 v6.1.toNatClampNeg (0 : Int32)) v6.1.toNatClampNeg t23) v6.1.toNatClampNeg) * t24)) v6.1.toNatClampNeg).toInt64 * (((10 : Int32) * t26) + t31).toInt64)) M_g25 v6.2.2.1 M_g28 M_r0 M_r9 M_r10 M_r11 M_r13 M_r15 M_r16 (upd (upd v6.2.2.2.1 v6.1.toNatClampNeg (0 : Int32)) v6.1.toNatClampNeg t23) (upd (upd v6.2.2.2.2.1 v6.1.toNatClampNeg (0 : Int32)) v6.1.toNatClampNeg (((upd (upd v6.2.2.2.1 v6.1.toNatClampNeg (0 : Int32)) v6.1.toNatClampNeg t23) v6.1.toNatClampNeg) * t24)) M_r30 M_r31 M_r32 v6.1 (2 : Int32) _ hc33 ) okX6_its w_320 (by decide) (by decide) ⟨Nat.zero_le _, Nat.zero_le _⟩ rfl rfl rfl jP jD jS rfl jl.1 rfl rfl (Nat.le_of_ble_eq_true rfl) dX6_layOffer_281 (fun H locs jP jD jS => ?_)
                    refine lv_aload_n hx hb dX6_layOffer_284 rfl (lv_at jl 0 rfl) ?_
                    refine lv_iload hx hb dX6_layOffer_285 (lv_at jl 5 rfl) ?_
                    refine lv_iconst (v := (1 : Int32)) hx hb dX6_layOffer_287 (by decide) ?_
                    obtain ⟨t34, hc35, hvt36⟩ := bd_some hvt36
                    refine callW (w1 := (mW cI uM aM M_x1 M_x2 M_x3 M_x4 M_x5 M_x6 M_x7 M_x8 M_x12 M_x14 M_x17 M_x18 (v6.2.2.2.2.2.1 ||| t16) (v6.2.2.2.2.2.2.1 + ((upd (upd v6.2.2.2.1 v6.1.toNatClampNeg (0 : Int32)) v6.1.toNatClampNeg t23) v6.1.toNatClampNeg)) (v6.2.2.2.2.2.2.2 + ((upd (upd v6.2.2.2.2.1 v6.1.toNatClampNeg (0 : Int32)) v6.1.toNatClampNeg (((upd (upd v6.2.2.2.1 v6.1.toNatClampNeg (0 : Int32)) v6.1.toNatClampNeg t23) v6.1.toNatClampNeg) * t24)) v6.1.toNatClampNeg)) M_x27 M_x29 M_x33 (v6.2.1 + (((upd (upd v6.2.2.2.2.1 v6.1.toNatClampNeg (0 : Int32)) v6.1.toNatClampNeg (((upd (upd v6.2.2.2.1 v6.1.toNatClampNeg (0 : Int32)) v6.1.toNatClampNeg t23) v6.1.toNatClampNeg) * t24)) v6.1.toNatClampNeg).toInt64 * (((10 : Int32) * t26) + t31).toInt64)) M_g25 v6.2.2.1 M_g28 M_r0 M_r9 M_r10 M_r11 M_r13 M_r15 M_r16 (upd (upd v6.2.2.2.1 v6.1.toNatClampNeg (0 : Int32)) v6.1.toNatClampNeg t23) (upd (upd v6.2.2.2.2.1 v6.1.toNatClampNeg (0 : Int32)) v6.1.toNatClampNeg (((upd (upd v6.2.2.2.1 v6.1.toNatClampNeg (0 : Int32)) v6.1.toNatClampNeg t23) v6.1.toNatClampNeg) * t24)) M_r30 M_r31 M_r32)) (As := [.int v6.1, .int (1 : Int32)]) (rest := [.int t32, .long (((upd (upd v6.2.2.2.2.1 v6.1.toNatClampNeg (0 : Int32)) v6.1.toNatClampNeg (((upd (upd v6.2.2.2.1 v6.1.toNatClampNeg (0 : Int32)) v6.1.toNatClampNeg t23) v6.1.toNatClampNeg) * t24)) v6.1.toNatClampNeg).toInt64), .long v6.2.2.1, .ref uM]) (st1 := [.int t34, .int t32, .long (((upd (upd v6.2.2.2.2.1 v6.1.toNatClampNeg (0 : Int32)) v6.1.toNatClampNeg (((upd (upd v6.2.2.2.1 v6.1.toNatClampNeg (0 : Int32)) v6.1.toNatClampNeg t23) v6.1.toNatClampNeg) * t24)) v6.1.toNatClampNeg).toInt64), .long v6.2.2.1, .ref uM]) 0 F (kX6_its l D cI cB cS uM aM M_x1 M_x2 M_x3 M_x4 M_x5 M_x6 M_x7 M_x8 M_x12 M_x14 M_x17 M_x18 (v6.2.2.2.2.2.1 ||| t16) (v6.2.2.2.2.2.2.1 + ((upd (upd v6.2.2.2.1 v6.1.toNatClampNeg (0 : Int32)) v6.1.toNatClampNeg t23) v6.1.toNatClampNeg)) (v6.2.2.2.2.2.2.2 + ((upd (upd v6.2.2.2.2.1 v6.1.toNatClampNeg (0 : Int32)) v6.1.toNatClampNeg (((upd (upd v6.2.2.2.1 v6.1.toNatClampNeg (0 : Int32)) v6.1.toNatClampNeg t23) v6.1.toNatClampNeg) * t24)) v6.1.toNatClampNeg)) M_x27 M_x29 M_x33 (v6.2.1 + (((upd (upd v6.2.2.2.2.1 v6.1.toNatClampNeg (0 : Int32)) v6.1.toNatClampNeg (((upd (upd v6.2.2.2.1 v6.1.toNatClampNeg (0 : Int32)) v6.1.toNatClampNeg t23) v6.1.toNatClampNeg) * t24)) v6.1.toNatClampNeg).toInt64 * (((10 : Int32) * t26) + t31).toInt64)) M_g25 v6.2.2.1 M_g28 M_r0 M_r9 M_r10 M_r11 M_r13 M_r15 M_r16 (upd (upd v6.2.2.2.1 v6.1.toNatClampNeg (0 : Int32)) v6.1.toNatClampNeg t23) (upd (upd v6.2.2.2.2.1 v6.1.toNatClampNeg (0 : Int32)) v6.1.toNatClampNeg (((upd (upd v6.2.2.2.1 v6.1.toNatClampNeg (0 : Int32)) v6.1.toNatClampNeg t23) v6.1.toNatClampNeg) * t24)) M_r30 M_r31 M_r32 v6.1 (1 : Int32) _ hc35 ) okX6_its w_320 (by decide) (by decide) ⟨Nat.zero_le _, Nat.zero_le _⟩ rfl rfl rfl jP jD jS rfl jl.1 rfl rfl (Nat.le_of_ble_eq_true rfl) dX6_layOffer_288 (fun H locs jP jD jS => ?_)
                    refine lv_isub hx hb dX6_layOffer_291 ?_
                    refine lv_i2l (v := (t32 - t34).toInt64) hx hb dX6_layOffer_292 rfl ?_
                    refine lv_lmul hx hb dX6_layOffer_293 ?_
                    refine lv_ladd hx hb dX6_layOffer_294 ?_
                    refine va_put (D := D) (ci := 6) (v := .long (v6.2.2.1 + (((upd (upd v6.2.2.2.2.1 v6.1.toNatClampNeg (0 : Int32)) v6.1.toNatClampNeg (((upd (upd v6.2.2.2.1 v6.1.toNatClampNeg (0 : Int32)) v6.1.toNatClampNeg t23) v6.1.toNatClampNeg) * t24)) v6.1.toNatClampNeg).toInt64 * (t32 - t34).toInt64))) (ty := .long) (C := RX6) (T := TX6) (N := 34) hx hb hts in6 tyX6 tyX6_ok nmX6 hown jK.1 jP jD jS 0 rfl rfl 26 (by decide) (hts _ w_428) (fun _ h9 => h9) rfl (by decide +kernel) rfl rfl (Nat.le_of_ble_eq_true rfl) dX6_layOffer_295 (fun H locs jP jD jS => ?_)
                    have jP : va_P D vwCl (mW cI uM aM M_x1 M_x2 M_x3 M_x4 M_x5 M_x6 M_x7 M_x8 M_x12 M_x14 M_x17 M_x18 (v6.2.2.2.2.2.1 ||| t16) (v6.2.2.2.2.2.2.1 + ((upd (upd v6.2.2.2.1 v6.1.toNatClampNeg (0 : Int32)) v6.1.toNatClampNeg t23) v6.1.toNatClampNeg)) (v6.2.2.2.2.2.2.2 + ((upd (upd v6.2.2.2.2.1 v6.1.toNatClampNeg (0 : Int32)) v6.1.toNatClampNeg (((upd (upd v6.2.2.2.1 v6.1.toNatClampNeg (0 : Int32)) v6.1.toNatClampNeg t23) v6.1.toNatClampNeg) * t24)) v6.1.toNatClampNeg)) M_x27 M_x29 M_x33 (v6.2.1 + (((upd (upd v6.2.2.2.2.1 v6.1.toNatClampNeg (0 : Int32)) v6.1.toNatClampNeg (((upd (upd v6.2.2.2.1 v6.1.toNatClampNeg (0 : Int32)) v6.1.toNatClampNeg t23) v6.1.toNatClampNeg) * t24)) v6.1.toNatClampNeg).toInt64 * (((10 : Int32) * t26) + t31).toInt64)) M_g25 (v6.2.2.1 + (((upd (upd v6.2.2.2.2.1 v6.1.toNatClampNeg (0 : Int32)) v6.1.toNatClampNeg (((upd (upd v6.2.2.2.1 v6.1.toNatClampNeg (0 : Int32)) v6.1.toNatClampNeg t23) v6.1.toNatClampNeg) * t24)) v6.1.toNatClampNeg).toInt64 * (t32 - t34).toInt64)) M_g28 M_r0 M_r9 M_r10 M_r11 M_r13 M_r15 M_r16 (upd (upd v6.2.2.2.1 v6.1.toNatClampNeg (0 : Int32)) v6.1.toNatClampNeg t23) (upd (upd v6.2.2.2.2.1 v6.1.toNatClampNeg (0 : Int32)) v6.1.toNatClampNeg (((upd (upd v6.2.2.2.1 v6.1.toNatClampNeg (0 : Int32)) v6.1.toNatClampNeg t23) v6.1.toNatClampNeg) * t24)) M_r30 M_r31 M_r32) H := jP
                    have jD : va_D A (mW cI uM aM M_x1 M_x2 M_x3 M_x4 M_x5 M_x6 M_x7 M_x8 M_x12 M_x14 M_x17 M_x18 (v6.2.2.2.2.2.1 ||| t16) (v6.2.2.2.2.2.2.1 + ((upd (upd v6.2.2.2.1 v6.1.toNatClampNeg (0 : Int32)) v6.1.toNatClampNeg t23) v6.1.toNatClampNeg)) (v6.2.2.2.2.2.2.2 + ((upd (upd v6.2.2.2.2.1 v6.1.toNatClampNeg (0 : Int32)) v6.1.toNatClampNeg (((upd (upd v6.2.2.2.1 v6.1.toNatClampNeg (0 : Int32)) v6.1.toNatClampNeg t23) v6.1.toNatClampNeg) * t24)) v6.1.toNatClampNeg)) M_x27 M_x29 M_x33 (v6.2.1 + (((upd (upd v6.2.2.2.2.1 v6.1.toNatClampNeg (0 : Int32)) v6.1.toNatClampNeg (((upd (upd v6.2.2.2.1 v6.1.toNatClampNeg (0 : Int32)) v6.1.toNatClampNeg t23) v6.1.toNatClampNeg) * t24)) v6.1.toNatClampNeg).toInt64 * (((10 : Int32) * t26) + t31).toInt64)) M_g25 (v6.2.2.1 + (((upd (upd v6.2.2.2.2.1 v6.1.toNatClampNeg (0 : Int32)) v6.1.toNatClampNeg (((upd (upd v6.2.2.2.1 v6.1.toNatClampNeg (0 : Int32)) v6.1.toNatClampNeg t23) v6.1.toNatClampNeg) * t24)) v6.1.toNatClampNeg).toInt64 * (t32 - t34).toInt64)) M_g28 M_r0 M_r9 M_r10 M_r11 M_r13 M_r15 M_r16 (upd (upd v6.2.2.2.1 v6.1.toNatClampNeg (0 : Int32)) v6.1.toNatClampNeg t23) (upd (upd v6.2.2.2.2.1 v6.1.toNatClampNeg (0 : Int32)) v6.1.toNatClampNeg (((upd (upd v6.2.2.2.1 v6.1.toNatClampNeg (0 : Int32)) v6.1.toNatClampNeg t23) v6.1.toNatClampNeg) * t24)) M_r30 M_r31 M_r32) := jD
                    obtain rfl := Option.some.inj hvt36
                    exact hJt36 _ _ _ jP jD jS (lv_sub jl [0, 1, 2, 3, 4, 5] rfl)
                  clear hvt36
                  refine lv_icmp_ne (tgt := 256) hx hb dX6_layOffer_241 (by decide) (fun c28 => ?_) (fun c28 => ?_)
                  · have hvt31 := itn c28 hvt31
                    refine lv_iconst (v := (0 : Int32)) hx hb dX6_layOffer_256 (by decide) ?_
                    obtain rfl := Option.some.inj hvt31
                    exact hJt31 _ _ _ jP jD jS (lv_sub jl [0, 1, 2, 3, 4, 5] rfl)
                  · have hvt31 := itp c28 hvt31
                    refine lv_aload_n hx hb dX6_layOffer_244 rfl (lv_at jl 0 rfl) ?_
                    refine lv_iload hx hb dX6_layOffer_245 (lv_at jl 5 rfl) ?_
                    refine lv_iconst (v := (3 : Int32)) hx hb dX6_layOffer_247 (by decide) ?_
                    obtain ⟨t29, hc30, hvt31⟩ := bd_some hvt31
                    refine callW (w1 := (mW cI uM aM M_x1 M_x2 M_x3 M_x4 M_x5 M_x6 M_x7 M_x8 M_x12 M_x14 M_x17 M_x18 (v6.2.2.2.2.2.1 ||| t16) (v6.2.2.2.2.2.2.1 + ((upd (upd v6.2.2.2.1 v6.1.toNatClampNeg (0 : Int32)) v6.1.toNatClampNeg t23) v6.1.toNatClampNeg)) (v6.2.2.2.2.2.2.2 + ((upd (upd v6.2.2.2.2.1 v6.1.toNatClampNeg (0 : Int32)) v6.1.toNatClampNeg (((upd (upd v6.2.2.2.1 v6.1.toNatClampNeg (0 : Int32)) v6.1.toNatClampNeg t23) v6.1.toNatClampNeg) * t24)) v6.1.toNatClampNeg)) M_x27 M_x29 M_x33 v6.2.1 M_g25 v6.2.2.1 M_g28 M_r0 M_r9 M_r10 M_r11 M_r13 M_r15 M_r16 (upd (upd v6.2.2.2.1 v6.1.toNatClampNeg (0 : Int32)) v6.1.toNatClampNeg t23) (upd (upd v6.2.2.2.2.1 v6.1.toNatClampNeg (0 : Int32)) v6.1.toNatClampNeg (((upd (upd v6.2.2.2.1 v6.1.toNatClampNeg (0 : Int32)) v6.1.toNatClampNeg t23) v6.1.toNatClampNeg) * t24)) M_r30 M_r31 M_r32)) (As := [.int v6.1, .int (3 : Int32)]) (rest := [.int ((10 : Int32) * t26), .long (((upd (upd v6.2.2.2.2.1 v6.1.toNatClampNeg (0 : Int32)) v6.1.toNatClampNeg (((upd (upd v6.2.2.2.1 v6.1.toNatClampNeg (0 : Int32)) v6.1.toNatClampNeg t23) v6.1.toNatClampNeg) * t24)) v6.1.toNatClampNeg).toInt64), .long v6.2.1, .ref uM]) (st1 := [.int t29, .int ((10 : Int32) * t26), .long (((upd (upd v6.2.2.2.2.1 v6.1.toNatClampNeg (0 : Int32)) v6.1.toNatClampNeg (((upd (upd v6.2.2.2.1 v6.1.toNatClampNeg (0 : Int32)) v6.1.toNatClampNeg t23) v6.1.toNatClampNeg) * t24)) v6.1.toNatClampNeg).toInt64), .long v6.2.1, .ref uM]) 0 F (kX6_its l D cI cB cS uM aM M_x1 M_x2 M_x3 M_x4 M_x5 M_x6 M_x7 M_x8 M_x12 M_x14 M_x17 M_x18 (v6.2.2.2.2.2.1 ||| t16) (v6.2.2.2.2.2.2.1 + ((upd (upd v6.2.2.2.1 v6.1.toNatClampNeg (0 : Int32)) v6.1.toNatClampNeg t23) v6.1.toNatClampNeg)) (v6.2.2.2.2.2.2.2 + ((upd (upd v6.2.2.2.2.1 v6.1.toNatClampNeg (0 : Int32)) v6.1.toNatClampNeg (((upd (upd v6.2.2.2.1 v6.1.toNatClampNeg (0 : Int32)) v6.1.toNatClampNeg t23) v6.1.toNatClampNeg) * t24)) v6.1.toNatClampNeg)) M_x27 M_x29 M_x33 v6.2.1 M_g25 v6.2.2.1 M_g28 M_r0 M_r9 M_r10 M_r11 M_r13 M_r15 M_r16 (upd (upd v6.2.2.2.1 v6.1.toNatClampNeg (0 : Int32)) v6.1.toNatClampNeg t23) (upd (upd v6.2.2.2.2.1 v6.1.toNatClampNeg (0 : Int32)) v6.1.toNatClampNeg (((upd (upd v6.2.2.2.1 v6.1.toNatClampNeg (0 : Int32)) v6.1.toNatClampNeg t23) v6.1.toNatClampNeg) * t24)) M_r30 M_r31 M_r32 v6.1 (3 : Int32) _ hc30 ) okX6_its w_320 (by decide) (by decide) ⟨Nat.zero_le _, Nat.zero_le _⟩ rfl rfl rfl jP jD jS rfl jl.1 rfl rfl (Nat.le_of_ble_eq_true rfl) dX6_layOffer_248 (fun H locs jP jD jS => ?_)
                    refine lv_iload_n hx hb dX6_layOffer_251 rfl (lv_at jl 2 rfl) ?_
                    refine lv_imul hx hb dX6_layOffer_252 ?_
                    refine lv_goto (tgt := 257) hx hb dX6_layOffer_253 (by decide) ?_
                    obtain rfl := Option.some.inj hvt31
                    exact hJt31 _ _ _ jP jD jS (lv_sub jl [0, 1, 2, 3, 4, 5] rfl)
                clear hvt36
                refine lv_if_eq (tgt := 144) hx hb dX6_layOffer_131 (by decide) (fun c17 => ?_) (fun c17 => ?_)
                · have hvt23 := itp c17 hvt23
                  refine lv_iload_n hx hb dX6_layOffer_144 rfl (lv_at jl 1 rfl) ?_
                  refine lv_iconst (v := (4 : Int32)) hx hb dX6_layOffer_145 (by decide) ?_
                  refine lv_icmp_ne (tgt := 153) hx hb dX6_layOffer_146 (by decide) (fun c18 => ?_) (fun c18 => ?_)
                  · have hvt23 := itn c18 hvt23
                    refine lv_aload_n hx hb dX6_layOffer_153 rfl (lv_at jl 0 rfl) ?_
                    refine lv_iload hx hb dX6_layOffer_154 (lv_at jl 5 rfl) ?_
                    refine lv_iconst (v := (4 : Int32)) hx hb dX6_layOffer_156 (by decide) ?_
                    obtain ⟨t19, hc20, hvt23⟩ := bd_some hvt23
                    refine callW (w1 := (mW cI uM aM M_x1 M_x2 M_x3 M_x4 M_x5 M_x6 M_x7 M_x8 M_x12 M_x14 M_x17 M_x18 (v6.2.2.2.2.2.1 ||| t16) v6.2.2.2.2.2.2.1 v6.2.2.2.2.2.2.2 M_x27 M_x29 M_x33 v6.2.1 M_g25 v6.2.2.1 M_g28 M_r0 M_r9 M_r10 M_r11 M_r13 M_r15 M_r16 (upd v6.2.2.2.1 v6.1.toNatClampNeg (0 : Int32)) (upd v6.2.2.2.2.1 v6.1.toNatClampNeg (0 : Int32)) M_r30 M_r31 M_r32)) (As := [.int v6.1, .int (4 : Int32)]) (rest := [.int v6.1, .ref (aM 21)]) (st1 := [.int t19, .int v6.1, .ref (aM 21)]) 0 F (kX6_its l D cI cB cS uM aM M_x1 M_x2 M_x3 M_x4 M_x5 M_x6 M_x7 M_x8 M_x12 M_x14 M_x17 M_x18 (v6.2.2.2.2.2.1 ||| t16) v6.2.2.2.2.2.2.1 v6.2.2.2.2.2.2.2 M_x27 M_x29 M_x33 v6.2.1 M_g25 v6.2.2.1 M_g28 M_r0 M_r9 M_r10 M_r11 M_r13 M_r15 M_r16 (upd v6.2.2.2.1 v6.1.toNatClampNeg (0 : Int32)) (upd v6.2.2.2.2.1 v6.1.toNatClampNeg (0 : Int32)) M_r30 M_r31 M_r32 v6.1 (4 : Int32) _ hc20 ) okX6_its w_320 (by decide) (by decide) ⟨Nat.zero_le _, Nat.zero_le _⟩ rfl rfl rfl jP jD jS rfl jl.1 rfl rfl (Nat.le_of_ble_eq_true rfl) dX6_layOffer_157 (fun H locs jP jD jS => ?_)
                    obtain rfl := Option.some.inj hvt23
                    exact hJt23 _ _ _ jP jD jS (lv_sub jl [0, 1, 2, 3, 4, 5] rfl)
                  · have hvt23 := itp c18 hvt23
                    refine lv_iconst (v := (0 : Int32)) hx hb dX6_layOffer_149 (by decide) ?_
                    refine lv_goto (tgt := 160) hx hb dX6_layOffer_150 (by decide) ?_
                    obtain rfl := Option.some.inj hvt23
                    exact hJt23 _ _ _ jP jD jS (lv_sub jl [0, 1, 2, 3, 4, 5] rfl)
                · have hvt23 := itn c17 hvt23
                  refine lv_aload_n hx hb dX6_layOffer_134 rfl (lv_at jl 0 rfl) ?_
                  refine lv_iload hx hb dX6_layOffer_135 (lv_at jl 5 rfl) ?_
                  refine lv_iconst (v := (0 : Int32)) hx hb dX6_layOffer_137 (by decide) ?_
                  obtain ⟨t21, hc22, hvt23⟩ := bd_some hvt23
                  refine callW (w1 := (mW cI uM aM M_x1 M_x2 M_x3 M_x4 M_x5 M_x6 M_x7 M_x8 M_x12 M_x14 M_x17 M_x18 (v6.2.2.2.2.2.1 ||| t16) v6.2.2.2.2.2.2.1 v6.2.2.2.2.2.2.2 M_x27 M_x29 M_x33 v6.2.1 M_g25 v6.2.2.1 M_g28 M_r0 M_r9 M_r10 M_r11 M_r13 M_r15 M_r16 (upd v6.2.2.2.1 v6.1.toNatClampNeg (0 : Int32)) (upd v6.2.2.2.2.1 v6.1.toNatClampNeg (0 : Int32)) M_r30 M_r31 M_r32)) (As := [.int v6.1, .int (0 : Int32)]) (rest := [.int v6.1, .ref (aM 21)]) (st1 := [.int t21, .int v6.1, .ref (aM 21)]) 0 F (kX6_its l D cI cB cS uM aM M_x1 M_x2 M_x3 M_x4 M_x5 M_x6 M_x7 M_x8 M_x12 M_x14 M_x17 M_x18 (v6.2.2.2.2.2.1 ||| t16) v6.2.2.2.2.2.2.1 v6.2.2.2.2.2.2.2 M_x27 M_x29 M_x33 v6.2.1 M_g25 v6.2.2.1 M_g28 M_r0 M_r9 M_r10 M_r11 M_r13 M_r15 M_r16 (upd v6.2.2.2.1 v6.1.toNatClampNeg (0 : Int32)) (upd v6.2.2.2.2.1 v6.1.toNatClampNeg (0 : Int32)) M_r30 M_r31 M_r32 v6.1 (0 : Int32) _ hc22 ) okX6_its w_320 (by decide) (by decide) ⟨Nat.zero_le _, Nat.zero_le _⟩ rfl rfl rfl jP jD jS rfl jl.1 rfl rfl (Nat.le_of_ble_eq_true rfl) dX6_layOffer_138 (fun H locs jP jD jS => ?_)
                  refine lv_goto (tgt := 160) hx hb dX6_layOffer_141 (by decide) ?_
                  obtain rfl := Option.some.inj hvt23
                  exact hJt23 _ _ _ jP jD jS (lv_sub jl [0, 1, 2, 3, 4, 5] rfl)
              clear hvt36
              refine lv_if_eq (tgt := 118) hx hb dX6_layOffer_108 (by decide) (fun c15 => ?_) (fun c15 => ?_)
              · have hvt16 := itp c15 hvt16
                refine lv_iconst (v := (0 : Int32)) hx hb dX6_layOffer_118 (by decide) ?_
                obtain rfl := Option.some.inj hvt16
                exact hJt16 _ _ _ jP jD jS (lv_sub jl [1, 2, 3, 4, 5, 6, 0] rfl)
              · have hvt16 := itn c15 hvt16
                refine lv_iconst (v := (1 : Int32)) hx hb dX6_layOffer_111 (by decide) ?_
                refine lv_iload hx hb dX6_layOffer_112 (lv_at jl 6 rfl) ?_
                refine lv_ishl hx hb dX6_layOffer_114 ?_
                refine lv_goto (tgt := 119) hx hb dX6_layOffer_115 (by decide) ?_
                obtain rfl := Option.some.inj hvt16
                exact hJt16 _ _ _ jP jD jS (lv_sub jl [1, 2, 3, 4, 5, 6, 0] rfl)
            clear hvt36
            refine lv_icmp_ne (tgt := 90) hx hb dX6_layOffer_82 (by decide) (fun c11 => ?_) (fun c11 => ?_)
            · have hvt14 := itn c11 hvt14
              refine lv_aload_n hx hb dX6_layOffer_90 rfl (lv_at jl 0 rfl) ?_
              refine lv_iload_n hx hb dX6_layOffer_91 rfl (lv_at jl 1 rfl) ?_
              refine lv_iload_n hx hb dX6_layOffer_92 rfl (lv_at jl 2 rfl) ?_
              refine lv_iload_n hx hb dX6_layOffer_93 rfl (lv_at jl 3 rfl) ?_
              refine lv_iload hx hb dX6_layOffer_94 (lv_at jl 5 rfl) ?_
              obtain ⟨t12, hc13, hvt14⟩ := bd_some hvt14
              refine callW (w1 := (mW cI uM aM M_x1 M_x2 M_x3 M_x4 M_x5 M_x6 M_x7 M_x8 M_x12 M_x14 M_x17 M_x18 v6.2.2.2.2.2.1 v6.2.2.2.2.2.2.1 v6.2.2.2.2.2.2.2 M_x27 M_x29 M_x33 v6.2.1 M_g25 v6.2.2.1 M_g28 M_r0 M_r9 M_r10 M_r11 M_r13 M_r15 M_r16 (upd v6.2.2.2.1 v6.1.toNatClampNeg (0 : Int32)) (upd v6.2.2.2.2.1 v6.1.toNatClampNeg (0 : Int32)) M_r30 M_r31 M_r32)) (As := [.int a1, .int a2, .int a3, .int v6.1]) (rest := []) (st1 := [.int t12]) 0 F (kX6_comesWhole l D cI cB cS uM aM M_x1 M_x2 M_x3 M_x4 M_x5 M_x6 M_x7 M_x8 M_x12 M_x14 M_x17 M_x18 v6.2.2.2.2.2.1 v6.2.2.2.2.2.2.1 v6.2.2.2.2.2.2.2 M_x27 M_x29 M_x33 v6.2.1 M_g25 v6.2.2.1 M_g28 M_r0 M_r9 M_r10 M_r11 M_r13 M_r15 M_r16 (upd v6.2.2.2.1 v6.1.toNatClampNeg (0 : Int32)) (upd v6.2.2.2.2.1 v6.1.toNatClampNeg (0 : Int32)) M_r30 M_r31 M_r32 a1 a2 a3 v6.1 _ hc13 ) okX6_comesWhole w_439 (by decide) (by decide) ⟨Nat.zero_le _, Nat.zero_le _⟩ rfl rfl rfl jP jD jS rfl jl.1 rfl rfl (Nat.le_of_ble_eq_true rfl) dX6_layOffer_96 (fun H locs jP jD jS => ?_)
              obtain rfl := Option.some.inj hvt14
              exact hJt14 _ _ _ jP jD jS (lv_sub jl [0, 1, 2, 3, 4, 5] rfl)
            · have hvt14 := itp c11 hvt14
              refine lv_iload hx hb dX6_layOffer_85 (lv_at jl 4 rfl) ?_
              refine lv_goto (tgt := 99) hx hb dX6_layOffer_87 (by decide) ?_
              obtain rfl := Option.some.inj hvt14
              exact hJt14 _ _ _ jP jD jS (lv_sub jl [0, 1, 2, 3, 4, 5] rfl)
    exact hL6 1000 _ hT6 _ _ _ jP jD jS (lv_sub jl [2, 3, 4, 5, 1, 0] rfl)
  clear h
  refine lv_icmp_ne (tgt := 17) hx hb dX6_layOffer_2 (by decide) (fun c1 => ?_) (fun c1 => ?_)
  · have hvt5 := itn c1 hvt5
    refine lv_iconst (v := (0 : Int32)) hx hb dX6_layOffer_17 (by decide) ?_
    obtain rfl := Option.some.inj hvt5
    exact hJt5 _ _ _ jP jD jS (lv_sub jl [0, 1, 2, 3] rfl)
  · have hvt5 := itp c1 hvt5
    refine lv_aload_n hx hb dX6_layOffer_5 rfl (lv_at jl 0 rfl) ?_
    refine lv_iload_n hx hb dX6_layOffer_6 rfl (lv_at jl 3 rfl) ?_
    obtain ⟨t2, hc3, hvt5⟩ := bd_some hvt5
    refine callW (w1 := (mW cI uM aM M_x1 M_x2 M_x3 M_x4 M_x5 M_x6 M_x7 M_x8 M_x12 M_x14 M_x17 M_x18 M_x19 M_x20 M_x23 M_x27 M_x29 M_x33 M_g24 M_g25 M_g26 M_g28 M_r0 M_r9 M_r10 M_r11 M_r13 M_r15 M_r16 M_r21 M_r22 M_r30 M_r31 M_r32)) (As := [.int a3]) (rest := []) (st1 := [.int t2]) 0 F (kX6_isHeap l D cI cB cS uM aM M_x1 M_x2 M_x3 M_x4 M_x5 M_x6 M_x7 M_x8 M_x12 M_x14 M_x17 M_x18 M_x19 M_x20 M_x23 M_x27 M_x29 M_x33 M_g24 M_g25 M_g26 M_g28 M_r0 M_r9 M_r10 M_r11 M_r13 M_r15 M_r16 M_r21 M_r22 M_r30 M_r31 M_r32 a3 _ hc3 ) okX6_isHeap w_431 (by decide) (by decide) ⟨Nat.zero_le _, Nat.zero_le _⟩ rfl rfl rfl jP jD jS rfl jl.1 rfl rfl (Nat.le_of_ble_eq_true rfl) dX6_layOffer_7 (fun H locs jP jD jS => ?_)
    refine lv_if_eq (tgt := 17) hx hb dX6_layOffer_10 (by decide) (fun c4 => ?_) (fun c4 => ?_)
    · have hvt5 := itp c4 hvt5
      refine lv_iconst (v := (0 : Int32)) hx hb dX6_layOffer_17 (by decide) ?_
      obtain rfl := Option.some.inj hvt5
      exact hJt5 _ _ _ jP jD jS (lv_sub jl [0, 1, 2, 3] rfl)
    · have hvt5 := itn c4 hvt5
      refine lv_iconst (v := (1 : Int32)) hx hb dX6_layOffer_13 (by decide) ?_
      refine lv_goto (tgt := 18) hx hb dX6_layOffer_14 (by decide) ?_
      obtain rfl := Option.some.inj hvt5
      exact hJt5 _ _ _ jP jD jS (lv_sub jl [0, 1, 2, 3] rfl)
theorem okX6_comes : okV yX6_comes cX6_comes 5 (some .int) 4 := ⟨w_410, w_411, w_412, w_5, by decide, by decide, by decide +kernel⟩
def fX6_comes (M_g24 : Int64) (M_g25 : Int64) (M_g26 : Int64) (M_r11 : (Nat → Int32)) (M_r15 : (Nat → Int32)) (M_r21 : (Nat → Int32)) (M_r22 : (Nat → Int32)) (M_x12 : Int32) (M_x18 : Int32) (M_x19 : Int32) (M_x20 : Int32) (M_x23 : Int32) (a1 : Int32) (a2 : Int32) (a3 : Int32) (a4 : Int32) : Option (Int32 × Int64 × Int64 × Int64 × (Nat → Int32) × (Nat → Int32) × Int32 × Int32 × Int32) :=
  bd (fX6_isOffer a1 a2) (fun t1 => if t1 = (0 : Int32) then (some ((-1 : Int32), M_g24, M_g25, M_g26, M_r21, M_r22, M_x19, M_x20, M_x23)) else (bd (fX6_isPrice a3) (fun t4 => if t4 = (0 : Int32) then (some ((-1 : Int32), M_g24, M_g25, M_g26, M_r21, M_r22, M_x19, M_x20, M_x23)) else (bd (fX6_in a4.toInt64 (0 : Int64) (2 : Int64)) (fun t7 => if t7 = (0 : Int32) then (some ((-1 : Int32), M_g24, M_g25, M_g26, M_r21, M_r22, M_x19, M_x20, M_x23)) else (bd (fX6_layOffer (M_r11) (M_r15) (M_r21) (M_r22) (M_x12) (M_x18) a1 a2 a3) (fun t10 => if a4 = (0 : Int32) then (some (t10.2.2.2.2.2.1, t10.1, t10.2.1, t10.2.2.1, t10.2.2.2.1, t10.2.2.2.2.1, t10.2.2.2.2.2.1, t10.2.2.2.2.2.2.1, t10.2.2.2.2.2.2.2)) else (if a4 = (1 : Int32) then (some (t10.2.2.2.2.2.2.1, t10.1, t10.2.1, t10.2.2.1, t10.2.2.2.1, t10.2.2.2.2.1, t10.2.2.2.2.2.1, t10.2.2.2.2.2.2.1, t10.2.2.2.2.2.2.2)) else (some (t10.2.2.2.2.2.2.2, t10.1, t10.2.1, t10.2.2.1, t10.2.2.2.1, t10.2.2.2.2.1, t10.2.2.2.2.2.1, t10.2.2.2.2.2.2.1, t10.2.2.2.2.2.2.2))))))))))
set_option maxRecDepth 100000 in
set_option maxHeartbeats 4000000 in
theorem kX6_comes (l : Launch) (D : va_G) (cI cB cS : ClassId) (uM : Nat) (aM : Nat → Nat) (M_x1 : Int32) (M_x2 : Int32) (M_x3 : Int32) (M_x4 : Int32) (M_x5 : Int32) (M_x6 : Int32) (M_x7 : Int32) (M_x8 : Int32) (M_x12 : Int32) (M_x14 : Int32) (M_x17 : Int32) (M_x18 : Int32) (M_x19 : Int32) (M_x20 : Int32) (M_x23 : Int32) (M_x27 : Int32) (M_x29 : Int32) (M_x33 : Int32) (M_g24 : Int64) (M_g25 : Int64) (M_g26 : Int64) (M_g28 : Int64) (M_r0 : (Nat → Int32)) (M_r9 : (Nat → Int32)) (M_r10 : (Nat → Int32)) (M_r11 : (Nat → Int32)) (M_r13 : (Nat → Int32)) (M_r15 : (Nat → Int32)) (M_r16 : (Nat → Int32)) (M_r21 : (Nat → Int32)) (M_r22 : (Nat → Int32)) (M_r30 : (Nat → Int32)) (M_r31 : (Nat → Int32)) (M_r32 : (Nat → Int32)) (a1 : Int32) (a2 : Int32) (a3 : Int32) (a4 : Int32) (z : (Int32 × Int64 × Int64 × Int64 × (Nat → Int32) × (Nat → Int32) × Int32 × Int32 × Int32)) (h : fX6_comes M_g24 M_g25 M_g26 M_r11 M_r15 M_r21 M_r22 M_x12 M_x18 M_x19 M_x20 M_x23 a1 a2 a3 a4 = some z) : Mt l yX6_comes cX6_comes 5 (some .int) 4 92 D cI cB cS (mW cI uM aM M_x1 M_x2 M_x3 M_x4 M_x5 M_x6 M_x7 M_x8 M_x12 M_x14 M_x17 M_x18 M_x19 M_x20 M_x23 M_x27 M_x29 M_x33 M_g24 M_g25 M_g26 M_g28 M_r0 M_r9 M_r10 M_r11 M_r13 M_r15 M_r16 M_r21 M_r22 M_r30 M_r31 M_r32) (mW cI uM aM M_x1 M_x2 M_x3 M_x4 M_x5 M_x6 M_x7 M_x8 M_x12 M_x14 M_x17 M_x18 z.2.2.2.2.2.2.1 z.2.2.2.2.2.2.2.1 z.2.2.2.2.2.2.2.2 M_x27 M_x29 M_x33 z.2.1 z.2.2.1 z.2.2.2.1 M_g28 M_r0 M_r9 M_r10 M_r11 M_r13 M_r15 M_r16 z.2.2.2.2.1 z.2.2.2.2.2.1 M_r30 M_r31 M_r32) [.ref uM, .int a1, .int a2, .int a3, .int a4] (some (.int z.1)) := by
  refine entryI (by decide +kernel) rfl (Nat.le_of_ble_eq_true rfl) ?_
  intro p e s m below meth c A ls QQ R ar F hRet jP jD jS jl
  obtain ⟨hx, hb, hml, hown, hts, jK, hA, hf1, hf2⟩ := id F
  have jl : lv_has ls 5 [(0, .ref uM), (1, .int a1), (2, .int a2), (3, .int a3), (4, .int a4)] := jl
  unfold fX6_comes at h
  refine lv_iload_n hx hb dX6_comes_0 rfl (lv_at jl 1 rfl) ?_
  refine lv_iload_n hx hb dX6_comes_1 rfl (lv_at jl 2 rfl) ?_
  obtain ⟨t1, hc2, h⟩ := bd_some h
  refine call0 (As := [.int a1, .int a2]) (rest := []) (st1 := [.int t1]) F (kX6_isOffer l D cI cB cS  a1 a2 _ hc2 ) okX6_isOffer w_417 (by decide) (by decide) ⟨Nat.zero_le _, Nat.zero_le _⟩ jP jD jS rfl jl.1 rfl rfl (Nat.le_of_ble_eq_true rfl) dX6_comes_2 (fun H locs jP jD jS => ?_)
  refine lv_if_eq (tgt := 28) hx hb dX6_comes_5 (by decide) (fun c3 => ?_) (fun c3 => ?_)
  · have h := itp c3 h
    refine lv_iconst (v := (-1 : Int32)) hx hb dX6_comes_28 (by decide) ?_
    obtain rfl := Option.some.inj h
    exact hRet _ _ _ _ jP jD jS dX6_comes_29
  · have h := itn c3 h
    refine lv_iload_n hx hb dX6_comes_8 rfl (lv_at jl 3 rfl) ?_
    obtain ⟨t4, hc5, h⟩ := bd_some h
    refine call0 (As := [.int a3]) (rest := []) (st1 := [.int t4]) F (kX6_isPrice l D cI cB cS  a3 _ hc5 ) okX6_isPrice w_420 (by decide) (by decide) ⟨Nat.zero_le _, Nat.zero_le _⟩ jP jD jS rfl jl.1 rfl rfl (Nat.le_of_ble_eq_true rfl) dX6_comes_9 (fun H locs jP jD jS => ?_)
    refine lv_if_eq (tgt := 28) hx hb dX6_comes_12 (by decide) (fun c6 => ?_) (fun c6 => ?_)
    · have h := itp c6 h
      refine lv_iconst (v := (-1 : Int32)) hx hb dX6_comes_28 (by decide) ?_
      obtain rfl := Option.some.inj h
      exact hRet _ _ _ _ jP jD jS dX6_comes_29
    · have h := itn c6 h
      refine lv_iload hx hb dX6_comes_15 (lv_at jl 4 rfl) ?_
      refine lv_i2l (v := a4.toInt64) hx hb dX6_comes_17 rfl ?_
      refine lv_lconst (v := (0 : Int64)) hx hb dX6_comes_18 (by decide) ?_
      refine lv_ldc2 (v := (2 : Int64)) hx hb hown (hts _ w_413) dX6_comes_19 ?_
      obtain ⟨t7, hc8, h⟩ := bd_some h
      refine call0 (As := [.long a4.toInt64, .long (0 : Int64), .long (2 : Int64)]) (rest := []) (st1 := [.int t7]) F (kX6_in l D cI cB cS  a4.toInt64 (0 : Int64) (2 : Int64) _ hc8 ) okX6_in w_112 (by decide) (by decide) ⟨Nat.zero_le _, Nat.zero_le _⟩ jP jD jS rfl jl.1 rfl rfl (Nat.le_of_ble_eq_true rfl) dX6_comes_22 (fun H locs jP jD jS => ?_)
      refine lv_if_ne (tgt := 30) hx hb dX6_comes_25 (by decide) (fun c9 => ?_) (fun c9 => ?_)
      · have h := itn c9 h
        refine lv_aload_n hx hb dX6_comes_30 rfl (lv_at jl 0 rfl) ?_
        refine lv_iload_n hx hb dX6_comes_31 rfl (lv_at jl 1 rfl) ?_
        refine lv_iload_n hx hb dX6_comes_32 rfl (lv_at jl 2 rfl) ?_
        refine lv_iload_n hx hb dX6_comes_33 rfl (lv_at jl 3 rfl) ?_
        obtain ⟨t10, hc11, h⟩ := bd_some h
        refine callW (w1 := (mW cI uM aM M_x1 M_x2 M_x3 M_x4 M_x5 M_x6 M_x7 M_x8 M_x12 M_x14 M_x17 M_x18 t10.2.2.2.2.2.1 t10.2.2.2.2.2.2.1 t10.2.2.2.2.2.2.2 M_x27 M_x29 M_x33 t10.1 t10.2.1 t10.2.2.1 M_g28 M_r0 M_r9 M_r10 M_r11 M_r13 M_r15 M_r16 t10.2.2.2.1 t10.2.2.2.2.1 M_r30 M_r31 M_r32)) (As := [.int a1, .int a2, .int a3]) (rest := []) (st1 := []) 0 F (kX6_layOffer l D cI cB cS uM aM M_x1 M_x2 M_x3 M_x4 M_x5 M_x6 M_x7 M_x8 M_x12 M_x14 M_x17 M_x18 M_x19 M_x20 M_x23 M_x27 M_x29 M_x33 M_g24 M_g25 M_g26 M_g28 M_r0 M_r9 M_r10 M_r11 M_r13 M_r15 M_r16 M_r21 M_r22 M_r30 M_r31 M_r32 a1 a2 a3 _ hc11 ) okX6_layOffer w_423 (by decide) (by decide) ⟨Nat.zero_le _, Nat.zero_le _⟩ rfl rfl rfl jP jD jS rfl jl.1 rfl rfl (Nat.le_of_ble_eq_true rfl) dX6_comes_34 (fun H locs jP jD jS => ?_)
        refine lv_iload hx hb dX6_comes_37 (lv_at jl 4 rfl) ?_
        refine lv_if_ne (tgt := 49) hx hb dX6_comes_39 (by decide) (fun c12 => ?_) (fun c12 => ?_)
        · have h := itn c12 h
          refine lv_iload hx hb dX6_comes_49 (lv_at jl 4 rfl) ?_
          refine lv_iconst (v := (1 : Int32)) hx hb dX6_comes_51 (by decide) ?_
          refine lv_icmp_ne (tgt := 62) hx hb dX6_comes_52 (by decide) (fun c13 => ?_) (fun c13 => ?_)
          · have h := itn c13 h
            refine lv_aload_n hx hb dX6_comes_62 rfl (lv_at jl 0 rfl) ?_
            refine va_get (D := D) (ci := 6) (v := .int t10.2.2.2.2.2.2.2) (C := RX6) (T := TX6) (N := 34) hx hb hts in6 hown jK.1 jP 0 rfl rfl 23 (by decide) (hts _ w_416) (fun _ h9 => h9) rfl dX6_comes_63 ?_
            obtain rfl := Option.some.inj h
            exact hRet _ _ _ _ jP jD jS dX6_comes_66
          · have h := itp c13 h
            refine lv_aload_n hx hb dX6_comes_55 rfl (lv_at jl 0 rfl) ?_
            refine va_get (D := D) (ci := 6) (v := .int t10.2.2.2.2.2.2.1) (C := RX6) (T := TX6) (N := 34) hx hb hts in6 hown jK.1 jP 0 rfl rfl 20 (by decide) (hts _ w_415) (fun _ h9 => h9) rfl dX6_comes_56 ?_
            refine lv_goto (tgt := 66) hx hb dX6_comes_59 (by decide) ?_
            obtain rfl := Option.some.inj h
            exact hRet _ _ _ _ jP jD jS dX6_comes_66
        · have h := itp c12 h
          refine lv_aload_n hx hb dX6_comes_42 rfl (lv_at jl 0 rfl) ?_
          refine va_get (D := D) (ci := 6) (v := .int t10.2.2.2.2.2.1) (C := RX6) (T := TX6) (N := 34) hx hb hts in6 hown jK.1 jP 0 rfl rfl 19 (by decide) (hts _ w_414) (fun _ h9 => h9) rfl dX6_comes_43 ?_
          refine lv_goto (tgt := 66) hx hb dX6_comes_46 (by decide) ?_
          obtain rfl := Option.some.inj h
          exact hRet _ _ _ _ jP jD jS dX6_comes_66
      · have h := itp c9 h
        refine lv_iconst (v := (-1 : Int32)) hx hb dX6_comes_28 (by decide) ?_
        obtain rfl := Option.some.inj h
        exact hRet _ _ _ _ jP jD jS dX6_comes_29
theorem okX6_sold : okV yX6_sold cX6_sold 5 (some .int) 4 := ⟨w_453, w_454, w_455, w_5, by decide, by decide, by decide +kernel⟩
def fX6_sold (M_g24 : Int64) (M_g25 : Int64) (M_g26 : Int64) (M_r11 : (Nat → Int32)) (M_r15 : (Nat → Int32)) (M_r21 : (Nat → Int32)) (M_r22 : (Nat → Int32)) (M_x12 : Int32) (M_x18 : Int32) (M_x19 : Int32) (M_x20 : Int32) (M_x23 : Int32) (a1 : Int32) (a2 : Int32) (a3 : Int32) (a4 : Int32) : Option (Int32 × Int64 × Int64 × Int64 × (Nat → Int32) × (Nat → Int32) × Int32 × Int32 × Int32) :=
  bd (fX6_isOffer a1 a2) (fun t1 => if t1 = (0 : Int32) then (some ((-1 : Int32), M_g24, M_g25, M_g26, M_r21, M_r22, M_x19, M_x20, M_x23)) else (bd (fX6_isPrice a3) (fun t4 => if t4 = (0 : Int32) then (some ((-1 : Int32), M_g24, M_g25, M_g26, M_r21, M_r22, M_x19, M_x20, M_x23)) else (bd (fX6_isSort (M_x12) a4) (fun t7 => if t7 = (0 : Int32) then (some ((-1 : Int32), M_g24, M_g25, M_g26, M_r21, M_r22, M_x19, M_x20, M_x23)) else (bd (fX6_layOffer (M_r11) (M_r15) (M_r21) (M_r22) (M_x12) (M_x18) a1 a2 a3) (fun t10 => ckI a4 8 (some ((t10.2.2.2.2.1 a4.toNatClampNeg), t10.1, t10.2.1, t10.2.2.1, t10.2.2.2.1, t10.2.2.2.2.1, t10.2.2.2.2.2.1, t10.2.2.2.2.2.2.1, t10.2.2.2.2.2.2.2)))))))))
set_option maxRecDepth 100000 in
set_option maxHeartbeats 4000000 in
theorem kX6_sold (l : Launch) (D : va_G) (cI cB cS : ClassId) (uM : Nat) (aM : Nat → Nat) (M_x1 : Int32) (M_x2 : Int32) (M_x3 : Int32) (M_x4 : Int32) (M_x5 : Int32) (M_x6 : Int32) (M_x7 : Int32) (M_x8 : Int32) (M_x12 : Int32) (M_x14 : Int32) (M_x17 : Int32) (M_x18 : Int32) (M_x19 : Int32) (M_x20 : Int32) (M_x23 : Int32) (M_x27 : Int32) (M_x29 : Int32) (M_x33 : Int32) (M_g24 : Int64) (M_g25 : Int64) (M_g26 : Int64) (M_g28 : Int64) (M_r0 : (Nat → Int32)) (M_r9 : (Nat → Int32)) (M_r10 : (Nat → Int32)) (M_r11 : (Nat → Int32)) (M_r13 : (Nat → Int32)) (M_r15 : (Nat → Int32)) (M_r16 : (Nat → Int32)) (M_r21 : (Nat → Int32)) (M_r22 : (Nat → Int32)) (M_r30 : (Nat → Int32)) (M_r31 : (Nat → Int32)) (M_r32 : (Nat → Int32)) (a1 : Int32) (a2 : Int32) (a3 : Int32) (a4 : Int32) (z : (Int32 × Int64 × Int64 × Int64 × (Nat → Int32) × (Nat → Int32) × Int32 × Int32 × Int32)) (h : fX6_sold M_g24 M_g25 M_g26 M_r11 M_r15 M_r21 M_r22 M_x12 M_x18 M_x19 M_x20 M_x23 a1 a2 a3 a4 = some z) : Mt l yX6_sold cX6_sold 5 (some .int) 4 92 D cI cB cS (mW cI uM aM M_x1 M_x2 M_x3 M_x4 M_x5 M_x6 M_x7 M_x8 M_x12 M_x14 M_x17 M_x18 M_x19 M_x20 M_x23 M_x27 M_x29 M_x33 M_g24 M_g25 M_g26 M_g28 M_r0 M_r9 M_r10 M_r11 M_r13 M_r15 M_r16 M_r21 M_r22 M_r30 M_r31 M_r32) (mW cI uM aM M_x1 M_x2 M_x3 M_x4 M_x5 M_x6 M_x7 M_x8 M_x12 M_x14 M_x17 M_x18 z.2.2.2.2.2.2.1 z.2.2.2.2.2.2.2.1 z.2.2.2.2.2.2.2.2 M_x27 M_x29 M_x33 z.2.1 z.2.2.1 z.2.2.2.1 M_g28 M_r0 M_r9 M_r10 M_r11 M_r13 M_r15 M_r16 z.2.2.2.2.1 z.2.2.2.2.2.1 M_r30 M_r31 M_r32) [.ref uM, .int a1, .int a2, .int a3, .int a4] (some (.int z.1)) := by
  refine entryI (by decide +kernel) rfl (Nat.le_of_ble_eq_true rfl) ?_
  intro p e s m below meth c A ls QQ R ar F hRet jP jD jS jl
  obtain ⟨hx, hb, hml, hown, hts, jK, hA, hf1, hf2⟩ := id F
  have jl : lv_has ls 5 [(0, .ref uM), (1, .int a1), (2, .int a2), (3, .int a3), (4, .int a4)] := jl
  unfold fX6_sold at h
  refine lv_iload_n hx hb dX6_sold_0 rfl (lv_at jl 1 rfl) ?_
  refine lv_iload_n hx hb dX6_sold_1 rfl (lv_at jl 2 rfl) ?_
  obtain ⟨t1, hc2, h⟩ := bd_some h
  refine call0 (As := [.int a1, .int a2]) (rest := []) (st1 := [.int t1]) F (kX6_isOffer l D cI cB cS  a1 a2 _ hc2 ) okX6_isOffer w_417 (by decide) (by decide) ⟨Nat.zero_le _, Nat.zero_le _⟩ jP jD jS rfl jl.1 rfl rfl (Nat.le_of_ble_eq_true rfl) dX6_sold_2 (fun H locs jP jD jS => ?_)
  refine lv_if_eq (tgt := 24) hx hb dX6_sold_5 (by decide) (fun c3 => ?_) (fun c3 => ?_)
  · have h := itp c3 h
    refine lv_iconst (v := (-1 : Int32)) hx hb dX6_sold_24 (by decide) ?_
    obtain rfl := Option.some.inj h
    exact hRet _ _ _ _ jP jD jS dX6_sold_25
  · have h := itn c3 h
    refine lv_iload_n hx hb dX6_sold_8 rfl (lv_at jl 3 rfl) ?_
    obtain ⟨t4, hc5, h⟩ := bd_some h
    refine call0 (As := [.int a3]) (rest := []) (st1 := [.int t4]) F (kX6_isPrice l D cI cB cS  a3 _ hc5 ) okX6_isPrice w_420 (by decide) (by decide) ⟨Nat.zero_le _, Nat.zero_le _⟩ jP jD jS rfl jl.1 rfl rfl (Nat.le_of_ble_eq_true rfl) dX6_sold_9 (fun H locs jP jD jS => ?_)
    refine lv_if_eq (tgt := 24) hx hb dX6_sold_12 (by decide) (fun c6 => ?_) (fun c6 => ?_)
    · have h := itp c6 h
      refine lv_iconst (v := (-1 : Int32)) hx hb dX6_sold_24 (by decide) ?_
      obtain rfl := Option.some.inj h
      exact hRet _ _ _ _ jP jD jS dX6_sold_25
    · have h := itn c6 h
      refine lv_aload_n hx hb dX6_sold_15 rfl (lv_at jl 0 rfl) ?_
      refine lv_iload hx hb dX6_sold_16 (lv_at jl 4 rfl) ?_
      obtain ⟨t7, hc8, h⟩ := bd_some h
      refine callW (w1 := (mW cI uM aM M_x1 M_x2 M_x3 M_x4 M_x5 M_x6 M_x7 M_x8 M_x12 M_x14 M_x17 M_x18 M_x19 M_x20 M_x23 M_x27 M_x29 M_x33 M_g24 M_g25 M_g26 M_g28 M_r0 M_r9 M_r10 M_r11 M_r13 M_r15 M_r16 M_r21 M_r22 M_r30 M_r31 M_r32)) (As := [.int a4]) (rest := []) (st1 := [.int t7]) 0 F (kX6_isSort l D cI cB cS uM aM M_x1 M_x2 M_x3 M_x4 M_x5 M_x6 M_x7 M_x8 M_x12 M_x14 M_x17 M_x18 M_x19 M_x20 M_x23 M_x27 M_x29 M_x33 M_g24 M_g25 M_g26 M_g28 M_r0 M_r9 M_r10 M_r11 M_r13 M_r15 M_r16 M_r21 M_r22 M_r30 M_r31 M_r32 a4 _ hc8 ) okX6_isSort w_316 (by decide) (by decide) ⟨Nat.zero_le _, Nat.zero_le _⟩ rfl rfl rfl jP jD jS rfl jl.1 rfl rfl (Nat.le_of_ble_eq_true rfl) dX6_sold_18 (fun H locs jP jD jS => ?_)
      refine lv_if_ne (tgt := 26) hx hb dX6_sold_21 (by decide) (fun c9 => ?_) (fun c9 => ?_)
      · have h := itn c9 h
        refine lv_aload_n hx hb dX6_sold_26 rfl (lv_at jl 0 rfl) ?_
        refine lv_iload_n hx hb dX6_sold_27 rfl (lv_at jl 1 rfl) ?_
        refine lv_iload_n hx hb dX6_sold_28 rfl (lv_at jl 2 rfl) ?_
        refine lv_iload_n hx hb dX6_sold_29 rfl (lv_at jl 3 rfl) ?_
        obtain ⟨t10, hc11, h⟩ := bd_some h
        refine callW (w1 := (mW cI uM aM M_x1 M_x2 M_x3 M_x4 M_x5 M_x6 M_x7 M_x8 M_x12 M_x14 M_x17 M_x18 t10.2.2.2.2.2.1 t10.2.2.2.2.2.2.1 t10.2.2.2.2.2.2.2 M_x27 M_x29 M_x33 t10.1 t10.2.1 t10.2.2.1 M_g28 M_r0 M_r9 M_r10 M_r11 M_r13 M_r15 M_r16 t10.2.2.2.1 t10.2.2.2.2.1 M_r30 M_r31 M_r32)) (As := [.int a1, .int a2, .int a3]) (rest := []) (st1 := []) 0 F (kX6_layOffer l D cI cB cS uM aM M_x1 M_x2 M_x3 M_x4 M_x5 M_x6 M_x7 M_x8 M_x12 M_x14 M_x17 M_x18 M_x19 M_x20 M_x23 M_x27 M_x29 M_x33 M_g24 M_g25 M_g26 M_g28 M_r0 M_r9 M_r10 M_r11 M_r13 M_r15 M_r16 M_r21 M_r22 M_r30 M_r31 M_r32 a1 a2 a3 _ hc11 ) okX6_layOffer w_423 (by decide) (by decide) ⟨Nat.zero_le _, Nat.zero_le _⟩ rfl rfl rfl jP jD jS rfl jl.1 rfl rfl (Nat.le_of_ble_eq_true rfl) dX6_sold_30 (fun H locs jP jD jS => ?_)
        refine lv_aload_n hx hb dX6_sold_33 rfl (lv_at jl 0 rfl) ?_
        refine va_get (D := D) (ci := 6) (v := .ref (aM 22)) (C := RX6) (T := TX6) (N := 34) hx hb hts in6 hown jK.1 jP 0 rfl rfl 22 (by decide) (hts _ w_86) (fun _ h9 => h9) rfl dX6_sold_34 ?_
        refine lv_iload hx hb dX6_sold_37 (lv_at jl 4 rfl) ?_
        obtain ⟨hin, h⟩ := ckI_some h
        refine va_iald (f := t10.2.2.2.2.1) hx hb jK.1 jP 9 0 rfl rfl hin dX6_sold_39 ?_
        obtain rfl := Option.some.inj h
        exact hRet _ _ _ _ jP jD jS dX6_sold_40
      · have h := itp c9 h
        refine lv_iconst (v := (-1 : Int32)) hx hb dX6_sold_24 (by decide) ?_
        obtain rfl := Option.some.inj h
        exact hRet _ _ _ _ jP jD jS dX6_sold_25
theorem okX6_thought : okV yX6_thought cX6_thought 5 (some .int) 4 := ⟨w_475, w_476, w_477, w_5, by decide, by decide, by decide +kernel⟩
def fX6_thought (M_g24 : Int64) (M_g25 : Int64) (M_g26 : Int64) (M_r11 : (Nat → Int32)) (M_r15 : (Nat → Int32)) (M_r21 : (Nat → Int32)) (M_r22 : (Nat → Int32)) (M_x12 : Int32) (M_x18 : Int32) (M_x19 : Int32) (M_x20 : Int32) (M_x23 : Int32) (a1 : Int32) (a2 : Int32) (a3 : Int32) (a4 : Int32) : Option (Int32 × Int64 × Int64 × Int64 × (Nat → Int32) × (Nat → Int32) × Int32 × Int32 × Int32) :=
  bd (fX6_isOffer a1 a2) (fun t1 => if t1 = (0 : Int32) then (some ((-1000000000 : Int32), M_g24, M_g25, M_g26, M_r21, M_r22, M_x19, M_x20, M_x23)) else (bd (fX6_isPrice a3) (fun t4 => if t4 = (0 : Int32) then (some ((-1000000000 : Int32), M_g24, M_g25, M_g26, M_r21, M_r22, M_x19, M_x20, M_x23)) else (bd (fX6_in a4.toInt64 (0 : Int64) (1 : Int64)) (fun t7 => if t7 = (0 : Int32) then (some ((-1000000000 : Int32), M_g24, M_g25, M_g26, M_r21, M_r22, M_x19, M_x20, M_x23)) else (bd (fX6_layOffer (M_r11) (M_r15) (M_r21) (M_r22) (M_x12) (M_x18) a1 a2 a3) (fun t10 => if t10.2.2.2.2.2.2.2 = (0 : Int32) then (some ((-1000000004 : Int32), t10.1, t10.2.1, t10.2.2.1, t10.2.2.2.1, t10.2.2.2.2.1, t10.2.2.2.2.2.1, t10.2.2.2.2.2.2.1, t10.2.2.2.2.2.2.2)) else (bd (fX6_lowest t10.1 t10.2.1 a4) (fun t13 => some (t13.toInt32, t10.1, t10.2.1, t10.2.2.1, t10.2.2.2.1, t10.2.2.2.2.1, t10.2.2.2.2.2.1, t10.2.2.2.2.2.2.1, t10.2.2.2.2.2.2.2))))))))))
set_option maxRecDepth 100000 in
set_option maxHeartbeats 4000000 in
theorem kX6_thought (l : Launch) (D : va_G) (cI cB cS : ClassId) (uM : Nat) (aM : Nat → Nat) (M_x1 : Int32) (M_x2 : Int32) (M_x3 : Int32) (M_x4 : Int32) (M_x5 : Int32) (M_x6 : Int32) (M_x7 : Int32) (M_x8 : Int32) (M_x12 : Int32) (M_x14 : Int32) (M_x17 : Int32) (M_x18 : Int32) (M_x19 : Int32) (M_x20 : Int32) (M_x23 : Int32) (M_x27 : Int32) (M_x29 : Int32) (M_x33 : Int32) (M_g24 : Int64) (M_g25 : Int64) (M_g26 : Int64) (M_g28 : Int64) (M_r0 : (Nat → Int32)) (M_r9 : (Nat → Int32)) (M_r10 : (Nat → Int32)) (M_r11 : (Nat → Int32)) (M_r13 : (Nat → Int32)) (M_r15 : (Nat → Int32)) (M_r16 : (Nat → Int32)) (M_r21 : (Nat → Int32)) (M_r22 : (Nat → Int32)) (M_r30 : (Nat → Int32)) (M_r31 : (Nat → Int32)) (M_r32 : (Nat → Int32)) (a1 : Int32) (a2 : Int32) (a3 : Int32) (a4 : Int32) (z : (Int32 × Int64 × Int64 × Int64 × (Nat → Int32) × (Nat → Int32) × Int32 × Int32 × Int32)) (h : fX6_thought M_g24 M_g25 M_g26 M_r11 M_r15 M_r21 M_r22 M_x12 M_x18 M_x19 M_x20 M_x23 a1 a2 a3 a4 = some z) : Mt l yX6_thought cX6_thought 5 (some .int) 4 92 D cI cB cS (mW cI uM aM M_x1 M_x2 M_x3 M_x4 M_x5 M_x6 M_x7 M_x8 M_x12 M_x14 M_x17 M_x18 M_x19 M_x20 M_x23 M_x27 M_x29 M_x33 M_g24 M_g25 M_g26 M_g28 M_r0 M_r9 M_r10 M_r11 M_r13 M_r15 M_r16 M_r21 M_r22 M_r30 M_r31 M_r32) (mW cI uM aM M_x1 M_x2 M_x3 M_x4 M_x5 M_x6 M_x7 M_x8 M_x12 M_x14 M_x17 M_x18 z.2.2.2.2.2.2.1 z.2.2.2.2.2.2.2.1 z.2.2.2.2.2.2.2.2 M_x27 M_x29 M_x33 z.2.1 z.2.2.1 z.2.2.2.1 M_g28 M_r0 M_r9 M_r10 M_r11 M_r13 M_r15 M_r16 z.2.2.2.2.1 z.2.2.2.2.2.1 M_r30 M_r31 M_r32) [.ref uM, .int a1, .int a2, .int a3, .int a4] (some (.int z.1)) := by
  refine entryI (by decide +kernel) rfl (Nat.le_of_ble_eq_true rfl) ?_
  intro p e s m below meth c A ls QQ R ar F hRet jP jD jS jl
  obtain ⟨hx, hb, hml, hown, hts, jK, hA, hf1, hf2⟩ := id F
  have jl : lv_has ls 5 [(0, .ref uM), (1, .int a1), (2, .int a2), (3, .int a3), (4, .int a4)] := jl
  unfold fX6_thought at h
  refine lv_iload_n hx hb dX6_thought_0 rfl (lv_at jl 1 rfl) ?_
  refine lv_iload_n hx hb dX6_thought_1 rfl (lv_at jl 2 rfl) ?_
  obtain ⟨t1, hc2, h⟩ := bd_some h
  refine call0 (As := [.int a1, .int a2]) (rest := []) (st1 := [.int t1]) F (kX6_isOffer l D cI cB cS  a1 a2 _ hc2 ) okX6_isOffer w_417 (by decide) (by decide) ⟨Nat.zero_le _, Nat.zero_le _⟩ jP jD jS rfl jl.1 rfl rfl (Nat.le_of_ble_eq_true rfl) dX6_thought_2 (fun H locs jP jD jS => ?_)
  refine lv_if_eq (tgt := 26) hx hb dX6_thought_5 (by decide) (fun c3 => ?_) (fun c3 => ?_)
  · have h := itp c3 h
    refine lv_ldc (v := (-1000000000 : Int32)) hx hb hown (hts _ w_478) dX6_thought_26 ?_
    obtain rfl := Option.some.inj h
    exact hRet _ _ _ _ jP jD jS dX6_thought_28
  · have h := itn c3 h
    refine lv_iload_n hx hb dX6_thought_8 rfl (lv_at jl 3 rfl) ?_
    obtain ⟨t4, hc5, h⟩ := bd_some h
    refine call0 (As := [.int a3]) (rest := []) (st1 := [.int t4]) F (kX6_isPrice l D cI cB cS  a3 _ hc5 ) okX6_isPrice w_420 (by decide) (by decide) ⟨Nat.zero_le _, Nat.zero_le _⟩ jP jD jS rfl jl.1 rfl rfl (Nat.le_of_ble_eq_true rfl) dX6_thought_9 (fun H locs jP jD jS => ?_)
    refine lv_if_eq (tgt := 26) hx hb dX6_thought_12 (by decide) (fun c6 => ?_) (fun c6 => ?_)
    · have h := itp c6 h
      refine lv_ldc (v := (-1000000000 : Int32)) hx hb hown (hts _ w_478) dX6_thought_26 ?_
      obtain rfl := Option.some.inj h
      exact hRet _ _ _ _ jP jD jS dX6_thought_28
    · have h := itn c6 h
      refine lv_iload hx hb dX6_thought_15 (lv_at jl 4 rfl) ?_
      refine lv_i2l (v := a4.toInt64) hx hb dX6_thought_17 rfl ?_
      refine lv_lconst (v := (0 : Int64)) hx hb dX6_thought_18 (by decide) ?_
      refine lv_lconst (v := (1 : Int64)) hx hb dX6_thought_19 (by decide) ?_
      obtain ⟨t7, hc8, h⟩ := bd_some h
      refine call0 (As := [.long a4.toInt64, .long (0 : Int64), .long (1 : Int64)]) (rest := []) (st1 := [.int t7]) F (kX6_in l D cI cB cS  a4.toInt64 (0 : Int64) (1 : Int64) _ hc8 ) okX6_in w_112 (by decide) (by decide) ⟨Nat.zero_le _, Nat.zero_le _⟩ jP jD jS rfl jl.1 rfl rfl (Nat.le_of_ble_eq_true rfl) dX6_thought_20 (fun H locs jP jD jS => ?_)
      refine lv_if_ne (tgt := 29) hx hb dX6_thought_23 (by decide) (fun c9 => ?_) (fun c9 => ?_)
      · have h := itn c9 h
        refine lv_aload_n hx hb dX6_thought_29 rfl (lv_at jl 0 rfl) ?_
        refine lv_iload_n hx hb dX6_thought_30 rfl (lv_at jl 1 rfl) ?_
        refine lv_iload_n hx hb dX6_thought_31 rfl (lv_at jl 2 rfl) ?_
        refine lv_iload_n hx hb dX6_thought_32 rfl (lv_at jl 3 rfl) ?_
        obtain ⟨t10, hc11, h⟩ := bd_some h
        refine callW (w1 := (mW cI uM aM M_x1 M_x2 M_x3 M_x4 M_x5 M_x6 M_x7 M_x8 M_x12 M_x14 M_x17 M_x18 t10.2.2.2.2.2.1 t10.2.2.2.2.2.2.1 t10.2.2.2.2.2.2.2 M_x27 M_x29 M_x33 t10.1 t10.2.1 t10.2.2.1 M_g28 M_r0 M_r9 M_r10 M_r11 M_r13 M_r15 M_r16 t10.2.2.2.1 t10.2.2.2.2.1 M_r30 M_r31 M_r32)) (As := [.int a1, .int a2, .int a3]) (rest := []) (st1 := []) 0 F (kX6_layOffer l D cI cB cS uM aM M_x1 M_x2 M_x3 M_x4 M_x5 M_x6 M_x7 M_x8 M_x12 M_x14 M_x17 M_x18 M_x19 M_x20 M_x23 M_x27 M_x29 M_x33 M_g24 M_g25 M_g26 M_g28 M_r0 M_r9 M_r10 M_r11 M_r13 M_r15 M_r16 M_r21 M_r22 M_r30 M_r31 M_r32 a1 a2 a3 _ hc11 ) okX6_layOffer w_423 (by decide) (by decide) ⟨Nat.zero_le _, Nat.zero_le _⟩ rfl rfl rfl jP jD jS rfl jl.1 rfl rfl (Nat.le_of_ble_eq_true rfl) dX6_thought_33 (fun H locs jP jD jS => ?_)
        refine lv_aload_n hx hb dX6_thought_36 rfl (lv_at jl 0 rfl) ?_
        refine va_get (D := D) (ci := 6) (v := .int t10.2.2.2.2.2.2.2) (C := RX6) (T := TX6) (N := 34) hx hb hts in6 hown jK.1 jP 0 rfl rfl 23 (by decide) (hts _ w_416) (fun _ h9 => h9) rfl dX6_thought_37 ?_
        refine lv_if_ne (tgt := 48) hx hb dX6_thought_40 (by decide) (fun c12 => ?_) (fun c12 => ?_)
        · have h := itn c12 h
          refine lv_aload_n hx hb dX6_thought_48 rfl (lv_at jl 0 rfl) ?_
          refine va_get (D := D) (ci := 6) (v := .long t10.1) (C := RX6) (T := TX6) (N := 34) hx hb hts in6 hown jK.1 jP 0 rfl rfl 24 (by decide) (hts _ w_427) (fun _ h9 => h9) rfl dX6_thought_49 ?_
          refine lv_aload_n hx hb dX6_thought_52 rfl (lv_at jl 0 rfl) ?_
          refine va_get (D := D) (ci := 6) (v := .long t10.2.1) (C := RX6) (T := TX6) (N := 34) hx hb hts in6 hown jK.1 jP 0 rfl rfl 25 (by decide) (hts _ w_430) (fun _ h9 => h9) rfl dX6_thought_53 ?_
          refine lv_iload hx hb dX6_thought_56 (lv_at jl 4 rfl) ?_
          obtain ⟨t13, hc14, h⟩ := bd_some h
          refine call0 (As := [.long t10.1, .long t10.2.1, .int a4]) (rest := []) (st1 := [.long t13]) F (kX6_lowest l D cI cB cS  t10.1 t10.2.1 a4 _ hc14 ) okX6_lowest w_480 (by decide) (by decide) ⟨Nat.zero_le _, Nat.zero_le _⟩ jP jD jS rfl jl.1 rfl rfl (Nat.le_of_ble_eq_true rfl) dX6_thought_58 (fun H locs jP jD jS => ?_)
          refine lv_l2i (v := t13.toInt32) hx hb dX6_thought_61 rfl ?_
          obtain rfl := Option.some.inj h
          exact hRet _ _ _ _ jP jD jS dX6_thought_62
        · have h := itp c12 h
          refine lv_ldc (v := (-1000000004 : Int32)) hx hb hown (hts _ w_479) dX6_thought_43 ?_
          refine lv_goto (tgt := 62) hx hb dX6_thought_45 (by decide) ?_
          obtain rfl := Option.some.inj h
          exact hRet _ _ _ _ jP jD jS dX6_thought_62
      · have h := itp c9 h
        refine lv_ldc (v := (-1000000000 : Int32)) hx hb hown (hts _ w_478) dX6_thought_26 ?_
        obtain rfl := Option.some.inj h
        exact hRet _ _ _ _ jP jD jS dX6_thought_28
theorem okX6_doesRest : okV yX6_doesRest cX6_doesRest 4 (some .boolean) 3 := ⟨w_501, w_502, w_503, w_5, by decide, by decide, by decide +kernel⟩
def fX6_doesRest (M_r11 : (Nat → Int32)) (M_r15 : (Nat → Int32)) (M_r21 : (Nat → Int32)) (M_r22 : (Nat → Int32)) (M_x12 : Int32) (M_x18 : Int32) (a1 : Int32) (a2 : Int32) (a3 : Int32) : Option (Int32 × Int64 × Int64 × Int64 × (Nat → Int32) × (Nat → Int32) × Int32 × Int32 × Int32) :=
  bd (fX6_layOffer (M_r11) (M_r15) (M_r21) (M_r22) (M_x12) (M_x18) a1 a2 a3) (fun t1 => if t1.2.2.2.2.2.2.2 ≤ (0 : Int32) then (some ((0 : Int32), t1.1, t1.2.1, t1.2.2.1, t1.2.2.2.1, t1.2.2.2.2.1, t1.2.2.2.2.2.1, t1.2.2.2.2.2.2.1, t1.2.2.2.2.2.2.2)) else (if (lg_cmp t1.1 (a3.toInt64 * t1.2.1)) < (0 : Int32) then (some ((0 : Int32), t1.1, t1.2.1, t1.2.2.1, t1.2.2.2.1, t1.2.2.2.2.1, t1.2.2.2.2.2.1, t1.2.2.2.2.2.2.1, t1.2.2.2.2.2.2.2)) else (some ((1 : Int32), t1.1, t1.2.1, t1.2.2.1, t1.2.2.2.1, t1.2.2.2.2.1, t1.2.2.2.2.2.1, t1.2.2.2.2.2.2.1, t1.2.2.2.2.2.2.2))))
set_option maxRecDepth 100000 in
set_option maxHeartbeats 4000000 in
theorem kX6_doesRest (l : Launch) (D : va_G) (cI cB cS : ClassId) (uM : Nat) (aM : Nat → Nat) (M_x1 : Int32) (M_x2 : Int32) (M_x3 : Int32) (M_x4 : Int32) (M_x5 : Int32) (M_x6 : Int32) (M_x7 : Int32) (M_x8 : Int32) (M_x12 : Int32) (M_x14 : Int32) (M_x17 : Int32) (M_x18 : Int32) (M_x19 : Int32) (M_x20 : Int32) (M_x23 : Int32) (M_x27 : Int32) (M_x29 : Int32) (M_x33 : Int32) (M_g24 : Int64) (M_g25 : Int64) (M_g26 : Int64) (M_g28 : Int64) (M_r0 : (Nat → Int32)) (M_r9 : (Nat → Int32)) (M_r10 : (Nat → Int32)) (M_r11 : (Nat → Int32)) (M_r13 : (Nat → Int32)) (M_r15 : (Nat → Int32)) (M_r16 : (Nat → Int32)) (M_r21 : (Nat → Int32)) (M_r22 : (Nat → Int32)) (M_r30 : (Nat → Int32)) (M_r31 : (Nat → Int32)) (M_r32 : (Nat → Int32)) (a1 : Int32) (a2 : Int32) (a3 : Int32) (z : (Int32 × Int64 × Int64 × Int64 × (Nat → Int32) × (Nat → Int32) × Int32 × Int32 × Int32)) (h : fX6_doesRest M_r11 M_r15 M_r21 M_r22 M_x12 M_x18 a1 a2 a3 = some z) : Mt l yX6_doesRest cX6_doesRest 4 (some .boolean) 4 92 D cI cB cS (mW cI uM aM M_x1 M_x2 M_x3 M_x4 M_x5 M_x6 M_x7 M_x8 M_x12 M_x14 M_x17 M_x18 M_x19 M_x20 M_x23 M_x27 M_x29 M_x33 M_g24 M_g25 M_g26 M_g28 M_r0 M_r9 M_r10 M_r11 M_r13 M_r15 M_r16 M_r21 M_r22 M_r30 M_r31 M_r32) (mW cI uM aM M_x1 M_x2 M_x3 M_x4 M_x5 M_x6 M_x7 M_x8 M_x12 M_x14 M_x17 M_x18 z.2.2.2.2.2.2.1 z.2.2.2.2.2.2.2.1 z.2.2.2.2.2.2.2.2 M_x27 M_x29 M_x33 z.2.1 z.2.2.1 z.2.2.2.1 M_g28 M_r0 M_r9 M_r10 M_r11 M_r13 M_r15 M_r16 z.2.2.2.2.1 z.2.2.2.2.2.1 M_r30 M_r31 M_r32) [.ref uM, .int a1, .int a2, .int a3] (some (.int z.1)) := by
  refine entryZ (by decide +kernel) rfl (Nat.le_of_ble_eq_true rfl) ?_
  intro p e s m below meth c A ls QQ R ar F hRet jP jD jS jl
  obtain ⟨hx, hb, hml, hown, hts, jK, hA, hf1, hf2⟩ := id F
  have jl : lv_has ls 4 [(0, .ref uM), (1, .int a1), (2, .int a2), (3, .int a3)] := jl
  unfold fX6_doesRest at h
  refine lv_aload_n hx hb dX6_doesRest_0 rfl (lv_at jl 0 rfl) ?_
  refine lv_iload_n hx hb dX6_doesRest_1 rfl (lv_at jl 1 rfl) ?_
  refine lv_iload_n hx hb dX6_doesRest_2 rfl (lv_at jl 2 rfl) ?_
  refine lv_iload_n hx hb dX6_doesRest_3 rfl (lv_at jl 3 rfl) ?_
  obtain ⟨t1, hc2, h⟩ := bd_some h
  refine callW (w1 := (mW cI uM aM M_x1 M_x2 M_x3 M_x4 M_x5 M_x6 M_x7 M_x8 M_x12 M_x14 M_x17 M_x18 t1.2.2.2.2.2.1 t1.2.2.2.2.2.2.1 t1.2.2.2.2.2.2.2 M_x27 M_x29 M_x33 t1.1 t1.2.1 t1.2.2.1 M_g28 M_r0 M_r9 M_r10 M_r11 M_r13 M_r15 M_r16 t1.2.2.2.1 t1.2.2.2.2.1 M_r30 M_r31 M_r32)) (As := [.int a1, .int a2, .int a3]) (rest := []) (st1 := []) 0 F (kX6_layOffer l D cI cB cS uM aM M_x1 M_x2 M_x3 M_x4 M_x5 M_x6 M_x7 M_x8 M_x12 M_x14 M_x17 M_x18 M_x19 M_x20 M_x23 M_x27 M_x29 M_x33 M_g24 M_g25 M_g26 M_g28 M_r0 M_r9 M_r10 M_r11 M_r13 M_r15 M_r16 M_r21 M_r22 M_r30 M_r31 M_r32 a1 a2 a3 _ hc2 ) okX6_layOffer w_423 (by decide) (by decide) ⟨Nat.zero_le _, Nat.zero_le _⟩ rfl rfl rfl jP jD jS rfl jl.1 rfl rfl (Nat.le_of_ble_eq_true rfl) dX6_doesRest_4 (fun H locs jP jD jS => ?_)
  refine lv_aload_n hx hb dX6_doesRest_7 rfl (lv_at jl 0 rfl) ?_
  refine va_get (D := D) (ci := 6) (v := .int t1.2.2.2.2.2.2.2) (C := RX6) (T := TX6) (N := 34) hx hb hts in6 hown jK.1 jP 0 rfl rfl 23 (by decide) (hts _ w_416) (fun _ h9 => h9) rfl dX6_doesRest_8 ?_
  refine lv_if_le (tgt := 33) hx hb dX6_doesRest_11 (by decide) (fun c3 => ?_) (fun c3 => ?_)
  · have h := itp c3 h
    refine lv_iconst (v := (0 : Int32)) hx hb dX6_doesRest_33 (by decide) ?_
    obtain rfl := Option.some.inj h
    exact hRet _ _ _ _ (Or.inl rfl) jP jD jS dX6_doesRest_34
  · have h := itn c3 h
    refine lv_aload_n hx hb dX6_doesRest_14 rfl (lv_at jl 0 rfl) ?_
    refine va_get (D := D) (ci := 6) (v := .long t1.1) (C := RX6) (T := TX6) (N := 34) hx hb hts in6 hown jK.1 jP 0 rfl rfl 24 (by decide) (hts _ w_427) (fun _ h9 => h9) rfl dX6_doesRest_15 ?_
    refine lv_iload_n hx hb dX6_doesRest_18 rfl (lv_at jl 3 rfl) ?_
    refine lv_i2l (v := a3.toInt64) hx hb dX6_doesRest_19 rfl ?_
    refine lv_aload_n hx hb dX6_doesRest_20 rfl (lv_at jl 0 rfl) ?_
    refine va_get (D := D) (ci := 6) (v := .long t1.2.1) (C := RX6) (T := TX6) (N := 34) hx hb hts in6 hown jK.1 jP 0 rfl rfl 25 (by decide) (hts _ w_430) (fun _ h9 => h9) rfl dX6_doesRest_21 ?_
    refine lv_lmul hx hb dX6_doesRest_24 ?_
    refine W.lcmp hx hb dX6_doesRest_25 ?_
    refine lv_if_lt (tgt := 33) hx hb dX6_doesRest_26 (by decide) (fun c4 => ?_) (fun c4 => ?_)
    · have h := itp c4 h
      refine lv_iconst (v := (0 : Int32)) hx hb dX6_doesRest_33 (by decide) ?_
      obtain rfl := Option.some.inj h
      exact hRet _ _ _ _ (Or.inl rfl) jP jD jS dX6_doesRest_34
    · have h := itn c4 h
      refine lv_iconst (v := (1 : Int32)) hx hb dX6_doesRest_29 (by decide) ?_
      refine lv_goto (tgt := 34) hx hb dX6_doesRest_30 (by decide) ?_
      obtain rfl := Option.some.inj h
      exact hRet _ _ _ _ (Or.inr rfl) jP jD jS dX6_doesRest_34
theorem okX6_rests : okV yX6_rests cX6_rests 10 (some .int) 3 := ⟨w_497, w_498, w_499, w_5, by decide, by decide, by decide +kernel⟩
def fX6_rests_b43 (l1 : Int32) (l2 : Int32) (l3 : Int32) (M_r11 : (Nat → Int32)) (M_r15 : (Nat → Int32)) (M_x12 : Int32) (M_x18 : Int32) (v1 : (Int32 × Int32 × Int32 × Int32 × Int32 × Int32 × Int64 × Int64 × Int64 × (Nat → Int32) × (Nat → Int32) × Int32 × Int32 × Int32)) : Option ((Int32 × Int32 × Int32 × Int32 × Int32 × Int32 × Int64 × Int64 × Int64 × (Nat → Int32) × (Nat → Int32) × Int32 × Int32 × Int32) ⊕ (Int32 × Int32 × Int32 × Int32 × Int64 × Int64 × Int64 × (Nat → Int32) × (Nat → Int32) × Int32 × Int32 × Int32)) :=
  if (100 : Int32) ≤ v1.2.2.2.2.2.1 then (some (.inr (v1.1, v1.2.1, v1.2.2.1, v1.2.2.2.1, v1.2.2.2.2.2.2.1, v1.2.2.2.2.2.2.2.1, v1.2.2.2.2.2.2.2.2.1, v1.2.2.2.2.2.2.2.2.2.1, v1.2.2.2.2.2.2.2.2.2.2.1, v1.2.2.2.2.2.2.2.2.2.2.2.1, v1.2.2.2.2.2.2.2.2.2.2.2.2.1, v1.2.2.2.2.2.2.2.2.2.2.2.2.2))) else (bd (fX6_doesRest (M_r11) (M_r15) v1.2.2.2.2.2.2.2.2.2.1 v1.2.2.2.2.2.2.2.2.2.2.1 (M_x12) (M_x18) (l1) (l2) v1.2.2.2.2.2.1) (fun t1 => bd (if t1.1 = (0 : Int32) then (some (v1.1, v1.2.1, v1.2.2.1, v1.2.2.2.1, v1.2.2.2.2.1)) else (bd (if v1.2.1 = (-4 : Int32) then some v1.2.2.2.2.2.1 else some v1.2.1) (fun t2 => bd (if t1.2.2.2.2.2.2.2.2 ≤ v1.2.2.2.2.1 then some v1.2.2.2.1 else some v1.2.2.2.2.2.1) (fun t3 => bd (if t1.2.2.2.2.2.2.2.2 ≤ v1.2.2.2.2.1 then some v1.2.2.2.2.1 else some t1.2.2.2.2.2.2.2.2) (fun t4 => some ((v1.1 + (1 : Int32)), t2, v1.2.2.2.2.2.1, t3, t4)))))) (fun t5 => some (.inl (t5.1, t5.2.1, t5.2.2.1, t5.2.2.2.1, t5.2.2.2.2, (v1.2.2.2.2.2.1 + (1 : Int32)), t1.2.1, t1.2.2.1, t1.2.2.2.1, t1.2.2.2.2.1, t1.2.2.2.2.2.1, t1.2.2.2.2.2.2.1, t1.2.2.2.2.2.2.2.1, t1.2.2.2.2.2.2.2.2)))))
def fX6_rests (M_g24 : Int64) (M_g25 : Int64) (M_g26 : Int64) (M_r11 : (Nat → Int32)) (M_r15 : (Nat → Int32)) (M_r21 : (Nat → Int32)) (M_r22 : (Nat → Int32)) (M_x12 : Int32) (M_x18 : Int32) (M_x19 : Int32) (M_x20 : Int32) (M_x23 : Int32) (a1 : Int32) (a2 : Int32) (a3 : Int32) : Option (Int32 × Int64 × Int64 × Int64 × (Nat → Int32) × (Nat → Int32) × Int32 × Int32 × Int32) :=
  bd (fX6_isOffer a1 a2) (fun t1 => if t1 = (0 : Int32) then (some ((-1 : Int32), M_g24, M_g25, M_g26, M_r21, M_r22, M_x19, M_x20, M_x23)) else (bd (fX6_in a3.toInt64 (0 : Int64) (3 : Int64)) (fun t4 => if t4 = (0 : Int32) then (some ((-1 : Int32), M_g24, M_g25, M_g26, M_r21, M_r22, M_x19, M_x20, M_x23)) else (bd (loopF (fX6_rests_b43 a1 a2 a3 M_r11 M_r15 M_x12 M_x18) 1000 ((0 : Int32), (-4 : Int32), (-4 : Int32), (-4 : Int32), (0 : Int32), (0 : Int32), M_g24, M_g25, M_g26, M_r21, M_r22, M_x19, M_x20, M_x23)) (fun T7 => if a3 = (0 : Int32) then (some (T7.1, T7.2.2.2.2.1, T7.2.2.2.2.2.1, T7.2.2.2.2.2.2.1, T7.2.2.2.2.2.2.2.1, T7.2.2.2.2.2.2.2.2.1, T7.2.2.2.2.2.2.2.2.2.1, T7.2.2.2.2.2.2.2.2.2.2.1, T7.2.2.2.2.2.2.2.2.2.2.2)) else (if a3 = (1 : Int32) then (some (T7.2.1, T7.2.2.2.2.1, T7.2.2.2.2.2.1, T7.2.2.2.2.2.2.1, T7.2.2.2.2.2.2.2.1, T7.2.2.2.2.2.2.2.2.1, T7.2.2.2.2.2.2.2.2.2.1, T7.2.2.2.2.2.2.2.2.2.2.1, T7.2.2.2.2.2.2.2.2.2.2.2)) else (if a3 = (2 : Int32) then (some (T7.2.2.1, T7.2.2.2.2.1, T7.2.2.2.2.2.1, T7.2.2.2.2.2.2.1, T7.2.2.2.2.2.2.2.1, T7.2.2.2.2.2.2.2.2.1, T7.2.2.2.2.2.2.2.2.2.1, T7.2.2.2.2.2.2.2.2.2.2.1, T7.2.2.2.2.2.2.2.2.2.2.2)) else (some (T7.2.2.2.1, T7.2.2.2.2.1, T7.2.2.2.2.2.1, T7.2.2.2.2.2.2.1, T7.2.2.2.2.2.2.2.1, T7.2.2.2.2.2.2.2.2.1, T7.2.2.2.2.2.2.2.2.2.1, T7.2.2.2.2.2.2.2.2.2.2.1, T7.2.2.2.2.2.2.2.2.2.2.2)))))))))
set_option maxRecDepth 100000 in
set_option maxHeartbeats 4000000 in
theorem kX6_rests (l : Launch) (D : va_G) (cI cB cS : ClassId) (uM : Nat) (aM : Nat → Nat) (M_x1 : Int32) (M_x2 : Int32) (M_x3 : Int32) (M_x4 : Int32) (M_x5 : Int32) (M_x6 : Int32) (M_x7 : Int32) (M_x8 : Int32) (M_x12 : Int32) (M_x14 : Int32) (M_x17 : Int32) (M_x18 : Int32) (M_x19 : Int32) (M_x20 : Int32) (M_x23 : Int32) (M_x27 : Int32) (M_x29 : Int32) (M_x33 : Int32) (M_g24 : Int64) (M_g25 : Int64) (M_g26 : Int64) (M_g28 : Int64) (M_r0 : (Nat → Int32)) (M_r9 : (Nat → Int32)) (M_r10 : (Nat → Int32)) (M_r11 : (Nat → Int32)) (M_r13 : (Nat → Int32)) (M_r15 : (Nat → Int32)) (M_r16 : (Nat → Int32)) (M_r21 : (Nat → Int32)) (M_r22 : (Nat → Int32)) (M_r30 : (Nat → Int32)) (M_r31 : (Nat → Int32)) (M_r32 : (Nat → Int32)) (a1 : Int32) (a2 : Int32) (a3 : Int32) (z : (Int32 × Int64 × Int64 × Int64 × (Nat → Int32) × (Nat → Int32) × Int32 × Int32 × Int32)) (h : fX6_rests M_g24 M_g25 M_g26 M_r11 M_r15 M_r21 M_r22 M_x12 M_x18 M_x19 M_x20 M_x23 a1 a2 a3 = some z) : Mt l yX6_rests cX6_rests 10 (some .int) 5 115 D cI cB cS (mW cI uM aM M_x1 M_x2 M_x3 M_x4 M_x5 M_x6 M_x7 M_x8 M_x12 M_x14 M_x17 M_x18 M_x19 M_x20 M_x23 M_x27 M_x29 M_x33 M_g24 M_g25 M_g26 M_g28 M_r0 M_r9 M_r10 M_r11 M_r13 M_r15 M_r16 M_r21 M_r22 M_r30 M_r31 M_r32) (mW cI uM aM M_x1 M_x2 M_x3 M_x4 M_x5 M_x6 M_x7 M_x8 M_x12 M_x14 M_x17 M_x18 z.2.2.2.2.2.2.1 z.2.2.2.2.2.2.2.1 z.2.2.2.2.2.2.2.2 M_x27 M_x29 M_x33 z.2.1 z.2.2.1 z.2.2.2.1 M_g28 M_r0 M_r9 M_r10 M_r11 M_r13 M_r15 M_r16 z.2.2.2.2.1 z.2.2.2.2.2.1 M_r30 M_r31 M_r32) [.ref uM, .int a1, .int a2, .int a3] (some (.int z.1)) := by
  refine entryI (by decide +kernel) rfl (Nat.le_of_ble_eq_true rfl) ?_
  intro p e s m below meth c A ls QQ R ar F hRet jP jD jS jl
  obtain ⟨hx, hb, hml, hown, hts, jK, hA, hf1, hf2⟩ := id F
  have jl : lv_has ls 10 [(0, .ref uM), (1, .int a1), (2, .int a2), (3, .int a3)] := jl
  unfold fX6_rests at h
  refine lv_iload_n hx hb dX6_rests_0 rfl (lv_at jl 1 rfl) ?_
  refine lv_iload_n hx hb dX6_rests_1 rfl (lv_at jl 2 rfl) ?_
  obtain ⟨t1, hc2, h⟩ := bd_some h
  refine call0 (As := [.int a1, .int a2]) (rest := []) (st1 := [.int t1]) F (kX6_isOffer l D cI cB cS  a1 a2 _ hc2 ) okX6_isOffer w_417 (by decide) (by decide) ⟨Nat.zero_le _, Nat.zero_le _⟩ jP jD jS rfl jl.1 rfl rfl (Nat.le_of_ble_eq_true rfl) dX6_rests_2 (fun H locs jP jD jS => ?_)
  refine lv_if_eq (tgt := 20) hx hb dX6_rests_5 (by decide) (fun c3 => ?_) (fun c3 => ?_)
  · have h := itp c3 h
    refine lv_iconst (v := (-1 : Int32)) hx hb dX6_rests_20 (by decide) ?_
    obtain rfl := Option.some.inj h
    exact hRet _ _ _ _ jP jD jS dX6_rests_21
  · have h := itn c3 h
    refine lv_iload_n hx hb dX6_rests_8 rfl (lv_at jl 3 rfl) ?_
    refine lv_i2l (v := a3.toInt64) hx hb dX6_rests_9 rfl ?_
    refine lv_lconst (v := (0 : Int64)) hx hb dX6_rests_10 (by decide) ?_
    refine lv_ldc2 (v := (3 : Int64)) hx hb hown (hts _ w_353) dX6_rests_11 ?_
    obtain ⟨t4, hc5, h⟩ := bd_some h
    refine call0 (As := [.long a3.toInt64, .long (0 : Int64), .long (3 : Int64)]) (rest := []) (st1 := [.int t4]) F (kX6_in l D cI cB cS  a3.toInt64 (0 : Int64) (3 : Int64) _ hc5 ) okX6_in w_112 (by decide) (by decide) ⟨Nat.zero_le _, Nat.zero_le _⟩ jP jD jS rfl jl.1 rfl rfl (Nat.le_of_ble_eq_true rfl) dX6_rests_14 (fun H locs jP jD jS => ?_)
    refine lv_if_ne (tgt := 22) hx hb dX6_rests_17 (by decide) (fun c6 => ?_) (fun c6 => ?_)
    · have h := itn c6 h
      refine lv_iconst (v := (0 : Int32)) hx hb dX6_rests_22 (by decide) ?_
      refine lv_istore (lv' := [(4, .int (0 : Int32)), (0, .ref uM), (1, .int a1), (2, .int a2), (3, .int a3)]) hx hb dX6_rests_23 jl (by decide) rfl (fun ls jl => ?_)
      refine lv_bipush (v := (-4 : Int32)) hx hb dX6_rests_25 (by decide) ?_
      refine lv_istore (lv' := [(5, .int (-4 : Int32)), (4, .int (0 : Int32)), (0, .ref uM), (1, .int a1), (2, .int a2), (3, .int a3)]) hx hb dX6_rests_27 jl (by decide) rfl (fun ls jl => ?_)
      refine lv_bipush (v := (-4 : Int32)) hx hb dX6_rests_29 (by decide) ?_
      refine lv_istore (lv' := [(6, .int (-4 : Int32)), (5, .int (-4 : Int32)), (4, .int (0 : Int32)), (0, .ref uM), (1, .int a1), (2, .int a2), (3, .int a3)]) hx hb dX6_rests_31 jl (by decide) rfl (fun ls jl => ?_)
      refine lv_bipush (v := (-4 : Int32)) hx hb dX6_rests_33 (by decide) ?_
      refine lv_istore (lv' := [(7, .int (-4 : Int32)), (6, .int (-4 : Int32)), (5, .int (-4 : Int32)), (4, .int (0 : Int32)), (0, .ref uM), (1, .int a1), (2, .int a2), (3, .int a3)]) hx hb dX6_rests_35 jl (by decide) rfl (fun ls jl => ?_)
      refine lv_iconst (v := (0 : Int32)) hx hb dX6_rests_37 (by decide) ?_
      refine lv_istore (lv' := [(8, .int (0 : Int32)), (7, .int (-4 : Int32)), (6, .int (-4 : Int32)), (5, .int (-4 : Int32)), (4, .int (0 : Int32)), (0, .ref uM), (1, .int a1), (2, .int a2), (3, .int a3)]) hx hb dX6_rests_38 jl (by decide) rfl (fun ls jl => ?_)
      refine lv_iconst (v := (0 : Int32)) hx hb dX6_rests_40 (by decide) ?_
      refine lv_istore (lv' := [(9, .int (0 : Int32)), (8, .int (0 : Int32)), (7, .int (-4 : Int32)), (6, .int (-4 : Int32)), (5, .int (-4 : Int32)), (4, .int (0 : Int32)), (0, .ref uM), (1, .int a1), (2, .int a2), (3, .int a3)]) hx hb dX6_rests_41 jl (by decide) rfl (fun ls jl => ?_)
      obtain ⟨T7, hT7, hz7⟩ := bd_some h
      clear h
      have hE7 : ∀ (H : Heap) (locs : List Loc) (ls : Array Slot), va_P D vwCl (mW cI uM aM M_x1 M_x2 M_x3 M_x4 M_x5 M_x6 M_x7 M_x8 M_x12 M_x14 M_x17 M_x18 T7.2.2.2.2.2.2.2.2.2.1 T7.2.2.2.2.2.2.2.2.2.2.1 T7.2.2.2.2.2.2.2.2.2.2.2 M_x27 M_x29 M_x33 T7.2.2.2.2.1 T7.2.2.2.2.2.1 T7.2.2.2.2.2.2.1 M_g28 M_r0 M_r9 M_r10 M_r11 M_r13 M_r15 M_r16 T7.2.2.2.2.2.2.2.1 T7.2.2.2.2.2.2.2.2.1 M_r30 M_r31 M_r32) H → va_D A (mW cI uM aM M_x1 M_x2 M_x3 M_x4 M_x5 M_x6 M_x7 M_x8 M_x12 M_x14 M_x17 M_x18 T7.2.2.2.2.2.2.2.2.2.1 T7.2.2.2.2.2.2.2.2.2.2.1 T7.2.2.2.2.2.2.2.2.2.2.2 M_x27 M_x29 M_x33 T7.2.2.2.2.1 T7.2.2.2.2.2.1 T7.2.2.2.2.2.2.1 M_g28 M_r0 M_r9 M_r10 M_r11 M_r13 M_r15 M_r16 T7.2.2.2.2.2.2.2.1 T7.2.2.2.2.2.2.2.2.1 M_r30 M_r31 M_r32) → va_S A s.heap H locs → lv_has ls 10 [(3, .int a3), (4, .int T7.1), (5, .int T7.2.1), (6, .int T7.2.2.1), (7, .int T7.2.2.2.1)] → W p l e R s m ar below meth c H locs 0 0 QQ (F0 m 128 ls []) := by
        clear jP jD jS jl
        intro H locs ls jP jD jS jl
        refine lv_iload_n hx hb dX6_rests_128 rfl (lv_at jl 0 rfl) ?_
        refine lv_if_ne (tgt := 137) hx hb dX6_rests_129 (by decide) (fun c19 => ?_) (fun c19 => ?_)
        · have hz7 := itn c19 hz7
          refine lv_iload_n hx hb dX6_rests_137 rfl (lv_at jl 0 rfl) ?_
          refine lv_iconst (v := (1 : Int32)) hx hb dX6_rests_138 (by decide) ?_
          refine lv_icmp_ne (tgt := 147) hx hb dX6_rests_139 (by decide) (fun c20 => ?_) (fun c20 => ?_)
          · have hz7 := itn c20 hz7
            refine lv_iload_n hx hb dX6_rests_147 rfl (lv_at jl 0 rfl) ?_
            refine lv_iconst (v := (2 : Int32)) hx hb dX6_rests_148 (by decide) ?_
            refine lv_icmp_ne (tgt := 157) hx hb dX6_rests_149 (by decide) (fun c21 => ?_) (fun c21 => ?_)
            · have hz7 := itn c21 hz7
              refine lv_iload hx hb dX6_rests_157 (lv_at jl 4 rfl) ?_
              obtain rfl := Option.some.inj hz7
              exact hRet _ _ _ _ jP jD jS dX6_rests_159
            · have hz7 := itp c21 hz7
              refine lv_iload hx hb dX6_rests_152 (lv_at jl 3 rfl) ?_
              refine lv_goto (tgt := 159) hx hb dX6_rests_154 (by decide) ?_
              obtain rfl := Option.some.inj hz7
              exact hRet _ _ _ _ jP jD jS dX6_rests_159
          · have hz7 := itp c20 hz7
            refine lv_iload hx hb dX6_rests_142 (lv_at jl 2 rfl) ?_
            refine lv_goto (tgt := 159) hx hb dX6_rests_144 (by decide) ?_
            obtain rfl := Option.some.inj hz7
            exact hRet _ _ _ _ jP jD jS dX6_rests_159
        · have hz7 := itp c19 hz7
          refine lv_iload hx hb dX6_rests_132 (lv_at jl 1 rfl) ?_
          refine lv_goto (tgt := 159) hx hb dX6_rests_134 (by decide) ?_
          obtain rfl := Option.some.inj hz7
          exact hRet _ _ _ _ jP jD jS dX6_rests_159
      have hL7 : ∀ (n : Nat) (v7 : (Int32 × Int32 × Int32 × Int32 × Int32 × Int32 × Int64 × Int64 × Int64 × (Nat → Int32) × (Nat → Int32) × Int32 × Int32 × Int32)), loopF (fX6_rests_b43 a1 a2 a3 M_r11 M_r15 M_x12 M_x18) n v7 = some T7 → ∀ (H : Heap) (locs : List Loc) (ls : Array Slot), va_P D vwCl (mW cI uM aM M_x1 M_x2 M_x3 M_x4 M_x5 M_x6 M_x7 M_x8 M_x12 M_x14 M_x17 M_x18 v7.2.2.2.2.2.2.2.2.2.2.2.1 v7.2.2.2.2.2.2.2.2.2.2.2.2.1 v7.2.2.2.2.2.2.2.2.2.2.2.2.2 M_x27 M_x29 M_x33 v7.2.2.2.2.2.2.1 v7.2.2.2.2.2.2.2.1 v7.2.2.2.2.2.2.2.2.1 M_g28 M_r0 M_r9 M_r10 M_r11 M_r13 M_r15 M_r16 v7.2.2.2.2.2.2.2.2.2.1 v7.2.2.2.2.2.2.2.2.2.2.1 M_r30 M_r31 M_r32) H → va_D A (mW cI uM aM M_x1 M_x2 M_x3 M_x4 M_x5 M_x6 M_x7 M_x8 M_x12 M_x14 M_x17 M_x18 v7.2.2.2.2.2.2.2.2.2.2.2.1 v7.2.2.2.2.2.2.2.2.2.2.2.2.1 v7.2.2.2.2.2.2.2.2.2.2.2.2.2 M_x27 M_x29 M_x33 v7.2.2.2.2.2.2.1 v7.2.2.2.2.2.2.2.1 v7.2.2.2.2.2.2.2.2.1 M_g28 M_r0 M_r9 M_r10 M_r11 M_r13 M_r15 M_r16 v7.2.2.2.2.2.2.2.2.2.1 v7.2.2.2.2.2.2.2.2.2.2.1 M_r30 M_r31 M_r32) → va_S A s.heap H locs → lv_has ls 10 [(0, .ref uM), (1, .int a1), (2, .int a2), (3, .int a3), (4, .int v7.1), (5, .int v7.2.1), (6, .int v7.2.2.1), (7, .int v7.2.2.2.1), (8, .int v7.2.2.2.2.1), (9, .int v7.2.2.2.2.2.1)] → W p l e R s m ar below meth c H locs 0 0 QQ (F0 m 43 ls []) := by
        clear jP jD jS jl hT7
        intro n
        induction n with
        | zero => intro v7 hq; exact (loop_none hq).elim
        | succ n ih =>
          intro v7 hq H locs ls jP jD jS jl
          obtain ⟨o7, hv7, hq7⟩ := loop_some hq
          clear hq
          unfold fX6_rests_b43 at hv7
          refine lv_iload hx hb dX6_rests_43 (lv_at jl 9 rfl) ?_
          refine lv_bipush (v := (100 : Int32)) hx hb dX6_rests_45 (by decide) ?_
          refine lv_icmp_ge (tgt := 128) hx hb dX6_rests_47 (by decide) (fun c8 => ?_) (fun c8 => ?_)
          · have hv7 := itp c8 hv7
            obtain rfl := Option.some.inj hv7
            obtain rfl := nxt_r hq7
            exact hE7 _ _ _ jP jD jS (lv_sub jl [3, 4, 5, 6, 7] rfl)
          · have hv7 := itn c8 hv7
            refine lv_aload_n hx hb dX6_rests_50 rfl (lv_at jl 0 rfl) ?_
            refine lv_iload_n hx hb dX6_rests_51 rfl (lv_at jl 1 rfl) ?_
            refine lv_iload_n hx hb dX6_rests_52 rfl (lv_at jl 2 rfl) ?_
            refine lv_iload hx hb dX6_rests_53 (lv_at jl 9 rfl) ?_
            obtain ⟨t9, hc10, hv7⟩ := bd_some hv7
            refine callW (w1 := (mW cI uM aM M_x1 M_x2 M_x3 M_x4 M_x5 M_x6 M_x7 M_x8 M_x12 M_x14 M_x17 M_x18 t9.2.2.2.2.2.2.1 t9.2.2.2.2.2.2.2.1 t9.2.2.2.2.2.2.2.2 M_x27 M_x29 M_x33 t9.2.1 t9.2.2.1 t9.2.2.2.1 M_g28 M_r0 M_r9 M_r10 M_r11 M_r13 M_r15 M_r16 t9.2.2.2.2.1 t9.2.2.2.2.2.1 M_r30 M_r31 M_r32)) (As := [.int a1, .int a2, .int v7.2.2.2.2.2.1]) (rest := []) (st1 := [.int t9.1]) 0 F (kX6_doesRest l D cI cB cS uM aM M_x1 M_x2 M_x3 M_x4 M_x5 M_x6 M_x7 M_x8 M_x12 M_x14 M_x17 M_x18 v7.2.2.2.2.2.2.2.2.2.2.2.1 v7.2.2.2.2.2.2.2.2.2.2.2.2.1 v7.2.2.2.2.2.2.2.2.2.2.2.2.2 M_x27 M_x29 M_x33 v7.2.2.2.2.2.2.1 v7.2.2.2.2.2.2.2.1 v7.2.2.2.2.2.2.2.2.1 M_g28 M_r0 M_r9 M_r10 M_r11 M_r13 M_r15 M_r16 v7.2.2.2.2.2.2.2.2.2.1 v7.2.2.2.2.2.2.2.2.2.2.1 M_r30 M_r31 M_r32 a1 a2 v7.2.2.2.2.2.1 _ hc10 ) okX6_doesRest w_500 (by decide) (by decide) ⟨Nat.zero_le _, Nat.zero_le _⟩ rfl rfl rfl jP jD jS rfl jl.1 rfl rfl (Nat.le_of_ble_eq_true rfl) dX6_rests_55 (fun H locs jP jD jS => ?_)
            obtain ⟨t18, hvt18, hv7⟩ := bd_some hv7
            have hJt18 : ∀ (H : Heap) (locs : List Loc) (ls : Array Slot), va_P D vwCl (mW cI uM aM M_x1 M_x2 M_x3 M_x4 M_x5 M_x6 M_x7 M_x8 M_x12 M_x14 M_x17 M_x18 t9.2.2.2.2.2.2.1 t9.2.2.2.2.2.2.2.1 t9.2.2.2.2.2.2.2.2 M_x27 M_x29 M_x33 t9.2.1 t9.2.2.1 t9.2.2.2.1 M_g28 M_r0 M_r9 M_r10 M_r11 M_r13 M_r15 M_r16 t9.2.2.2.2.1 t9.2.2.2.2.2.1 M_r30 M_r31 M_r32) H → va_D A (mW cI uM aM M_x1 M_x2 M_x3 M_x4 M_x5 M_x6 M_x7 M_x8 M_x12 M_x14 M_x17 M_x18 t9.2.2.2.2.2.2.1 t9.2.2.2.2.2.2.2.1 t9.2.2.2.2.2.2.2.2 M_x27 M_x29 M_x33 t9.2.1 t9.2.2.1 t9.2.2.2.1 M_g28 M_r0 M_r9 M_r10 M_r11 M_r13 M_r15 M_r16 t9.2.2.2.2.1 t9.2.2.2.2.2.1 M_r30 M_r31 M_r32) → va_S A s.heap H locs → lv_has ls 10 [(0, .ref uM), (1, .int a1), (2, .int a2), (3, .int a3), (4, .int t18.1), (5, .int t18.2.1), (6, .int t18.2.2.1), (7, .int t18.2.2.2.1), (8, .int t18.2.2.2.2), (9, .int v7.2.2.2.2.2.1)] → W p l e R s m ar below meth c H locs 0 0 QQ (F0 m 122 ls []) := by
              clear jP jD jS jl
              intro H locs ls jP jD jS jl
              refine lv_iinc (v := (v7.2.2.2.2.2.1 + (1 : Int32))) (lv' := [(9, .int (v7.2.2.2.2.2.1 + (1 : Int32))), (0, .ref uM), (1, .int a1), (2, .int a2), (3, .int a3), (4, .int t18.1), (5, .int t18.2.1), (6, .int t18.2.2.1), (7, .int t18.2.2.2.1), (8, .int t18.2.2.2.2)]) hx hb dX6_rests_122 jl (k := 9) rfl rfl (by decide) rfl (fun ls jl => ?_)
              refine lv_goto (tgt := 43) hx hb dX6_rests_125 (by decide) ?_
              obtain rfl := Option.some.inj hv7
              exact ih _ (nxt_l hq7) _ _ _ jP jD jS (lv_sub jl [1, 2, 3, 4, 5, 6, 7, 8, 9, 0] rfl)
            clear hv7
            refine lv_if_eq (tgt := 122) hx hb dX6_rests_58 (by decide) (fun c11 => ?_) (fun c11 => ?_)
            · have hvt18 := itp c11 hvt18
              obtain rfl := Option.some.inj hvt18
              exact hJt18 _ _ _ jP jD jS (lv_sub jl [0, 1, 2, 3, 4, 5, 6, 7, 8, 9] rfl)
            · have hvt18 := itn c11 hvt18
              refine lv_iinc (v := (v7.1 + (1 : Int32))) (lv' := [(4, .int (v7.1 + (1 : Int32))), (0, .ref uM), (1, .int a1), (2, .int a2), (3, .int a3), (5, .int v7.2.1), (6, .int v7.2.2.1), (7, .int v7.2.2.2.1), (8, .int v7.2.2.2.2.1), (9, .int v7.2.2.2.2.2.1)]) hx hb dX6_rests_61 jl (k := 4) rfl rfl (by decide) rfl (fun ls jl => ?_)
              refine lv_iload hx hb dX6_rests_64 (lv_at jl 5 rfl) ?_
              refine lv_bipush (v := (-4 : Int32)) hx hb dX6_rests_66 (by decide) ?_
              obtain ⟨t13, hvt13, hvt18⟩ := bd_some hvt18
              have hJt13 : ∀ (H : Heap) (locs : List Loc) (ls : Array Slot), va_P D vwCl (mW cI uM aM M_x1 M_x2 M_x3 M_x4 M_x5 M_x6 M_x7 M_x8 M_x12 M_x14 M_x17 M_x18 t9.2.2.2.2.2.2.1 t9.2.2.2.2.2.2.2.1 t9.2.2.2.2.2.2.2.2 M_x27 M_x29 M_x33 t9.2.1 t9.2.2.1 t9.2.2.2.1 M_g28 M_r0 M_r9 M_r10 M_r11 M_r13 M_r15 M_r16 t9.2.2.2.2.1 t9.2.2.2.2.2.1 M_r30 M_r31 M_r32) H → va_D A (mW cI uM aM M_x1 M_x2 M_x3 M_x4 M_x5 M_x6 M_x7 M_x8 M_x12 M_x14 M_x17 M_x18 t9.2.2.2.2.2.2.1 t9.2.2.2.2.2.2.2.1 t9.2.2.2.2.2.2.2.2 M_x27 M_x29 M_x33 t9.2.1 t9.2.2.1 t9.2.2.2.1 M_g28 M_r0 M_r9 M_r10 M_r11 M_r13 M_r15 M_r16 t9.2.2.2.2.1 t9.2.2.2.2.2.1 M_r30 M_r31 M_r32) → va_S A s.heap H locs → lv_has ls 10 [(0, .ref uM), (1, .int a1), (2, .int a2), (3, .int a3), (4, .int (v7.1 + (1 : Int32))), (7, .int v7.2.2.2.1), (8, .int v7.2.2.2.2.1), (9, .int v7.2.2.2.2.2.1)] → W p l e R s m ar below meth c H locs 0 0 QQ (F0 m 78 ls [.int t13]) := by
                clear jP jD jS jl
                intro H locs ls jP jD jS jl
                refine lv_istore (lv' := [(5, .int t13), (0, .ref uM), (1, .int a1), (2, .int a2), (3, .int a3), (4, .int (v7.1 + (1 : Int32))), (7, .int v7.2.2.2.1), (8, .int v7.2.2.2.2.1), (9, .int v7.2.2.2.2.2.1)]) hx hb dX6_rests_78 jl (by decide) rfl (fun ls jl => ?_)
                refine lv_iload hx hb dX6_rests_80 (lv_at jl 8 rfl) ?_
                refine lv_istore (lv' := [(6, .int v7.2.2.2.2.2.1), (5, .int t13), (0, .ref uM), (1, .int a1), (2, .int a2), (3, .int a3), (4, .int (v7.1 + (1 : Int32))), (7, .int v7.2.2.2.1), (8, .int v7.2.2.2.2.1), (9, .int v7.2.2.2.2.2.1)]) hx hb dX6_rests_82 jl (by decide) rfl (fun ls jl => ?_)
                refine lv_aload_n hx hb dX6_rests_84 rfl (lv_at jl 2 rfl) ?_
                refine va_get (D := D) (ci := 6) (v := .int t9.2.2.2.2.2.2.2.2) (C := RX6) (T := TX6) (N := 34) hx hb hts in6 hown jK.1 jP 0 rfl rfl 23 (by decide) (hts _ w_416) (fun _ h9 => h9) rfl dX6_rests_85 ?_
                refine lv_iload hx hb dX6_rests_88 (lv_at jl 8 rfl) ?_
                obtain ⟨t15, hvt15, hvt18⟩ := bd_some hvt18
                have hJt15 : ∀ (H : Heap) (locs : List Loc) (ls : Array Slot), va_P D vwCl (mW cI uM aM M_x1 M_x2 M_x3 M_x4 M_x5 M_x6 M_x7 M_x8 M_x12 M_x14 M_x17 M_x18 t9.2.2.2.2.2.2.1 t9.2.2.2.2.2.2.2.1 t9.2.2.2.2.2.2.2.2 M_x27 M_x29 M_x33 t9.2.1 t9.2.2.1 t9.2.2.2.1 M_g28 M_r0 M_r9 M_r10 M_r11 M_r13 M_r15 M_r16 t9.2.2.2.2.1 t9.2.2.2.2.2.1 M_r30 M_r31 M_r32) H → va_D A (mW cI uM aM M_x1 M_x2 M_x3 M_x4 M_x5 M_x6 M_x7 M_x8 M_x12 M_x14 M_x17 M_x18 t9.2.2.2.2.2.2.1 t9.2.2.2.2.2.2.2.1 t9.2.2.2.2.2.2.2.2 M_x27 M_x29 M_x33 t9.2.1 t9.2.2.1 t9.2.2.2.1 M_g28 M_r0 M_r9 M_r10 M_r11 M_r13 M_r15 M_r16 t9.2.2.2.2.1 t9.2.2.2.2.2.1 M_r30 M_r31 M_r32) → va_S A s.heap H locs → lv_has ls 10 [(0, .ref uM), (1, .int a1), (2, .int a2), (3, .int a3), (4, .int (v7.1 + (1 : Int32))), (5, .int t13), (6, .int v7.2.2.2.2.2.1), (8, .int v7.2.2.2.2.1), (9, .int v7.2.2.2.2.2.1)] → W p l e R s m ar below meth c H locs 0 0 QQ (F0 m 100 ls [.int t15]) := by
                  clear jP jD jS jl
                  intro H locs ls jP jD jS jl
                  refine lv_istore (lv' := [(7, .int t15), (0, .ref uM), (1, .int a1), (2, .int a2), (3, .int a3), (4, .int (v7.1 + (1 : Int32))), (5, .int t13), (6, .int v7.2.2.2.2.2.1), (8, .int v7.2.2.2.2.1), (9, .int v7.2.2.2.2.2.1)]) hx hb dX6_rests_100 jl (by decide) rfl (fun ls jl => ?_)
                  refine lv_aload_n hx hb dX6_rests_102 rfl (lv_at jl 1 rfl) ?_
                  refine va_get (D := D) (ci := 6) (v := .int t9.2.2.2.2.2.2.2.2) (C := RX6) (T := TX6) (N := 34) hx hb hts in6 hown jK.1 jP 0 rfl rfl 23 (by decide) (hts _ w_416) (fun _ h9 => h9) rfl dX6_rests_103 ?_
                  refine lv_iload hx hb dX6_rests_106 (lv_at jl 8 rfl) ?_
                  obtain ⟨t17, hvt17, hvt18⟩ := bd_some hvt18
                  have hJt17 : ∀ (H : Heap) (locs : List Loc) (ls : Array Slot), va_P D vwCl (mW cI uM aM M_x1 M_x2 M_x3 M_x4 M_x5 M_x6 M_x7 M_x8 M_x12 M_x14 M_x17 M_x18 t9.2.2.2.2.2.2.1 t9.2.2.2.2.2.2.2.1 t9.2.2.2.2.2.2.2.2 M_x27 M_x29 M_x33 t9.2.1 t9.2.2.1 t9.2.2.2.1 M_g28 M_r0 M_r9 M_r10 M_r11 M_r13 M_r15 M_r16 t9.2.2.2.2.1 t9.2.2.2.2.2.1 M_r30 M_r31 M_r32) H → va_D A (mW cI uM aM M_x1 M_x2 M_x3 M_x4 M_x5 M_x6 M_x7 M_x8 M_x12 M_x14 M_x17 M_x18 t9.2.2.2.2.2.2.1 t9.2.2.2.2.2.2.2.1 t9.2.2.2.2.2.2.2.2 M_x27 M_x29 M_x33 t9.2.1 t9.2.2.1 t9.2.2.2.1 M_g28 M_r0 M_r9 M_r10 M_r11 M_r13 M_r15 M_r16 t9.2.2.2.2.1 t9.2.2.2.2.2.1 M_r30 M_r31 M_r32) → va_S A s.heap H locs → lv_has ls 10 [(0, .ref uM), (1, .int a1), (2, .int a2), (3, .int a3), (4, .int (v7.1 + (1 : Int32))), (5, .int t13), (6, .int v7.2.2.2.2.2.1), (7, .int t15), (9, .int v7.2.2.2.2.2.1)] → W p l e R s m ar below meth c H locs 0 0 QQ (F0 m 120 ls [.int t17]) := by
                    clear jP jD jS jl
                    intro H locs ls jP jD jS jl
                    refine lv_istore (lv' := [(8, .int t17), (0, .ref uM), (1, .int a1), (2, .int a2), (3, .int a3), (4, .int (v7.1 + (1 : Int32))), (5, .int t13), (6, .int v7.2.2.2.2.2.1), (7, .int t15), (9, .int v7.2.2.2.2.2.1)]) hx hb dX6_rests_120 jl (by decide) rfl (fun ls jl => ?_)
                    obtain rfl := Option.some.inj hvt18
                    exact hJt18 _ _ _ jP jD jS (lv_sub jl [1, 2, 3, 4, 5, 6, 7, 8, 0, 9] rfl)
                  clear hvt18
                  refine lv_icmp_le (tgt := 118) hx hb dX6_rests_108 (by decide) (fun c16 => ?_) (fun c16 => ?_)
                  · have hvt17 := itp c16 hvt17
                    refine lv_iload hx hb dX6_rests_118 (lv_at jl 8 rfl) ?_
                    obtain rfl := Option.some.inj hvt17
                    exact hJt17 _ _ _ jP jD jS (lv_sub jl [1, 2, 3, 4, 5, 6, 7, 0, 9] rfl)
                  · have hvt17 := itn c16 hvt17
                    refine lv_aload_n hx hb dX6_rests_111 rfl (lv_at jl 1 rfl) ?_
                    refine va_get (D := D) (ci := 6) (v := .int t9.2.2.2.2.2.2.2.2) (C := RX6) (T := TX6) (N := 34) hx hb hts in6 hown jK.1 jP 0 rfl rfl 23 (by decide) (hts _ w_416) (fun _ h9 => h9) rfl dX6_rests_112 ?_
                    refine lv_goto (tgt := 120) hx hb dX6_rests_115 (by decide) ?_
                    obtain rfl := Option.some.inj hvt17
                    exact hJt17 _ _ _ jP jD jS (lv_sub jl [1, 2, 3, 4, 5, 6, 7, 0, 9] rfl)
                clear hvt18
                refine lv_icmp_le (tgt := 98) hx hb dX6_rests_90 (by decide) (fun c14 => ?_) (fun c14 => ?_)
                · have hvt15 := itp c14 hvt15
                  refine lv_iload hx hb dX6_rests_98 (lv_at jl 7 rfl) ?_
                  obtain rfl := Option.some.inj hvt15
                  exact hJt15 _ _ _ jP jD jS (lv_sub jl [2, 3, 4, 5, 6, 1, 0, 8, 9] rfl)
                · have hvt15 := itn c14 hvt15
                  refine lv_iload hx hb dX6_rests_93 (lv_at jl 9 rfl) ?_
                  refine lv_goto (tgt := 100) hx hb dX6_rests_95 (by decide) ?_
                  obtain rfl := Option.some.inj hvt15
                  exact hJt15 _ _ _ jP jD jS (lv_sub jl [2, 3, 4, 5, 6, 1, 0, 8, 9] rfl)
              clear hvt18
              refine lv_icmp_ne (tgt := 76) hx hb dX6_rests_68 (by decide) (fun c12 => ?_) (fun c12 => ?_)
              · have hvt13 := itn c12 hvt13
                refine lv_iload hx hb dX6_rests_76 (lv_at jl 5 rfl) ?_
                obtain rfl := Option.some.inj hvt13
                exact hJt13 _ _ _ jP jD jS (lv_sub jl [1, 2, 3, 4, 0, 7, 8, 9] rfl)
              · have hvt13 := itp c12 hvt13
                refine lv_iload hx hb dX6_rests_71 (lv_at jl 9 rfl) ?_
                refine lv_goto (tgt := 78) hx hb dX6_rests_73 (by decide) ?_
                obtain rfl := Option.some.inj hvt13
                exact hJt13 _ _ _ jP jD jS (lv_sub jl [1, 2, 3, 4, 0, 7, 8, 9] rfl)
      exact hL7 1000 _ hT7 _ _ _ jP jD jS (lv_sub jl [6, 7, 8, 9, 5, 4, 3, 2, 1, 0] rfl)
    · have h := itp c6 h
      refine lv_iconst (v := (-1 : Int32)) hx hb dX6_rests_20 (by decide) ?_
      obtain rfl := Option.some.inj h
      exact hRet _ _ _ _ jP jD jS dX6_rests_21
theorem okX6_fall : okV yX6_fall cX6_fall 10 (some .int) 4 := ⟨w_522, w_523, w_524, w_5, by decide, by decide, by decide +kernel⟩
def fX6_fall_b89 (l1 : Int32) (l2 : Int32) (l4 : Int32) (M_r11 : (Nat → Int32)) (M_r15 : (Nat → Int32)) (M_x12 : Int32) (M_x18 : Int32) (v1 : (Int32 × Int32 × Int32 × Int32 × Int64 × Int64 × Int64 × (Nat → Int32) × (Nat → Int32) × Int32 × Int32 × Int32)) : Option ((Int32 × Int32 × Int32 × Int32 × Int64 × Int64 × Int64 × (Nat → Int32) × (Nat → Int32) × Int32 × Int32 × Int32) ⊕ (Int32 × Int32 × Int32 × Int64 × Int64 × Int64 × (Nat → Int32) × (Nat → Int32) × Int32 × Int32 × Int32)) :=
  if v1.2.2.2.1 = (0 : Int32) then (some (.inr (v1.1, v1.2.1, v1.2.2.1, v1.2.2.2.2.1, v1.2.2.2.2.2.1, v1.2.2.2.2.2.2.1, v1.2.2.2.2.2.2.2.1, v1.2.2.2.2.2.2.2.2.1, v1.2.2.2.2.2.2.2.2.2.1, v1.2.2.2.2.2.2.2.2.2.2.1, v1.2.2.2.2.2.2.2.2.2.2.2))) else (bd (if (0 : Int32) ≤ (lg_cmp v1.2.2.2.2.1 (0 : Int64)) then (ckL v1.2.2.2.2.2.1 (some (v1.2.2.2.2.1 / v1.2.2.2.2.2.1).toInt32)) else (some (0 : Int32))) (fun t1 => bd (if v1.1 ≤ (0 : Int32) then (some (0 : Int32)) else (some (1 : Int32))) (fun t2 => bd (if t2 = (0 : Int32) then (some (v1.1, v1.2.1, v1.2.2.1, t2, v1.2.2.2.2.1, v1.2.2.2.2.2.1, v1.2.2.2.2.2.2.1, v1.2.2.2.2.2.2.2.1, v1.2.2.2.2.2.2.2.2.1, v1.2.2.2.2.2.2.2.2.2.1, v1.2.2.2.2.2.2.2.2.2.2.1, v1.2.2.2.2.2.2.2.2.2.2.2)) else (bd (if (v1.2.1 + (1 : Int32)) = (l4 - (10 : Int32)) then some t1 else some v1.2.2.1) (fun t3 => bd (fX6_doesRest (M_r11) (M_r15) v1.2.2.2.2.2.2.2.1 v1.2.2.2.2.2.2.2.2.1 (M_x12) (M_x18) (l1) (l2) t1) (fun t4 => bd (if t4.1 = (0 : Int32) then (if t4.2.2.2.2.2.2.2.2 ≤ (0 : Int32) then (some (0 : Int32)) else (some (1 : Int32))) else (some (0 : Int32))) (fun t5 => some (t1, (v1.2.1 + (1 : Int32)), t3, t5, t4.2.1, t4.2.2.1, t4.2.2.2.1, t4.2.2.2.2.1, t4.2.2.2.2.2.1, t4.2.2.2.2.2.2.1, t4.2.2.2.2.2.2.2.1, t4.2.2.2.2.2.2.2.2)))))) (fun t6 => some (.inl (t6.1, t6.2.1, t6.2.2.1, t6.2.2.2.1, t6.2.2.2.2.1, t6.2.2.2.2.2.1, t6.2.2.2.2.2.2.1, t6.2.2.2.2.2.2.2.1, t6.2.2.2.2.2.2.2.2.1, t6.2.2.2.2.2.2.2.2.2.1, t6.2.2.2.2.2.2.2.2.2.2.1, t6.2.2.2.2.2.2.2.2.2.2.2))))))
def fX6_fall (M_g24 : Int64) (M_g25 : Int64) (M_g26 : Int64) (M_r11 : (Nat → Int32)) (M_r15 : (Nat → Int32)) (M_r21 : (Nat → Int32)) (M_r22 : (Nat → Int32)) (M_x12 : Int32) (M_x18 : Int32) (M_x19 : Int32) (M_x20 : Int32) (M_x23 : Int32) (a1 : Int32) (a2 : Int32) (a3 : Int32) (a4 : Int32) : Option (Int32 × Int64 × Int64 × Int64 × (Nat → Int32) × (Nat → Int32) × Int32 × Int32 × Int32) :=
  bd (fX6_isOffer a1 a2) (fun t1 => if t1 = (0 : Int32) then (some ((-1 : Int32), M_g24, M_g25, M_g26, M_r21, M_r22, M_x19, M_x20, M_x23)) else (bd (fX6_isPrice a3) (fun t4 => if t4 = (0 : Int32) then (some ((-1 : Int32), M_g24, M_g25, M_g26, M_r21, M_r22, M_x19, M_x20, M_x23)) else (bd (fX6_in a4.toInt64 (0 : Int64) (1 : Int64)) (fun t7 => bd ((if t7 = (0 : Int32) then (bd (fX6_in a4.toInt64 (10 : Int64) (99 : Int64)) (fun t10 => if t10 = (0 : Int32) then (some (.inl ((-1 : Int32), M_g24, M_g25, M_g26, M_r21, M_r22, M_x19, M_x20, M_x23))) else (some (.inr ())))) else (some (.inr ())) : Option ((Int32 × Int64 × Int64 × Int64 × (Nat → Int32) × (Nat → Int32) × Int32 × Int32 × Int32) ⊕ Unit))) (fun ot13 => sm ot13 (fun z => some z) (fun t13 => bd (if a4 = (10 : Int32) then some a3 else (some (-4 : Int32))) (fun t15 => bd (fX6_doesRest (M_r11) (M_r15) (M_r21) (M_r22) (M_x12) (M_x18) a1 a2 a3) (fun t16 => bd (if t16.1 = (0 : Int32) then (if t16.2.2.2.2.2.2.2.2 ≤ (0 : Int32) then (some (0 : Int32)) else (some (1 : Int32))) else (some (0 : Int32))) (fun t20 => bd (loopF (fX6_fall_b89 a1 a2 a4 M_r11 M_r15 M_x12 M_x18) 1000 (a3, (0 : Int32), t15, t20, t16.2.1, t16.2.2.1, t16.2.2.2.1, t16.2.2.2.2.1, t16.2.2.2.2.2.1, t16.2.2.2.2.2.2.1, t16.2.2.2.2.2.2.2.1, t16.2.2.2.2.2.2.2.2)) (fun T21 => if a4 = (1 : Int32) then (some (T21.2.1, T21.2.2.2.1, T21.2.2.2.2.1, T21.2.2.2.2.2.1, T21.2.2.2.2.2.2.1, T21.2.2.2.2.2.2.2.1, T21.2.2.2.2.2.2.2.2.1, T21.2.2.2.2.2.2.2.2.2.1, T21.2.2.2.2.2.2.2.2.2.2)) else (if a4 ≤ (1 : Int32) then (if T21.2.2.2.2.2.2.2.2.2.2 = (0 : Int32) then (some ((-4 : Int32), T21.2.2.2.1, T21.2.2.2.2.1, T21.2.2.2.2.2.1, T21.2.2.2.2.2.2.1, T21.2.2.2.2.2.2.2.1, T21.2.2.2.2.2.2.2.2.1, T21.2.2.2.2.2.2.2.2.2.1, T21.2.2.2.2.2.2.2.2.2.2)) else (if (0 : Int32) ≤ (lg_cmp T21.2.2.2.1 (T21.1.toInt64 * T21.2.2.2.2.1)) then (some (T21.1, T21.2.2.2.1, T21.2.2.2.2.1, T21.2.2.2.2.2.1, T21.2.2.2.2.2.2.1, T21.2.2.2.2.2.2.2.1, T21.2.2.2.2.2.2.2.2.1, T21.2.2.2.2.2.2.2.2.2.1, T21.2.2.2.2.2.2.2.2.2.2)) else (some ((-4 : Int32), T21.2.2.2.1, T21.2.2.2.2.1, T21.2.2.2.2.2.1, T21.2.2.2.2.2.2.1, T21.2.2.2.2.2.2.2.1, T21.2.2.2.2.2.2.2.2.1, T21.2.2.2.2.2.2.2.2.2.1, T21.2.2.2.2.2.2.2.2.2.2)))) else (some (T21.2.2.1, T21.2.2.2.1, T21.2.2.2.2.1, T21.2.2.2.2.2.1, T21.2.2.2.2.2.2.1, T21.2.2.2.2.2.2.2.1, T21.2.2.2.2.2.2.2.2.1, T21.2.2.2.2.2.2.2.2.2.1, T21.2.2.2.2.2.2.2.2.2.2))))))))))))))
set_option maxRecDepth 100000 in
set_option maxHeartbeats 4000000 in
theorem kX6_fall (l : Launch) (D : va_G) (cI cB cS : ClassId) (uM : Nat) (aM : Nat → Nat) (M_x1 : Int32) (M_x2 : Int32) (M_x3 : Int32) (M_x4 : Int32) (M_x5 : Int32) (M_x6 : Int32) (M_x7 : Int32) (M_x8 : Int32) (M_x12 : Int32) (M_x14 : Int32) (M_x17 : Int32) (M_x18 : Int32) (M_x19 : Int32) (M_x20 : Int32) (M_x23 : Int32) (M_x27 : Int32) (M_x29 : Int32) (M_x33 : Int32) (M_g24 : Int64) (M_g25 : Int64) (M_g26 : Int64) (M_g28 : Int64) (M_r0 : (Nat → Int32)) (M_r9 : (Nat → Int32)) (M_r10 : (Nat → Int32)) (M_r11 : (Nat → Int32)) (M_r13 : (Nat → Int32)) (M_r15 : (Nat → Int32)) (M_r16 : (Nat → Int32)) (M_r21 : (Nat → Int32)) (M_r22 : (Nat → Int32)) (M_r30 : (Nat → Int32)) (M_r31 : (Nat → Int32)) (M_r32 : (Nat → Int32)) (a1 : Int32) (a2 : Int32) (a3 : Int32) (a4 : Int32) (z : (Int32 × Int64 × Int64 × Int64 × (Nat → Int32) × (Nat → Int32) × Int32 × Int32 × Int32)) (h : fX6_fall M_g24 M_g25 M_g26 M_r11 M_r15 M_r21 M_r22 M_x12 M_x18 M_x19 M_x20 M_x23 a1 a2 a3 a4 = some z) : Mt l yX6_fall cX6_fall 10 (some .int) 5 115 D cI cB cS (mW cI uM aM M_x1 M_x2 M_x3 M_x4 M_x5 M_x6 M_x7 M_x8 M_x12 M_x14 M_x17 M_x18 M_x19 M_x20 M_x23 M_x27 M_x29 M_x33 M_g24 M_g25 M_g26 M_g28 M_r0 M_r9 M_r10 M_r11 M_r13 M_r15 M_r16 M_r21 M_r22 M_r30 M_r31 M_r32) (mW cI uM aM M_x1 M_x2 M_x3 M_x4 M_x5 M_x6 M_x7 M_x8 M_x12 M_x14 M_x17 M_x18 z.2.2.2.2.2.2.1 z.2.2.2.2.2.2.2.1 z.2.2.2.2.2.2.2.2 M_x27 M_x29 M_x33 z.2.1 z.2.2.1 z.2.2.2.1 M_g28 M_r0 M_r9 M_r10 M_r11 M_r13 M_r15 M_r16 z.2.2.2.2.1 z.2.2.2.2.2.1 M_r30 M_r31 M_r32) [.ref uM, .int a1, .int a2, .int a3, .int a4] (some (.int z.1)) := by
  refine entryI (by decide +kernel) rfl (Nat.le_of_ble_eq_true rfl) ?_
  intro p e s m below meth c A ls QQ R ar F hRet jP jD jS jl
  obtain ⟨hx, hb, hml, hown, hts, jK, hA, hf1, hf2⟩ := id F
  have jl : lv_has ls 10 [(0, .ref uM), (1, .int a1), (2, .int a2), (3, .int a3), (4, .int a4)] := jl
  unfold fX6_fall at h
  refine lv_iload_n hx hb dX6_fall_0 rfl (lv_at jl 1 rfl) ?_
  refine lv_iload_n hx hb dX6_fall_1 rfl (lv_at jl 2 rfl) ?_
  obtain ⟨t1, hc2, h⟩ := bd_some h
  refine call0 (As := [.int a1, .int a2]) (rest := []) (st1 := [.int t1]) F (kX6_isOffer l D cI cB cS  a1 a2 _ hc2 ) okX6_isOffer w_417 (by decide) (by decide) ⟨Nat.zero_le _, Nat.zero_le _⟩ jP jD jS rfl jl.1 rfl rfl (Nat.le_of_ble_eq_true rfl) dX6_fall_2 (fun H locs jP jD jS => ?_)
  refine lv_if_eq (tgt := 41) hx hb dX6_fall_5 (by decide) (fun c3 => ?_) (fun c3 => ?_)
  · have h := itp c3 h
    refine lv_iconst (v := (-1 : Int32)) hx hb dX6_fall_41 (by decide) ?_
    obtain rfl := Option.some.inj h
    exact hRet _ _ _ _ jP jD jS dX6_fall_42
  · have h := itn c3 h
    refine lv_iload_n hx hb dX6_fall_8 rfl (lv_at jl 3 rfl) ?_
    obtain ⟨t4, hc5, h⟩ := bd_some h
    refine call0 (As := [.int a3]) (rest := []) (st1 := [.int t4]) F (kX6_isPrice l D cI cB cS  a3 _ hc5 ) okX6_isPrice w_420 (by decide) (by decide) ⟨Nat.zero_le _, Nat.zero_le _⟩ jP jD jS rfl jl.1 rfl rfl (Nat.le_of_ble_eq_true rfl) dX6_fall_9 (fun H locs jP jD jS => ?_)
    refine lv_if_eq (tgt := 41) hx hb dX6_fall_12 (by decide) (fun c6 => ?_) (fun c6 => ?_)
    · have h := itp c6 h
      refine lv_iconst (v := (-1 : Int32)) hx hb dX6_fall_41 (by decide) ?_
      obtain rfl := Option.some.inj h
      exact hRet _ _ _ _ jP jD jS dX6_fall_42
    · have h := itn c6 h
      refine lv_iload hx hb dX6_fall_15 (lv_at jl 4 rfl) ?_
      refine lv_i2l (v := a4.toInt64) hx hb dX6_fall_17 rfl ?_
      refine lv_lconst (v := (0 : Int64)) hx hb dX6_fall_18 (by decide) ?_
      refine lv_lconst (v := (1 : Int64)) hx hb dX6_fall_19 (by decide) ?_
      obtain ⟨t7, hc8, h⟩ := bd_some h
      refine call0 (As := [.long a4.toInt64, .long (0 : Int64), .long (1 : Int64)]) (rest := []) (st1 := [.int t7]) F (kX6_in l D cI cB cS  a4.toInt64 (0 : Int64) (1 : Int64) _ hc8 ) okX6_in w_112 (by decide) (by decide) ⟨Nat.zero_le _, Nat.zero_le _⟩ jP jD jS rfl jl.1 rfl rfl (Nat.le_of_ble_eq_true rfl) dX6_fall_20 (fun H locs jP jD jS => ?_)
      obtain ⟨ot13, hvt13, hzt13⟩ := bd_some h
      clear h
      have hJt13 : ∀ (t13 : Unit), ot13 = .inr t13 → ∀ (H : Heap) (locs : List Loc) (ls : Array Slot), va_P D vwCl (mW cI uM aM M_x1 M_x2 M_x3 M_x4 M_x5 M_x6 M_x7 M_x8 M_x12 M_x14 M_x17 M_x18 M_x19 M_x20 M_x23 M_x27 M_x29 M_x33 M_g24 M_g25 M_g26 M_g28 M_r0 M_r9 M_r10 M_r11 M_r13 M_r15 M_r16 M_r21 M_r22 M_r30 M_r31 M_r32) H → va_D A (mW cI uM aM M_x1 M_x2 M_x3 M_x4 M_x5 M_x6 M_x7 M_x8 M_x12 M_x14 M_x17 M_x18 M_x19 M_x20 M_x23 M_x27 M_x29 M_x33 M_g24 M_g25 M_g26 M_g28 M_r0 M_r9 M_r10 M_r11 M_r13 M_r15 M_r16 M_r21 M_r22 M_r30 M_r31 M_r32) → va_S A s.heap H locs → lv_has ls 10 [(0, .ref uM), (1, .int a1), (2, .int a2), (3, .int a3), (4, .int a4)] → W p l e R s m ar below meth c H locs 0 0 QQ (F0 m 43 ls []) := by
        clear jP jD jS jl
        intro t13 ho H locs ls jP jD jS jl
        subst ho
        have h := sm_r hzt13
        refine lv_iload_n hx hb dX6_fall_43 rfl (lv_at jl 3 rfl) ?_
        refine lv_istore (lv' := [(5, .int a3), (0, .ref uM), (1, .int a1), (2, .int a2), (3, .int a3), (4, .int a4)]) hx hb dX6_fall_44 jl (by decide) rfl (fun ls jl => ?_)
        refine lv_iconst (v := (0 : Int32)) hx hb dX6_fall_46 (by decide) ?_
        refine lv_istore (lv' := [(6, .int (0 : Int32)), (5, .int a3), (0, .ref uM), (1, .int a1), (2, .int a2), (3, .int a3), (4, .int a4)]) hx hb dX6_fall_47 jl (by decide) rfl (fun ls jl => ?_)
        refine lv_iload hx hb dX6_fall_49 (lv_at jl 6 rfl) ?_
        refine lv_bipush (v := (10 : Int32)) hx hb dX6_fall_51 (by decide) ?_
        obtain ⟨t15, hvt15, h⟩ := bd_some h
        have hJt15 : ∀ (H : Heap) (locs : List Loc) (ls : Array Slot), va_P D vwCl (mW cI uM aM M_x1 M_x2 M_x3 M_x4 M_x5 M_x6 M_x7 M_x8 M_x12 M_x14 M_x17 M_x18 M_x19 M_x20 M_x23 M_x27 M_x29 M_x33 M_g24 M_g25 M_g26 M_g28 M_r0 M_r9 M_r10 M_r11 M_r13 M_r15 M_r16 M_r21 M_r22 M_r30 M_r31 M_r32) H → va_D A (mW cI uM aM M_x1 M_x2 M_x3 M_x4 M_x5 M_x6 M_x7 M_x8 M_x12 M_x14 M_x17 M_x18 M_x19 M_x20 M_x23 M_x27 M_x29 M_x33 M_g24 M_g25 M_g26 M_g28 M_r0 M_r9 M_r10 M_r11 M_r13 M_r15 M_r16 M_r21 M_r22 M_r30 M_r31 M_r32) → va_S A s.heap H locs → lv_has ls 10 [(0, .ref uM), (1, .int a1), (2, .int a2), (4, .int a4), (5, .int a3), (6, .int (0 : Int32))] → W p l e R s m ar below meth c H locs 0 0 QQ (F0 m 62 ls [.int t15]) := by
          clear jP jD jS jl
          intro H locs ls jP jD jS jl
          refine lv_istore (lv' := [(7, .int t15), (0, .ref uM), (1, .int a1), (2, .int a2), (4, .int a4), (5, .int a3), (6, .int (0 : Int32))]) hx hb dX6_fall_62 jl (by decide) rfl (fun ls jl => ?_)
          refine lv_aload_n hx hb dX6_fall_64 rfl (lv_at jl 1 rfl) ?_
          refine lv_iload_n hx hb dX6_fall_65 rfl (lv_at jl 2 rfl) ?_
          refine lv_iload_n hx hb dX6_fall_66 rfl (lv_at jl 3 rfl) ?_
          refine lv_iload hx hb dX6_fall_67 (lv_at jl 5 rfl) ?_
          obtain ⟨t16, hc17, h⟩ := bd_some h
          refine callW (w1 := (mW cI uM aM M_x1 M_x2 M_x3 M_x4 M_x5 M_x6 M_x7 M_x8 M_x12 M_x14 M_x17 M_x18 t16.2.2.2.2.2.2.1 t16.2.2.2.2.2.2.2.1 t16.2.2.2.2.2.2.2.2 M_x27 M_x29 M_x33 t16.2.1 t16.2.2.1 t16.2.2.2.1 M_g28 M_r0 M_r9 M_r10 M_r11 M_r13 M_r15 M_r16 t16.2.2.2.2.1 t16.2.2.2.2.2.1 M_r30 M_r31 M_r32)) (As := [.int a1, .int a2, .int a3]) (rest := []) (st1 := [.int t16.1]) 0 F (kX6_doesRest l D cI cB cS uM aM M_x1 M_x2 M_x3 M_x4 M_x5 M_x6 M_x7 M_x8 M_x12 M_x14 M_x17 M_x18 M_x19 M_x20 M_x23 M_x27 M_x29 M_x33 M_g24 M_g25 M_g26 M_g28 M_r0 M_r9 M_r10 M_r11 M_r13 M_r15 M_r16 M_r21 M_r22 M_r30 M_r31 M_r32 a1 a2 a3 _ hc17 ) okX6_doesRest w_500 (by decide) (by decide) ⟨Nat.zero_le _, Nat.zero_le _⟩ rfl rfl rfl jP jD jS rfl jl.1 rfl rfl (Nat.le_of_ble_eq_true rfl) dX6_fall_69 (fun H locs jP jD jS => ?_)
          obtain ⟨t20, hvt20, h⟩ := bd_some h
          have hJt20 : ∀ (H : Heap) (locs : List Loc) (ls : Array Slot), va_P D vwCl (mW cI uM aM M_x1 M_x2 M_x3 M_x4 M_x5 M_x6 M_x7 M_x8 M_x12 M_x14 M_x17 M_x18 t16.2.2.2.2.2.2.1 t16.2.2.2.2.2.2.2.1 t16.2.2.2.2.2.2.2.2 M_x27 M_x29 M_x33 t16.2.1 t16.2.2.1 t16.2.2.2.1 M_g28 M_r0 M_r9 M_r10 M_r11 M_r13 M_r15 M_r16 t16.2.2.2.2.1 t16.2.2.2.2.2.1 M_r30 M_r31 M_r32) H → va_D A (mW cI uM aM M_x1 M_x2 M_x3 M_x4 M_x5 M_x6 M_x7 M_x8 M_x12 M_x14 M_x17 M_x18 t16.2.2.2.2.2.2.1 t16.2.2.2.2.2.2.2.1 t16.2.2.2.2.2.2.2.2 M_x27 M_x29 M_x33 t16.2.1 t16.2.2.1 t16.2.2.2.1 M_g28 M_r0 M_r9 M_r10 M_r11 M_r13 M_r15 M_r16 t16.2.2.2.2.1 t16.2.2.2.2.2.1 M_r30 M_r31 M_r32) → va_S A s.heap H locs → lv_has ls 10 [(0, .ref uM), (1, .int a1), (2, .int a2), (4, .int a4), (5, .int a3), (6, .int (0 : Int32)), (7, .int t15)] → W p l e R s m ar below meth c H locs 0 0 QQ (F0 m 87 ls [.int t20]) := by
            clear jP jD jS jl
            intro H locs ls jP jD jS jl
            refine lv_istore (lv' := [(8, .int t20), (0, .ref uM), (1, .int a1), (2, .int a2), (4, .int a4), (5, .int a3), (6, .int (0 : Int32)), (7, .int t15)]) hx hb dX6_fall_87 jl (by decide) rfl (fun ls jl => ?_)
            obtain ⟨T21, hT21, hz21⟩ := bd_some h
            clear h
            have hE21 : ∀ (H : Heap) (locs : List Loc) (ls : Array Slot), va_P D vwCl (mW cI uM aM M_x1 M_x2 M_x3 M_x4 M_x5 M_x6 M_x7 M_x8 M_x12 M_x14 M_x17 M_x18 T21.2.2.2.2.2.2.2.2.1 T21.2.2.2.2.2.2.2.2.2.1 T21.2.2.2.2.2.2.2.2.2.2 M_x27 M_x29 M_x33 T21.2.2.2.1 T21.2.2.2.2.1 T21.2.2.2.2.2.1 M_g28 M_r0 M_r9 M_r10 M_r11 M_r13 M_r15 M_r16 T21.2.2.2.2.2.2.1 T21.2.2.2.2.2.2.2.1 M_r30 M_r31 M_r32) H → va_D A (mW cI uM aM M_x1 M_x2 M_x3 M_x4 M_x5 M_x6 M_x7 M_x8 M_x12 M_x14 M_x17 M_x18 T21.2.2.2.2.2.2.2.2.1 T21.2.2.2.2.2.2.2.2.2.1 T21.2.2.2.2.2.2.2.2.2.2 M_x27 M_x29 M_x33 T21.2.2.2.1 T21.2.2.2.2.1 T21.2.2.2.2.2.1 M_g28 M_r0 M_r9 M_r10 M_r11 M_r13 M_r15 M_r16 T21.2.2.2.2.2.2.1 T21.2.2.2.2.2.2.2.1 M_r30 M_r31 M_r32) → va_S A s.heap H locs → lv_has ls 10 [(0, .ref uM), (4, .int a4), (5, .int T21.1), (6, .int T21.2.1), (7, .int T21.2.2.1)] → W p l e R s m ar below meth c H locs 0 0 QQ (F0 m 190 ls []) := by
              clear jP jD jS jl
              intro H locs ls jP jD jS jl
              refine lv_iload hx hb dX6_fall_190 (lv_at jl 1 rfl) ?_
              refine lv_iconst (v := (1 : Int32)) hx hb dX6_fall_192 (by decide) ?_
              refine lv_icmp_ne (tgt := 201) hx hb dX6_fall_193 (by decide) (fun c36 => ?_) (fun c36 => ?_)
              · have hz21 := itn c36 hz21
                refine lv_iload hx hb dX6_fall_201 (lv_at jl 1 rfl) ?_
                refine lv_iconst (v := (1 : Int32)) hx hb dX6_fall_203 (by decide) ?_
                refine lv_icmp_le (tgt := 212) hx hb dX6_fall_204 (by decide) (fun c37 => ?_) (fun c37 => ?_)
                · have hz21 := itp c37 hz21
                  refine lv_aload_n hx hb dX6_fall_212 rfl (lv_at jl 0 rfl) ?_
                  refine va_get (D := D) (ci := 6) (v := .int T21.2.2.2.2.2.2.2.2.2.2) (C := RX6) (T := TX6) (N := 34) hx hb hts in6 hown jK.1 jP 0 rfl rfl 23 (by decide) (hts _ w_416) (fun _ h9 => h9) rfl dX6_fall_213 ?_
                  refine lv_if_eq (tgt := 235) hx hb dX6_fall_216 (by decide) (fun c38 => ?_) (fun c38 => ?_)
                  · have hz21 := itp c38 hz21
                    refine lv_bipush (v := (-4 : Int32)) hx hb dX6_fall_235 (by decide) ?_
                    refine lv_goto (tgt := 242) hx hb dX6_fall_237 (by decide) ?_
                    obtain rfl := Option.some.inj hz21
                    exact hRet _ _ _ _ jP jD jS dX6_fall_242
                  · have hz21 := itn c38 hz21
                    refine lv_aload_n hx hb dX6_fall_219 rfl (lv_at jl 0 rfl) ?_
                    refine va_get (D := D) (ci := 6) (v := .long T21.2.2.2.1) (C := RX6) (T := TX6) (N := 34) hx hb hts in6 hown jK.1 jP 0 rfl rfl 24 (by decide) (hts _ w_427) (fun _ h9 => h9) rfl dX6_fall_220 ?_
                    refine lv_iload hx hb dX6_fall_223 (lv_at jl 2 rfl) ?_
                    refine lv_i2l (v := T21.1.toInt64) hx hb dX6_fall_225 rfl ?_
                    refine lv_aload_n hx hb dX6_fall_226 rfl (lv_at jl 0 rfl) ?_
                    refine va_get (D := D) (ci := 6) (v := .long T21.2.2.2.2.1) (C := RX6) (T := TX6) (N := 34) hx hb hts in6 hown jK.1 jP 0 rfl rfl 25 (by decide) (hts _ w_430) (fun _ h9 => h9) rfl dX6_fall_227 ?_
                    refine lv_lmul hx hb dX6_fall_230 ?_
                    refine W.lcmp hx hb dX6_fall_231 ?_
                    refine lv_if_ge (tgt := 240) hx hb dX6_fall_232 (by decide) (fun c39 => ?_) (fun c39 => ?_)
                    · have hz21 := itp c39 hz21
                      refine lv_iload hx hb dX6_fall_240 (lv_at jl 2 rfl) ?_
                      obtain rfl := Option.some.inj hz21
                      exact hRet _ _ _ _ jP jD jS dX6_fall_242
                    · have hz21 := itn c39 hz21
                      refine lv_bipush (v := (-4 : Int32)) hx hb dX6_fall_235 (by decide) ?_
                      refine lv_goto (tgt := 242) hx hb dX6_fall_237 (by decide) ?_
                      obtain rfl := Option.some.inj hz21
                      exact hRet _ _ _ _ jP jD jS dX6_fall_242
                · have hz21 := itn c37 hz21
                  refine lv_iload hx hb dX6_fall_207 (lv_at jl 4 rfl) ?_
                  refine lv_goto (tgt := 242) hx hb dX6_fall_209 (by decide) ?_
                  obtain rfl := Option.some.inj hz21
                  exact hRet _ _ _ _ jP jD jS dX6_fall_242
              · have hz21 := itp c36 hz21
                refine lv_iload hx hb dX6_fall_196 (lv_at jl 3 rfl) ?_
                refine lv_goto (tgt := 242) hx hb dX6_fall_198 (by decide) ?_
                obtain rfl := Option.some.inj hz21
                exact hRet _ _ _ _ jP jD jS dX6_fall_242
            have hL21 : ∀ (n : Nat) (v21 : (Int32 × Int32 × Int32 × Int32 × Int64 × Int64 × Int64 × (Nat → Int32) × (Nat → Int32) × Int32 × Int32 × Int32)), loopF (fX6_fall_b89 a1 a2 a4 M_r11 M_r15 M_x12 M_x18) n v21 = some T21 → ∀ (H : Heap) (locs : List Loc) (ls : Array Slot), va_P D vwCl (mW cI uM aM M_x1 M_x2 M_x3 M_x4 M_x5 M_x6 M_x7 M_x8 M_x12 M_x14 M_x17 M_x18 v21.2.2.2.2.2.2.2.2.2.1 v21.2.2.2.2.2.2.2.2.2.2.1 v21.2.2.2.2.2.2.2.2.2.2.2 M_x27 M_x29 M_x33 v21.2.2.2.2.1 v21.2.2.2.2.2.1 v21.2.2.2.2.2.2.1 M_g28 M_r0 M_r9 M_r10 M_r11 M_r13 M_r15 M_r16 v21.2.2.2.2.2.2.2.1 v21.2.2.2.2.2.2.2.2.1 M_r30 M_r31 M_r32) H → va_D A (mW cI uM aM M_x1 M_x2 M_x3 M_x4 M_x5 M_x6 M_x7 M_x8 M_x12 M_x14 M_x17 M_x18 v21.2.2.2.2.2.2.2.2.2.1 v21.2.2.2.2.2.2.2.2.2.2.1 v21.2.2.2.2.2.2.2.2.2.2.2 M_x27 M_x29 M_x33 v21.2.2.2.2.1 v21.2.2.2.2.2.1 v21.2.2.2.2.2.2.1 M_g28 M_r0 M_r9 M_r10 M_r11 M_r13 M_r15 M_r16 v21.2.2.2.2.2.2.2.1 v21.2.2.2.2.2.2.2.2.1 M_r30 M_r31 M_r32) → va_S A s.heap H locs → lv_has ls 10 [(0, .ref uM), (1, .int a1), (2, .int a2), (4, .int a4), (5, .int v21.1), (6, .int v21.2.1), (7, .int v21.2.2.1), (8, .int v21.2.2.2.1)] → W p l e R s m ar below meth c H locs 0 0 QQ (F0 m 89 ls []) := by
              clear jP jD jS jl hT21
              intro n
              induction n with
              | zero => intro v21 hq; exact (loop_none hq).elim
              | succ n ih =>
                intro v21 hq H locs ls jP jD jS jl
                obtain ⟨o21, hv21, hq21⟩ := loop_some hq
                clear hq
                unfold fX6_fall_b89 at hv21
                refine lv_iload hx hb dX6_fall_89 (lv_at jl 7 rfl) ?_
                refine lv_if_eq (tgt := 190) hx hb dX6_fall_91 (by decide) (fun c22 => ?_) (fun c22 => ?_)
                · have hv21 := itp c22 hv21
                  obtain rfl := Option.some.inj hv21
                  obtain rfl := nxt_r hq21
                  exact hE21 _ _ _ jP jD jS (lv_sub jl [0, 3, 4, 5, 6] rfl)
                · have hv21 := itn c22 hv21
                  refine lv_aload_n hx hb dX6_fall_94 rfl (lv_at jl 0 rfl) ?_
                  refine va_get (D := D) (ci := 6) (v := .long v21.2.2.2.2.1) (C := RX6) (T := TX6) (N := 34) hx hb hts in6 hown jK.1 jP 0 rfl rfl 24 (by decide) (hts _ w_427) (fun _ h9 => h9) rfl dX6_fall_95 ?_
                  refine lv_lconst (v := (0 : Int64)) hx hb dX6_fall_98 (by decide) ?_
                  refine W.lcmp hx hb dX6_fall_99 ?_
                  obtain ⟨t24, hvt24, hv21⟩ := bd_some hv21
                  have hJt24 : ∀ (H : Heap) (locs : List Loc) (ls : Array Slot), va_P D vwCl (mW cI uM aM M_x1 M_x2 M_x3 M_x4 M_x5 M_x6 M_x7 M_x8 M_x12 M_x14 M_x17 M_x18 v21.2.2.2.2.2.2.2.2.2.1 v21.2.2.2.2.2.2.2.2.2.2.1 v21.2.2.2.2.2.2.2.2.2.2.2 M_x27 M_x29 M_x33 v21.2.2.2.2.1 v21.2.2.2.2.2.1 v21.2.2.2.2.2.2.1 M_g28 M_r0 M_r9 M_r10 M_r11 M_r13 M_r15 M_r16 v21.2.2.2.2.2.2.2.1 v21.2.2.2.2.2.2.2.2.1 M_r30 M_r31 M_r32) H → va_D A (mW cI uM aM M_x1 M_x2 M_x3 M_x4 M_x5 M_x6 M_x7 M_x8 M_x12 M_x14 M_x17 M_x18 v21.2.2.2.2.2.2.2.2.2.1 v21.2.2.2.2.2.2.2.2.2.2.1 v21.2.2.2.2.2.2.2.2.2.2.2 M_x27 M_x29 M_x33 v21.2.2.2.2.1 v21.2.2.2.2.2.1 v21.2.2.2.2.2.2.1 M_g28 M_r0 M_r9 M_r10 M_r11 M_r13 M_r15 M_r16 v21.2.2.2.2.2.2.2.1 v21.2.2.2.2.2.2.2.2.1 M_r30 M_r31 M_r32) → va_S A s.heap H locs → lv_has ls 10 [(0, .ref uM), (1, .int a1), (2, .int a2), (4, .int a4), (5, .int v21.1), (6, .int v21.2.1), (7, .int v21.2.2.1)] → W p l e R s m ar below meth c H locs 0 0 QQ (F0 m 117 ls [.int t24]) := by
                    clear jP jD jS jl
                    intro H locs ls jP jD jS jl
                    refine lv_istore (lv' := [(9, .int t24), (0, .ref uM), (1, .int a1), (2, .int a2), (4, .int a4), (5, .int v21.1), (6, .int v21.2.1), (7, .int v21.2.2.1)]) hx hb dX6_fall_117 jl (by decide) rfl (fun ls jl => ?_)
                    refine lv_iload hx hb dX6_fall_119 (lv_at jl 5 rfl) ?_
                    obtain ⟨t26, hvt26, hv21⟩ := bd_some hv21
                    have hJt26 : ∀ (H : Heap) (locs : List Loc) (ls : Array Slot), va_P D vwCl (mW cI uM aM M_x1 M_x2 M_x3 M_x4 M_x5 M_x6 M_x7 M_x8 M_x12 M_x14 M_x17 M_x18 v21.2.2.2.2.2.2.2.2.2.1 v21.2.2.2.2.2.2.2.2.2.2.1 v21.2.2.2.2.2.2.2.2.2.2.2 M_x27 M_x29 M_x33 v21.2.2.2.2.1 v21.2.2.2.2.2.1 v21.2.2.2.2.2.2.1 M_g28 M_r0 M_r9 M_r10 M_r11 M_r13 M_r15 M_r16 v21.2.2.2.2.2.2.2.1 v21.2.2.2.2.2.2.2.2.1 M_r30 M_r31 M_r32) H → va_D A (mW cI uM aM M_x1 M_x2 M_x3 M_x4 M_x5 M_x6 M_x7 M_x8 M_x12 M_x14 M_x17 M_x18 v21.2.2.2.2.2.2.2.2.2.1 v21.2.2.2.2.2.2.2.2.2.2.1 v21.2.2.2.2.2.2.2.2.2.2.2 M_x27 M_x29 M_x33 v21.2.2.2.2.1 v21.2.2.2.2.2.1 v21.2.2.2.2.2.2.1 M_g28 M_r0 M_r9 M_r10 M_r11 M_r13 M_r15 M_r16 v21.2.2.2.2.2.2.2.1 v21.2.2.2.2.2.2.2.2.1 M_r30 M_r31 M_r32) → va_S A s.heap H locs → lv_has ls 10 [(0, .ref uM), (1, .int a1), (2, .int a2), (4, .int a4), (5, .int v21.1), (6, .int v21.2.1), (7, .int v21.2.2.1), (9, .int t24)] → W p l e R s m ar below meth c H locs 0 0 QQ (F0 m 129 ls [.int t26]) := by
                      clear jP jD jS jl
                      intro H locs ls jP jD jS jl
                      refine lv_istore (lv' := [(8, .int t26), (0, .ref uM), (1, .int a1), (2, .int a2), (4, .int a4), (5, .int v21.1), (6, .int v21.2.1), (7, .int v21.2.2.1), (9, .int t24)]) hx hb dX6_fall_129 jl (by decide) rfl (fun ls jl => ?_)
                      refine lv_iload hx hb dX6_fall_131 (lv_at jl 0 rfl) ?_
                      obtain ⟨t35, hvt35, hv21⟩ := bd_some hv21
                      have hJt35 : ∀ (H : Heap) (locs : List Loc) (ls : Array Slot), va_P D vwCl (mW cI uM aM M_x1 M_x2 M_x3 M_x4 M_x5 M_x6 M_x7 M_x8 M_x12 M_x14 M_x17 M_x18 t35.2.2.2.2.2.2.2.2.2.1 t35.2.2.2.2.2.2.2.2.2.2.1 t35.2.2.2.2.2.2.2.2.2.2.2 M_x27 M_x29 M_x33 t35.2.2.2.2.1 t35.2.2.2.2.2.1 t35.2.2.2.2.2.2.1 M_g28 M_r0 M_r9 M_r10 M_r11 M_r13 M_r15 M_r16 t35.2.2.2.2.2.2.2.1 t35.2.2.2.2.2.2.2.2.1 M_r30 M_r31 M_r32) H → va_D A (mW cI uM aM M_x1 M_x2 M_x3 M_x4 M_x5 M_x6 M_x7 M_x8 M_x12 M_x14 M_x17 M_x18 t35.2.2.2.2.2.2.2.2.2.1 t35.2.2.2.2.2.2.2.2.2.2.1 t35.2.2.2.2.2.2.2.2.2.2.2 M_x27 M_x29 M_x33 t35.2.2.2.2.1 t35.2.2.2.2.2.1 t35.2.2.2.2.2.2.1 M_g28 M_r0 M_r9 M_r10 M_r11 M_r13 M_r15 M_r16 t35.2.2.2.2.2.2.2.1 t35.2.2.2.2.2.2.2.2.1 M_r30 M_r31 M_r32) → va_S A s.heap H locs → lv_has ls 10 [(0, .ref uM), (1, .int a1), (2, .int a2), (4, .int a4), (5, .int t35.1), (6, .int t35.2.1), (7, .int t35.2.2.1), (8, .int t35.2.2.2.1)] → W p l e R s m ar below meth c H locs 0 0 QQ (F0 m 187 ls []) := by
                        clear jP jD jS jl
                        intro H locs ls jP jD jS jl
                        refine lv_goto (tgt := 89) hx hb dX6_fall_187 (by decide) ?_
                        obtain rfl := Option.some.inj hv21
                        exact ih _ (nxt_l hq21) _ _ _ jP jD jS (lv_sub jl [0, 1, 2, 3, 4, 5, 6, 7] rfl)
                      clear hv21
                      refine lv_if_eq (tgt := 187) hx hb dX6_fall_133 (by decide) (fun c27 => ?_) (fun c27 => ?_)
                      · have hvt35 := itp c27 hvt35
                        obtain rfl := Option.some.inj hvt35
                        exact hJt35 _ _ _ jP jD jS (lv_sub jl [1, 2, 3, 4, 5, 6, 7, 0] rfl)
                      · have hvt35 := itn c27 hvt35
                        refine lv_iload hx hb dX6_fall_136 (lv_at jl 8 rfl) ?_
                        refine lv_istore (lv' := [(5, .int t24), (8, .int t26), (0, .ref uM), (1, .int a1), (2, .int a2), (4, .int a4), (6, .int v21.2.1), (7, .int v21.2.2.1), (9, .int t24)]) hx hb dX6_fall_138 jl (by decide) rfl (fun ls jl => ?_)
                        refine lv_iinc (v := (v21.2.1 + (1 : Int32))) (lv' := [(6, .int (v21.2.1 + (1 : Int32))), (5, .int t24), (8, .int t26), (0, .ref uM), (1, .int a1), (2, .int a2), (4, .int a4), (7, .int v21.2.2.1), (9, .int t24)]) hx hb dX6_fall_140 jl (k := 6) rfl rfl (by decide) rfl (fun ls jl => ?_)
                        refine lv_iload hx hb dX6_fall_143 (lv_at jl 0 rfl) ?_
                        refine lv_iload hx hb dX6_fall_145 (lv_at jl 6 rfl) ?_
                        refine lv_bipush (v := (10 : Int32)) hx hb dX6_fall_147 (by decide) ?_
                        refine lv_isub hx hb dX6_fall_149 ?_
                        obtain ⟨t29, hvt29, hvt35⟩ := bd_some hvt35
                        have hJt29 : ∀ (H : Heap) (locs : List Loc) (ls : Array Slot), va_P D vwCl (mW cI uM aM M_x1 M_x2 M_x3 M_x4 M_x5 M_x6 M_x7 M_x8 M_x12 M_x14 M_x17 M_x18 v21.2.2.2.2.2.2.2.2.2.1 v21.2.2.2.2.2.2.2.2.2.2.1 v21.2.2.2.2.2.2.2.2.2.2.2 M_x27 M_x29 M_x33 v21.2.2.2.2.1 v21.2.2.2.2.2.1 v21.2.2.2.2.2.2.1 M_g28 M_r0 M_r9 M_r10 M_r11 M_r13 M_r15 M_r16 v21.2.2.2.2.2.2.2.1 v21.2.2.2.2.2.2.2.2.1 M_r30 M_r31 M_r32) H → va_D A (mW cI uM aM M_x1 M_x2 M_x3 M_x4 M_x5 M_x6 M_x7 M_x8 M_x12 M_x14 M_x17 M_x18 v21.2.2.2.2.2.2.2.2.2.1 v21.2.2.2.2.2.2.2.2.2.2.1 v21.2.2.2.2.2.2.2.2.2.2.2 M_x27 M_x29 M_x33 v21.2.2.2.2.1 v21.2.2.2.2.2.1 v21.2.2.2.2.2.2.1 M_g28 M_r0 M_r9 M_r10 M_r11 M_r13 M_r15 M_r16 v21.2.2.2.2.2.2.2.1 v21.2.2.2.2.2.2.2.2.1 M_r30 M_r31 M_r32) → va_S A s.heap H locs → lv_has ls 10 [(0, .ref uM), (1, .int a1), (2, .int a2), (4, .int a4), (5, .int t24), (6, .int (v21.2.1 + (1 : Int32)))] → W p l e R s m ar below meth c H locs 0 0 QQ (F0 m 160 ls [.int t29]) := by
                          clear jP jD jS jl
                          intro H locs ls jP jD jS jl
                          refine lv_istore (lv' := [(7, .int t29), (0, .ref uM), (1, .int a1), (2, .int a2), (4, .int a4), (5, .int t24), (6, .int (v21.2.1 + (1 : Int32)))]) hx hb dX6_fall_160 jl (by decide) rfl (fun ls jl => ?_)
                          refine lv_aload_n hx hb dX6_fall_162 rfl (lv_at jl 1 rfl) ?_
                          refine lv_iload_n hx hb dX6_fall_163 rfl (lv_at jl 2 rfl) ?_
                          refine lv_iload_n hx hb dX6_fall_164 rfl (lv_at jl 3 rfl) ?_
                          refine lv_iload hx hb dX6_fall_165 (lv_at jl 5 rfl) ?_
                          obtain ⟨t30, hc31, hvt35⟩ := bd_some hvt35
                          refine callW (w1 := (mW cI uM aM M_x1 M_x2 M_x3 M_x4 M_x5 M_x6 M_x7 M_x8 M_x12 M_x14 M_x17 M_x18 t30.2.2.2.2.2.2.1 t30.2.2.2.2.2.2.2.1 t30.2.2.2.2.2.2.2.2 M_x27 M_x29 M_x33 t30.2.1 t30.2.2.1 t30.2.2.2.1 M_g28 M_r0 M_r9 M_r10 M_r11 M_r13 M_r15 M_r16 t30.2.2.2.2.1 t30.2.2.2.2.2.1 M_r30 M_r31 M_r32)) (As := [.int a1, .int a2, .int t24]) (rest := []) (st1 := [.int t30.1]) 0 F (kX6_doesRest l D cI cB cS uM aM M_x1 M_x2 M_x3 M_x4 M_x5 M_x6 M_x7 M_x8 M_x12 M_x14 M_x17 M_x18 v21.2.2.2.2.2.2.2.2.2.1 v21.2.2.2.2.2.2.2.2.2.2.1 v21.2.2.2.2.2.2.2.2.2.2.2 M_x27 M_x29 M_x33 v21.2.2.2.2.1 v21.2.2.2.2.2.1 v21.2.2.2.2.2.2.1 M_g28 M_r0 M_r9 M_r10 M_r11 M_r13 M_r15 M_r16 v21.2.2.2.2.2.2.2.1 v21.2.2.2.2.2.2.2.2.1 M_r30 M_r31 M_r32 a1 a2 t24 _ hc31 ) okX6_doesRest w_500 (by decide) (by decide) ⟨Nat.zero_le _, Nat.zero_le _⟩ rfl rfl rfl jP jD jS rfl jl.1 rfl rfl (Nat.le_of_ble_eq_true rfl) dX6_fall_167 (fun H locs jP jD jS => ?_)
                          obtain ⟨t34, hvt34, hvt35⟩ := bd_some hvt35
                          have hJt34 : ∀ (H : Heap) (locs : List Loc) (ls : Array Slot), va_P D vwCl (mW cI uM aM M_x1 M_x2 M_x3 M_x4 M_x5 M_x6 M_x7 M_x8 M_x12 M_x14 M_x17 M_x18 t30.2.2.2.2.2.2.1 t30.2.2.2.2.2.2.2.1 t30.2.2.2.2.2.2.2.2 M_x27 M_x29 M_x33 t30.2.1 t30.2.2.1 t30.2.2.2.1 M_g28 M_r0 M_r9 M_r10 M_r11 M_r13 M_r15 M_r16 t30.2.2.2.2.1 t30.2.2.2.2.2.1 M_r30 M_r31 M_r32) H → va_D A (mW cI uM aM M_x1 M_x2 M_x3 M_x4 M_x5 M_x6 M_x7 M_x8 M_x12 M_x14 M_x17 M_x18 t30.2.2.2.2.2.2.1 t30.2.2.2.2.2.2.2.1 t30.2.2.2.2.2.2.2.2 M_x27 M_x29 M_x33 t30.2.1 t30.2.2.1 t30.2.2.2.1 M_g28 M_r0 M_r9 M_r10 M_r11 M_r13 M_r15 M_r16 t30.2.2.2.2.1 t30.2.2.2.2.2.1 M_r30 M_r31 M_r32) → va_S A s.heap H locs → lv_has ls 10 [(0, .ref uM), (1, .int a1), (2, .int a2), (4, .int a4), (5, .int t24), (6, .int (v21.2.1 + (1 : Int32))), (7, .int t29)] → W p l e R s m ar below meth c H locs 0 0 QQ (F0 m 185 ls [.int t34]) := by
                            clear jP jD jS jl
                            intro H locs ls jP jD jS jl
                            refine lv_istore (lv' := [(8, .int t34), (0, .ref uM), (1, .int a1), (2, .int a2), (4, .int a4), (5, .int t24), (6, .int (v21.2.1 + (1 : Int32))), (7, .int t29)]) hx hb dX6_fall_185 jl (by decide) rfl (fun ls jl => ?_)
                            obtain rfl := Option.some.inj hvt35
                            exact hJt35 _ _ _ jP jD jS (lv_sub jl [1, 2, 3, 4, 5, 6, 7, 0] rfl)
                          clear hvt35
                          refine lv_if_ne (tgt := 184) hx hb dX6_fall_170 (by decide) (fun c32 => ?_) (fun c32 => ?_)
                          · have hvt34 := itn c32 hvt34
                            refine lv_iconst (v := (0 : Int32)) hx hb dX6_fall_184 (by decide) ?_
                            obtain rfl := Option.some.inj hvt34
                            exact hJt34 _ _ _ jP jD jS (lv_sub jl [1, 2, 3, 4, 5, 6, 0] rfl)
                          · have hvt34 := itp c32 hvt34
                            refine lv_aload_n hx hb dX6_fall_173 rfl (lv_at jl 1 rfl) ?_
                            refine va_get (D := D) (ci := 6) (v := .int t30.2.2.2.2.2.2.2.2) (C := RX6) (T := TX6) (N := 34) hx hb hts in6 hown jK.1 jP 0 rfl rfl 23 (by decide) (hts _ w_416) (fun _ h9 => h9) rfl dX6_fall_174 ?_
                            refine lv_if_le (tgt := 184) hx hb dX6_fall_177 (by decide) (fun c33 => ?_) (fun c33 => ?_)
                            · have hvt34 := itp c33 hvt34
                              refine lv_iconst (v := (0 : Int32)) hx hb dX6_fall_184 (by decide) ?_
                              obtain rfl := Option.some.inj hvt34
                              exact hJt34 _ _ _ jP jD jS (lv_sub jl [1, 2, 3, 4, 5, 6, 0] rfl)
                            · have hvt34 := itn c33 hvt34
                              refine lv_iconst (v := (1 : Int32)) hx hb dX6_fall_180 (by decide) ?_
                              refine lv_goto (tgt := 185) hx hb dX6_fall_181 (by decide) ?_
                              obtain rfl := Option.some.inj hvt34
                              exact hJt34 _ _ _ jP jD jS (lv_sub jl [1, 2, 3, 4, 5, 6, 0] rfl)
                        clear hvt35
                        refine lv_icmp_ne (tgt := 158) hx hb dX6_fall_150 (by decide) (fun c28 => ?_) (fun c28 => ?_)
                        · have hvt29 := itn c28 hvt29
                          refine lv_iload hx hb dX6_fall_158 (lv_at jl 7 rfl) ?_
                          obtain rfl := Option.some.inj hvt29
                          exact hJt29 _ _ _ jP jD jS (lv_sub jl [3, 4, 5, 6, 1, 0] rfl)
                        · have hvt29 := itp c28 hvt29
                          refine lv_iload hx hb dX6_fall_153 (lv_at jl 1 rfl) ?_
                          refine lv_goto (tgt := 160) hx hb dX6_fall_155 (by decide) ?_
                          obtain rfl := Option.some.inj hvt29
                          exact hJt29 _ _ _ jP jD jS (lv_sub jl [3, 4, 5, 6, 1, 0] rfl)
                    clear hv21
                    refine lv_if_le (tgt := 128) hx hb dX6_fall_121 (by decide) (fun c25 => ?_) (fun c25 => ?_)
                    · have hvt26 := itp c25 hvt26
                      refine lv_iconst (v := (0 : Int32)) hx hb dX6_fall_128 (by decide) ?_
                      obtain rfl := Option.some.inj hvt26
                      exact hJt26 _ _ _ jP jD jS (lv_sub jl [1, 2, 3, 4, 5, 6, 7, 0] rfl)
                    · have hvt26 := itn c25 hvt26
                      refine lv_iconst (v := (1 : Int32)) hx hb dX6_fall_124 (by decide) ?_
                      refine lv_goto (tgt := 129) hx hb dX6_fall_125 (by decide) ?_
                      obtain rfl := Option.some.inj hvt26
                      exact hJt26 _ _ _ jP jD jS (lv_sub jl [1, 2, 3, 4, 5, 6, 7, 0] rfl)
                  clear hv21
                  refine lv_if_ge (tgt := 107) hx hb dX6_fall_100 (by decide) (fun c23 => ?_) (fun c23 => ?_)
                  · have hvt24 := itp c23 hvt24
                    refine lv_aload_n hx hb dX6_fall_107 rfl (lv_at jl 0 rfl) ?_
                    refine va_get (D := D) (ci := 6) (v := .long v21.2.2.2.2.1) (C := RX6) (T := TX6) (N := 34) hx hb hts in6 hown jK.1 jP 0 rfl rfl 24 (by decide) (hts _ w_427) (fun _ h9 => h9) rfl dX6_fall_108 ?_
                    refine lv_aload_n hx hb dX6_fall_111 rfl (lv_at jl 0 rfl) ?_
                    refine va_get (D := D) (ci := 6) (v := .long v21.2.2.2.2.2.1) (C := RX6) (T := TX6) (N := 34) hx hb hts in6 hown jK.1 jP 0 rfl rfl 25 (by decide) (hts _ w_430) (fun _ h9 => h9) rfl dX6_fall_112 ?_
                    obtain ⟨hne, hvt24⟩ := ckL_some hvt24
                    refine lv_ldiv hx hb dX6_fall_115 hne ?_
                    refine lv_l2i (v := (v21.2.2.2.2.1 / v21.2.2.2.2.2.1).toInt32) hx hb dX6_fall_116 rfl ?_
                    obtain rfl := Option.some.inj hvt24
                    exact hJt24 _ _ _ jP jD jS (lv_sub jl [0, 1, 2, 3, 4, 5, 6] rfl)
                  · have hvt24 := itn c23 hvt24
                    refine lv_iconst (v := (0 : Int32)) hx hb dX6_fall_103 (by decide) ?_
                    refine lv_goto (tgt := 117) hx hb dX6_fall_104 (by decide) ?_
                    obtain rfl := Option.some.inj hvt24
                    exact hJt24 _ _ _ jP jD jS (lv_sub jl [0, 1, 2, 3, 4, 5, 6] rfl)
            exact hL21 1000 _ hT21 _ _ _ jP jD jS (lv_sub jl [1, 2, 3, 4, 5, 6, 7, 0] rfl)
          clear h
          refine lv_if_ne (tgt := 86) hx hb dX6_fall_72 (by decide) (fun c18 => ?_) (fun c18 => ?_)
          · have hvt20 := itn c18 hvt20
            refine lv_iconst (v := (0 : Int32)) hx hb dX6_fall_86 (by decide) ?_
            obtain rfl := Option.some.inj hvt20
            exact hJt20 _ _ _ jP jD jS (lv_sub jl [1, 2, 3, 4, 5, 6, 0] rfl)
          · have hvt20 := itp c18 hvt20
            refine lv_aload_n hx hb dX6_fall_75 rfl (lv_at jl 1 rfl) ?_
            refine va_get (D := D) (ci := 6) (v := .int t16.2.2.2.2.2.2.2.2) (C := RX6) (T := TX6) (N := 34) hx hb hts in6 hown jK.1 jP 0 rfl rfl 23 (by decide) (hts _ w_416) (fun _ h9 => h9) rfl dX6_fall_76 ?_
            refine lv_if_le (tgt := 86) hx hb dX6_fall_79 (by decide) (fun c19 => ?_) (fun c19 => ?_)
            · have hvt20 := itp c19 hvt20
              refine lv_iconst (v := (0 : Int32)) hx hb dX6_fall_86 (by decide) ?_
              obtain rfl := Option.some.inj hvt20
              exact hJt20 _ _ _ jP jD jS (lv_sub jl [1, 2, 3, 4, 5, 6, 0] rfl)
            · have hvt20 := itn c19 hvt20
              refine lv_iconst (v := (1 : Int32)) hx hb dX6_fall_82 (by decide) ?_
              refine lv_goto (tgt := 87) hx hb dX6_fall_83 (by decide) ?_
              obtain rfl := Option.some.inj hvt20
              exact hJt20 _ _ _ jP jD jS (lv_sub jl [1, 2, 3, 4, 5, 6, 0] rfl)
        clear h
        refine lv_icmp_ne (tgt := 60) hx hb dX6_fall_53 (by decide) (fun c14 => ?_) (fun c14 => ?_)
        · have hvt15 := itn c14 hvt15
          refine lv_bipush (v := (-4 : Int32)) hx hb dX6_fall_60 (by decide) ?_
          obtain rfl := Option.some.inj hvt15
          exact hJt15 _ _ _ jP jD jS (lv_sub jl [2, 3, 4, 6, 1, 0] rfl)
        · have hvt15 := itp c14 hvt15
          refine lv_iload_n hx hb dX6_fall_56 rfl (lv_at jl 5 rfl) ?_
          refine lv_goto (tgt := 62) hx hb dX6_fall_57 (by decide) ?_
          obtain rfl := Option.some.inj hvt15
          exact hJt15 _ _ _ jP jD jS (lv_sub jl [2, 3, 4, 6, 1, 0] rfl)
      refine lv_if_ne (tgt := 43) hx hb dX6_fall_23 (by decide) (fun c9 => ?_) (fun c9 => ?_)
      · have hvt13 := itn c9 hvt13
        obtain rfl := Option.some.inj hvt13
        exact hJt13 _ rfl _ _ _ jP jD jS (lv_sub jl [0, 1, 2, 3, 4] rfl)
      · have hvt13 := itp c9 hvt13
        refine lv_iload hx hb dX6_fall_26 (lv_at jl 4 rfl) ?_
        refine lv_i2l (v := a4.toInt64) hx hb dX6_fall_28 rfl ?_
        refine lv_ldc2 (v := (10 : Int64)) hx hb hown (hts _ w_290) dX6_fall_29 ?_
        refine lv_ldc2 (v := (99 : Int64)) hx hb hown (hts _ w_289) dX6_fall_32 ?_
        obtain ⟨t10, hc11, hvt13⟩ := bd_some hvt13
        refine call0 (As := [.long a4.toInt64, .long (10 : Int64), .long (99 : Int64)]) (rest := []) (st1 := [.int t10]) F (kX6_in l D cI cB cS  a4.toInt64 (10 : Int64) (99 : Int64) _ hc11 ) okX6_in w_112 (by decide) (by decide) ⟨Nat.zero_le _, Nat.zero_le _⟩ jP jD jS rfl jl.1 rfl rfl (Nat.le_of_ble_eq_true rfl) dX6_fall_35 (fun H locs jP jD jS => ?_)
        refine lv_if_ne (tgt := 43) hx hb dX6_fall_38 (by decide) (fun c12 => ?_) (fun c12 => ?_)
        · have hvt13 := itn c12 hvt13
          obtain rfl := Option.some.inj hvt13
          exact hJt13 _ rfl _ _ _ jP jD jS (lv_sub jl [0, 1, 2, 3, 4] rfl)
        · have hvt13 := itp c12 hvt13
          refine lv_iconst (v := (-1 : Int32)) hx hb dX6_fall_41 (by decide) ?_
          obtain rfl := Option.some.inj hvt13
          have hzt13 := sm_l hzt13
          obtain rfl := Option.some.inj hzt13
          exact hRet _ _ _ _ jP jD jS dX6_fall_42
theorem okX6_gain : okV yX6_gain cX6_gain 4 (some .int) 3 := ⟨w_535, w_536, w_537, w_5, by decide, by decide, by decide +kernel⟩
def fX6_gain (M_g24 : Int64) (M_g25 : Int64) (M_g26 : Int64) (M_r11 : (Nat → Int32)) (M_r15 : (Nat → Int32)) (M_r21 : (Nat → Int32)) (M_r22 : (Nat → Int32)) (M_x12 : Int32) (M_x18 : Int32) (M_x19 : Int32) (M_x20 : Int32) (M_x23 : Int32) (a1 : Int32) (a2 : Int32) (a3 : Int32) : Option (Int32 × Int64 × Int64 × Int64 × (Nat → Int32) × (Nat → Int32) × Int32 × Int32 × Int32) :=
  bd (fX6_isOffer a1 a2) (fun t1 => if t1 = (0 : Int32) then (some ((-1000000000 : Int32), M_g24, M_g25, M_g26, M_r21, M_r22, M_x19, M_x20, M_x23)) else (bd (fX6_isPrice a3) (fun t4 => if t4 = (0 : Int32) then (some ((-1000000000 : Int32), M_g24, M_g25, M_g26, M_r21, M_r22, M_x19, M_x20, M_x23)) else (bd (fX6_layOffer (M_r11) (M_r15) (M_r21) (M_r22) (M_x12) (M_x18) a1 a2 a3) (fun t7 => some (t7.2.2.1.toInt32, t7.1, t7.2.1, t7.2.2.1, t7.2.2.2.1, t7.2.2.2.2.1, t7.2.2.2.2.2.1, t7.2.2.2.2.2.2.1, t7.2.2.2.2.2.2.2))))))
set_option maxRecDepth 100000 in
set_option maxHeartbeats 4000000 in
theorem kX6_gain (l : Launch) (D : va_G) (cI cB cS : ClassId) (uM : Nat) (aM : Nat → Nat) (M_x1 : Int32) (M_x2 : Int32) (M_x3 : Int32) (M_x4 : Int32) (M_x5 : Int32) (M_x6 : Int32) (M_x7 : Int32) (M_x8 : Int32) (M_x12 : Int32) (M_x14 : Int32) (M_x17 : Int32) (M_x18 : Int32) (M_x19 : Int32) (M_x20 : Int32) (M_x23 : Int32) (M_x27 : Int32) (M_x29 : Int32) (M_x33 : Int32) (M_g24 : Int64) (M_g25 : Int64) (M_g26 : Int64) (M_g28 : Int64) (M_r0 : (Nat → Int32)) (M_r9 : (Nat → Int32)) (M_r10 : (Nat → Int32)) (M_r11 : (Nat → Int32)) (M_r13 : (Nat → Int32)) (M_r15 : (Nat → Int32)) (M_r16 : (Nat → Int32)) (M_r21 : (Nat → Int32)) (M_r22 : (Nat → Int32)) (M_r30 : (Nat → Int32)) (M_r31 : (Nat → Int32)) (M_r32 : (Nat → Int32)) (a1 : Int32) (a2 : Int32) (a3 : Int32) (z : (Int32 × Int64 × Int64 × Int64 × (Nat → Int32) × (Nat → Int32) × Int32 × Int32 × Int32)) (h : fX6_gain M_g24 M_g25 M_g26 M_r11 M_r15 M_r21 M_r22 M_x12 M_x18 M_x19 M_x20 M_x23 a1 a2 a3 = some z) : Mt l yX6_gain cX6_gain 4 (some .int) 4 92 D cI cB cS (mW cI uM aM M_x1 M_x2 M_x3 M_x4 M_x5 M_x6 M_x7 M_x8 M_x12 M_x14 M_x17 M_x18 M_x19 M_x20 M_x23 M_x27 M_x29 M_x33 M_g24 M_g25 M_g26 M_g28 M_r0 M_r9 M_r10 M_r11 M_r13 M_r15 M_r16 M_r21 M_r22 M_r30 M_r31 M_r32) (mW cI uM aM M_x1 M_x2 M_x3 M_x4 M_x5 M_x6 M_x7 M_x8 M_x12 M_x14 M_x17 M_x18 z.2.2.2.2.2.2.1 z.2.2.2.2.2.2.2.1 z.2.2.2.2.2.2.2.2 M_x27 M_x29 M_x33 z.2.1 z.2.2.1 z.2.2.2.1 M_g28 M_r0 M_r9 M_r10 M_r11 M_r13 M_r15 M_r16 z.2.2.2.2.1 z.2.2.2.2.2.1 M_r30 M_r31 M_r32) [.ref uM, .int a1, .int a2, .int a3] (some (.int z.1)) := by
  refine entryI (by decide +kernel) rfl (Nat.le_of_ble_eq_true rfl) ?_
  intro p e s m below meth c A ls QQ R ar F hRet jP jD jS jl
  obtain ⟨hx, hb, hml, hown, hts, jK, hA, hf1, hf2⟩ := id F
  have jl : lv_has ls 4 [(0, .ref uM), (1, .int a1), (2, .int a2), (3, .int a3)] := jl
  unfold fX6_gain at h
  refine lv_iload_n hx hb dX6_gain_0 rfl (lv_at jl 1 rfl) ?_
  refine lv_iload_n hx hb dX6_gain_1 rfl (lv_at jl 2 rfl) ?_
  obtain ⟨t1, hc2, h⟩ := bd_some h
  refine call0 (As := [.int a1, .int a2]) (rest := []) (st1 := [.int t1]) F (kX6_isOffer l D cI cB cS  a1 a2 _ hc2 ) okX6_isOffer w_417 (by decide) (by decide) ⟨Nat.zero_le _, Nat.zero_le _⟩ jP jD jS rfl jl.1 rfl rfl (Nat.le_of_ble_eq_true rfl) dX6_gain_2 (fun H locs jP jD jS => ?_)
  refine lv_if_eq (tgt := 15) hx hb dX6_gain_5 (by decide) (fun c3 => ?_) (fun c3 => ?_)
  · have h := itp c3 h
    refine lv_ldc (v := (-1000000000 : Int32)) hx hb hown (hts _ w_478) dX6_gain_15 ?_
    obtain rfl := Option.some.inj h
    exact hRet _ _ _ _ jP jD jS dX6_gain_17
  · have h := itn c3 h
    refine lv_iload_n hx hb dX6_gain_8 rfl (lv_at jl 3 rfl) ?_
    obtain ⟨t4, hc5, h⟩ := bd_some h
    refine call0 (As := [.int a3]) (rest := []) (st1 := [.int t4]) F (kX6_isPrice l D cI cB cS  a3 _ hc5 ) okX6_isPrice w_420 (by decide) (by decide) ⟨Nat.zero_le _, Nat.zero_le _⟩ jP jD jS rfl jl.1 rfl rfl (Nat.le_of_ble_eq_true rfl) dX6_gain_9 (fun H locs jP jD jS => ?_)
    refine lv_if_ne (tgt := 18) hx hb dX6_gain_12 (by decide) (fun c6 => ?_) (fun c6 => ?_)
    · have h := itn c6 h
      refine lv_aload_n hx hb dX6_gain_18 rfl (lv_at jl 0 rfl) ?_
      refine lv_iload_n hx hb dX6_gain_19 rfl (lv_at jl 1 rfl) ?_
      refine lv_iload_n hx hb dX6_gain_20 rfl (lv_at jl 2 rfl) ?_
      refine lv_iload_n hx hb dX6_gain_21 rfl (lv_at jl 3 rfl) ?_
      obtain ⟨t7, hc8, h⟩ := bd_some h
      refine callW (w1 := (mW cI uM aM M_x1 M_x2 M_x3 M_x4 M_x5 M_x6 M_x7 M_x8 M_x12 M_x14 M_x17 M_x18 t7.2.2.2.2.2.1 t7.2.2.2.2.2.2.1 t7.2.2.2.2.2.2.2 M_x27 M_x29 M_x33 t7.1 t7.2.1 t7.2.2.1 M_g28 M_r0 M_r9 M_r10 M_r11 M_r13 M_r15 M_r16 t7.2.2.2.1 t7.2.2.2.2.1 M_r30 M_r31 M_r32)) (As := [.int a1, .int a2, .int a3]) (rest := []) (st1 := []) 0 F (kX6_layOffer l D cI cB cS uM aM M_x1 M_x2 M_x3 M_x4 M_x5 M_x6 M_x7 M_x8 M_x12 M_x14 M_x17 M_x18 M_x19 M_x20 M_x23 M_x27 M_x29 M_x33 M_g24 M_g25 M_g26 M_g28 M_r0 M_r9 M_r10 M_r11 M_r13 M_r15 M_r16 M_r21 M_r22 M_r30 M_r31 M_r32 a1 a2 a3 _ hc8 ) okX6_layOffer w_423 (by decide) (by decide) ⟨Nat.zero_le _, Nat.zero_le _⟩ rfl rfl rfl jP jD jS rfl jl.1 rfl rfl (Nat.le_of_ble_eq_true rfl) dX6_gain_22 (fun H locs jP jD jS => ?_)
      refine lv_aload_n hx hb dX6_gain_25 rfl (lv_at jl 0 rfl) ?_
      refine va_get (D := D) (ci := 6) (v := .long t7.2.2.1) (C := RX6) (T := TX6) (N := 34) hx hb hts in6 hown jK.1 jP 0 rfl rfl 26 (by decide) (hts _ w_428) (fun _ h9 => h9) rfl dX6_gain_26 ?_
      refine lv_l2i (v := t7.2.2.1.toInt32) hx hb dX6_gain_29 rfl ?_
      obtain rfl := Option.some.inj h
      exact hRet _ _ _ _ jP jD jS dX6_gain_30
    · have h := itp c6 h
      refine lv_ldc (v := (-1000000000 : Int32)) hx hb hown (hts _ w_478) dX6_gain_15 ?_
      obtain rfl := Option.some.inj h
      exact hRet _ _ _ _ jP jD jS dX6_gain_17
theorem okX6_lost : okV yX6_lost cX6_lost 7 (some .int) 3 := ⟨w_544, w_545, w_546, w_5, by decide, by decide, by decide +kernel⟩
def fX6_lost_b30 (M_x12 : Int32) (M_r11 : (Nat → Int32)) (M_r22 : (Nat → Int32)) (v1 : (Int32 × Int32)) : Option ((Int32 × Int32) ⊕ Int32) :=
  if M_x12 ≤ v1.2 then (some (.inr v1.1)) else (bd (fX6_its (M_r11) v1.2 (2 : Int32)) (fun t1 => bd (fX6_its (M_r11) v1.2 (1 : Int32)) (fun t2 => bd (if (t1 - t2) ≤ (0 : Int32) then (some (0 : Int32)) else (bd (fX6_its (M_r11) v1.2 (0 : Int32)) (fun t3 => ckI v1.2 8 (some ((((800 : Int32) * t3) - (M_r22 v1.2.toNatClampNeg)) * (t1 - t2)))))) (fun t4 => some (.inl ((v1.1 + t4), (v1.2 + (1 : Int32))))))))
def fX6_lost (M_g24 : Int64) (M_g25 : Int64) (M_g26 : Int64) (M_r11 : (Nat → Int32)) (M_r15 : (Nat → Int32)) (M_r21 : (Nat → Int32)) (M_r22 : (Nat → Int32)) (M_x12 : Int32) (M_x18 : Int32) (M_x19 : Int32) (M_x20 : Int32) (M_x23 : Int32) (a1 : Int32) (a2 : Int32) (a3 : Int32) : Option (Int32 × Int64 × Int64 × Int64 × (Nat → Int32) × (Nat → Int32) × Int32 × Int32 × Int32) :=
  bd (fX6_isOffer a1 a2) (fun t1 => if t1 = (0 : Int32) then (some ((-1 : Int32), M_g24, M_g25, M_g26, M_r21, M_r22, M_x19, M_x20, M_x23)) else (bd (fX6_isPrice a3) (fun t4 => if t4 = (0 : Int32) then (some ((-1 : Int32), M_g24, M_g25, M_g26, M_r21, M_r22, M_x19, M_x20, M_x23)) else (bd (fX6_layOffer (M_r11) (M_r15) (M_r21) (M_r22) (M_x12) (M_x18) a1 a2 a3) (fun t7 => bd (loopF (fX6_lost_b30 M_x12 M_r11 t7.2.2.2.2.1) 1000 ((0 : Int32), (0 : Int32))) (fun T9 => some (T9, t7.1, t7.2.1, t7.2.2.1, t7.2.2.2.1, t7.2.2.2.2.1, t7.2.2.2.2.2.1, t7.2.2.2.2.2.2.1, t7.2.2.2.2.2.2.2)))))))
set_option maxRecDepth 100000 in
set_option maxHeartbeats 4000000 in
theorem kX6_lost (l : Launch) (D : va_G) (cI cB cS : ClassId) (uM : Nat) (aM : Nat → Nat) (M_x1 : Int32) (M_x2 : Int32) (M_x3 : Int32) (M_x4 : Int32) (M_x5 : Int32) (M_x6 : Int32) (M_x7 : Int32) (M_x8 : Int32) (M_x12 : Int32) (M_x14 : Int32) (M_x17 : Int32) (M_x18 : Int32) (M_x19 : Int32) (M_x20 : Int32) (M_x23 : Int32) (M_x27 : Int32) (M_x29 : Int32) (M_x33 : Int32) (M_g24 : Int64) (M_g25 : Int64) (M_g26 : Int64) (M_g28 : Int64) (M_r0 : (Nat → Int32)) (M_r9 : (Nat → Int32)) (M_r10 : (Nat → Int32)) (M_r11 : (Nat → Int32)) (M_r13 : (Nat → Int32)) (M_r15 : (Nat → Int32)) (M_r16 : (Nat → Int32)) (M_r21 : (Nat → Int32)) (M_r22 : (Nat → Int32)) (M_r30 : (Nat → Int32)) (M_r31 : (Nat → Int32)) (M_r32 : (Nat → Int32)) (a1 : Int32) (a2 : Int32) (a3 : Int32) (z : (Int32 × Int64 × Int64 × Int64 × (Nat → Int32) × (Nat → Int32) × Int32 × Int32 × Int32)) (h : fX6_lost M_g24 M_g25 M_g26 M_r11 M_r15 M_r21 M_r22 M_x12 M_x18 M_x19 M_x20 M_x23 a1 a2 a3 = some z) : Mt l yX6_lost cX6_lost 7 (some .int) 4 92 D cI cB cS (mW cI uM aM M_x1 M_x2 M_x3 M_x4 M_x5 M_x6 M_x7 M_x8 M_x12 M_x14 M_x17 M_x18 M_x19 M_x20 M_x23 M_x27 M_x29 M_x33 M_g24 M_g25 M_g26 M_g28 M_r0 M_r9 M_r10 M_r11 M_r13 M_r15 M_r16 M_r21 M_r22 M_r30 M_r31 M_r32) (mW cI uM aM M_x1 M_x2 M_x3 M_x4 M_x5 M_x6 M_x7 M_x8 M_x12 M_x14 M_x17 M_x18 z.2.2.2.2.2.2.1 z.2.2.2.2.2.2.2.1 z.2.2.2.2.2.2.2.2 M_x27 M_x29 M_x33 z.2.1 z.2.2.1 z.2.2.2.1 M_g28 M_r0 M_r9 M_r10 M_r11 M_r13 M_r15 M_r16 z.2.2.2.2.1 z.2.2.2.2.2.1 M_r30 M_r31 M_r32) [.ref uM, .int a1, .int a2, .int a3] (some (.int z.1)) := by
  refine entryI (by decide +kernel) rfl (Nat.le_of_ble_eq_true rfl) ?_
  intro p e s m below meth c A ls QQ R ar F hRet jP jD jS jl
  obtain ⟨hx, hb, hml, hown, hts, jK, hA, hf1, hf2⟩ := id F
  have jl : lv_has ls 7 [(0, .ref uM), (1, .int a1), (2, .int a2), (3, .int a3)] := jl
  unfold fX6_lost at h
  refine lv_iload_n hx hb dX6_lost_0 rfl (lv_at jl 1 rfl) ?_
  refine lv_iload_n hx hb dX6_lost_1 rfl (lv_at jl 2 rfl) ?_
  obtain ⟨t1, hc2, h⟩ := bd_some h
  refine call0 (As := [.int a1, .int a2]) (rest := []) (st1 := [.int t1]) F (kX6_isOffer l D cI cB cS  a1 a2 _ hc2 ) okX6_isOffer w_417 (by decide) (by decide) ⟨Nat.zero_le _, Nat.zero_le _⟩ jP jD jS rfl jl.1 rfl rfl (Nat.le_of_ble_eq_true rfl) dX6_lost_2 (fun H locs jP jD jS => ?_)
  refine lv_if_eq (tgt := 15) hx hb dX6_lost_5 (by decide) (fun c3 => ?_) (fun c3 => ?_)
  · have h := itp c3 h
    refine lv_iconst (v := (-1 : Int32)) hx hb dX6_lost_15 (by decide) ?_
    obtain rfl := Option.some.inj h
    exact hRet _ _ _ _ jP jD jS dX6_lost_16
  · have h := itn c3 h
    refine lv_iload_n hx hb dX6_lost_8 rfl (lv_at jl 3 rfl) ?_
    obtain ⟨t4, hc5, h⟩ := bd_some h
    refine call0 (As := [.int a3]) (rest := []) (st1 := [.int t4]) F (kX6_isPrice l D cI cB cS  a3 _ hc5 ) okX6_isPrice w_420 (by decide) (by decide) ⟨Nat.zero_le _, Nat.zero_le _⟩ jP jD jS rfl jl.1 rfl rfl (Nat.le_of_ble_eq_true rfl) dX6_lost_9 (fun H locs jP jD jS => ?_)
    refine lv_if_ne (tgt := 17) hx hb dX6_lost_12 (by decide) (fun c6 => ?_) (fun c6 => ?_)
    · have h := itn c6 h
      refine lv_aload_n hx hb dX6_lost_17 rfl (lv_at jl 0 rfl) ?_
      refine lv_iload_n hx hb dX6_lost_18 rfl (lv_at jl 1 rfl) ?_
      refine lv_iload_n hx hb dX6_lost_19 rfl (lv_at jl 2 rfl) ?_
      refine lv_iload_n hx hb dX6_lost_20 rfl (lv_at jl 3 rfl) ?_
      obtain ⟨t7, hc8, h⟩ := bd_some h
      refine callW (w1 := (mW cI uM aM M_x1 M_x2 M_x3 M_x4 M_x5 M_x6 M_x7 M_x8 M_x12 M_x14 M_x17 M_x18 t7.2.2.2.2.2.1 t7.2.2.2.2.2.2.1 t7.2.2.2.2.2.2.2 M_x27 M_x29 M_x33 t7.1 t7.2.1 t7.2.2.1 M_g28 M_r0 M_r9 M_r10 M_r11 M_r13 M_r15 M_r16 t7.2.2.2.1 t7.2.2.2.2.1 M_r30 M_r31 M_r32)) (As := [.int a1, .int a2, .int a3]) (rest := []) (st1 := []) 0 F (kX6_layOffer l D cI cB cS uM aM M_x1 M_x2 M_x3 M_x4 M_x5 M_x6 M_x7 M_x8 M_x12 M_x14 M_x17 M_x18 M_x19 M_x20 M_x23 M_x27 M_x29 M_x33 M_g24 M_g25 M_g26 M_g28 M_r0 M_r9 M_r10 M_r11 M_r13 M_r15 M_r16 M_r21 M_r22 M_r30 M_r31 M_r32 a1 a2 a3 _ hc8 ) okX6_layOffer w_423 (by decide) (by decide) ⟨Nat.zero_le _, Nat.zero_le _⟩ rfl rfl rfl jP jD jS rfl jl.1 rfl rfl (Nat.le_of_ble_eq_true rfl) dX6_lost_21 (fun H locs jP jD jS => ?_)
      refine lv_iconst (v := (0 : Int32)) hx hb dX6_lost_24 (by decide) ?_
      refine lv_istore (lv' := [(4, .int (0 : Int32)), (0, .ref uM), (1, .int a1), (2, .int a2), (3, .int a3)]) hx hb dX6_lost_25 jl (by decide) rfl (fun ls jl => ?_)
      refine lv_iconst (v := (0 : Int32)) hx hb dX6_lost_27 (by decide) ?_
      refine lv_istore (lv' := [(5, .int (0 : Int32)), (4, .int (0 : Int32)), (0, .ref uM), (1, .int a1), (2, .int a2), (3, .int a3)]) hx hb dX6_lost_28 jl (by decide) rfl (fun ls jl => ?_)
      obtain ⟨T9, hT9, hz9⟩ := bd_some h
      clear h
      have hE9 : ∀ (H : Heap) (locs : List Loc) (ls : Array Slot), va_P D vwCl (mW cI uM aM M_x1 M_x2 M_x3 M_x4 M_x5 M_x6 M_x7 M_x8 M_x12 M_x14 M_x17 M_x18 t7.2.2.2.2.2.1 t7.2.2.2.2.2.2.1 t7.2.2.2.2.2.2.2 M_x27 M_x29 M_x33 t7.1 t7.2.1 t7.2.2.1 M_g28 M_r0 M_r9 M_r10 M_r11 M_r13 M_r15 M_r16 t7.2.2.2.1 t7.2.2.2.2.1 M_r30 M_r31 M_r32) H → va_D A (mW cI uM aM M_x1 M_x2 M_x3 M_x4 M_x5 M_x6 M_x7 M_x8 M_x12 M_x14 M_x17 M_x18 t7.2.2.2.2.2.1 t7.2.2.2.2.2.2.1 t7.2.2.2.2.2.2.2 M_x27 M_x29 M_x33 t7.1 t7.2.1 t7.2.2.1 M_g28 M_r0 M_r9 M_r10 M_r11 M_r13 M_r15 M_r16 t7.2.2.2.1 t7.2.2.2.2.1 M_r30 M_r31 M_r32) → va_S A s.heap H locs → lv_has ls 7 [(4, .int T9)] → W p l e R s m ar below meth c H locs 0 0 QQ (F0 m 98 ls []) := by
        clear jP jD jS jl
        intro H locs ls jP jD jS jl
        refine lv_iload hx hb dX6_lost_98 (lv_at jl 0 rfl) ?_
        obtain rfl := Option.some.inj hz9
        exact hRet _ _ _ _ jP jD jS dX6_lost_100
      have hL9 : ∀ (n : Nat) (v9 : (Int32 × Int32)), loopF (fX6_lost_b30 M_x12 M_r11 t7.2.2.2.2.1) n v9 = some T9 → ∀ (H : Heap) (locs : List Loc) (ls : Array Slot), va_P D vwCl (mW cI uM aM M_x1 M_x2 M_x3 M_x4 M_x5 M_x6 M_x7 M_x8 M_x12 M_x14 M_x17 M_x18 t7.2.2.2.2.2.1 t7.2.2.2.2.2.2.1 t7.2.2.2.2.2.2.2 M_x27 M_x29 M_x33 t7.1 t7.2.1 t7.2.2.1 M_g28 M_r0 M_r9 M_r10 M_r11 M_r13 M_r15 M_r16 t7.2.2.2.1 t7.2.2.2.2.1 M_r30 M_r31 M_r32) H → va_D A (mW cI uM aM M_x1 M_x2 M_x3 M_x4 M_x5 M_x6 M_x7 M_x8 M_x12 M_x14 M_x17 M_x18 t7.2.2.2.2.2.1 t7.2.2.2.2.2.2.1 t7.2.2.2.2.2.2.2 M_x27 M_x29 M_x33 t7.1 t7.2.1 t7.2.2.1 M_g28 M_r0 M_r9 M_r10 M_r11 M_r13 M_r15 M_r16 t7.2.2.2.1 t7.2.2.2.2.1 M_r30 M_r31 M_r32) → va_S A s.heap H locs → lv_has ls 7 [(0, .ref uM), (4, .int v9.1), (5, .int v9.2)] → W p l e R s m ar below meth c H locs 0 0 QQ (F0 m 30 ls []) := by
        clear jP jD jS jl hT9
        intro n
        induction n with
        | zero => intro v9 hq; exact (loop_none hq).elim
        | succ n ih =>
          intro v9 hq H locs ls jP jD jS jl
          obtain ⟨o9, hv9, hq9⟩ := loop_some hq
          clear hq
          unfold fX6_lost_b30 at hv9
          refine lv_iload hx hb dX6_lost_30 (lv_at jl 2 rfl) ?_
          refine lv_aload_n hx hb dX6_lost_32 rfl (lv_at jl 0 rfl) ?_
          refine va_get (D := D) (ci := 6) (v := .int M_x12) (C := RX6) (T := TX6) (N := 34) hx hb hts in6 hown jK.1 jP 0 rfl rfl 12 (by decide) (hts _ w_222) (fun _ h9 => h9) rfl dX6_lost_33 ?_
          refine lv_icmp_ge (tgt := 98) hx hb dX6_lost_36 (by decide) (fun c10 => ?_) (fun c10 => ?_)
          · have hv9 := itp c10 hv9
            obtain rfl := Option.some.inj hv9
            obtain rfl := nxt_r hq9
            exact hE9 _ _ _ jP jD jS (lv_sub jl [1] rfl)
          · have hv9 := itn c10 hv9
            refine lv_aload_n hx hb dX6_lost_39 rfl (lv_at jl 0 rfl) ?_
            refine lv_iload hx hb dX6_lost_40 (lv_at jl 2 rfl) ?_
            refine lv_iconst (v := (2 : Int32)) hx hb dX6_lost_42 (by decide) ?_
            obtain ⟨t11, hc12, hv9⟩ := bd_some hv9
            refine callW (w1 := (mW cI uM aM M_x1 M_x2 M_x3 M_x4 M_x5 M_x6 M_x7 M_x8 M_x12 M_x14 M_x17 M_x18 t7.2.2.2.2.2.1 t7.2.2.2.2.2.2.1 t7.2.2.2.2.2.2.2 M_x27 M_x29 M_x33 t7.1 t7.2.1 t7.2.2.1 M_g28 M_r0 M_r9 M_r10 M_r11 M_r13 M_r15 M_r16 t7.2.2.2.1 t7.2.2.2.2.1 M_r30 M_r31 M_r32)) (As := [.int v9.2, .int (2 : Int32)]) (rest := []) (st1 := [.int t11]) 0 F (kX6_its l D cI cB cS uM aM M_x1 M_x2 M_x3 M_x4 M_x5 M_x6 M_x7 M_x8 M_x12 M_x14 M_x17 M_x18 t7.2.2.2.2.2.1 t7.2.2.2.2.2.2.1 t7.2.2.2.2.2.2.2 M_x27 M_x29 M_x33 t7.1 t7.2.1 t7.2.2.1 M_g28 M_r0 M_r9 M_r10 M_r11 M_r13 M_r15 M_r16 t7.2.2.2.1 t7.2.2.2.2.1 M_r30 M_r31 M_r32 v9.2 (2 : Int32) _ hc12 ) okX6_its w_320 (by decide) (by decide) ⟨Nat.zero_le _, Nat.zero_le _⟩ rfl rfl rfl jP jD jS rfl jl.1 rfl rfl (Nat.le_of_ble_eq_true rfl) dX6_lost_43 (fun H locs jP jD jS => ?_)
            refine lv_aload_n hx hb dX6_lost_46 rfl (lv_at jl 0 rfl) ?_
            refine lv_iload hx hb dX6_lost_47 (lv_at jl 2 rfl) ?_
            refine lv_iconst (v := (1 : Int32)) hx hb dX6_lost_49 (by decide) ?_
            obtain ⟨t13, hc14, hv9⟩ := bd_some hv9
            refine callW (w1 := (mW cI uM aM M_x1 M_x2 M_x3 M_x4 M_x5 M_x6 M_x7 M_x8 M_x12 M_x14 M_x17 M_x18 t7.2.2.2.2.2.1 t7.2.2.2.2.2.2.1 t7.2.2.2.2.2.2.2 M_x27 M_x29 M_x33 t7.1 t7.2.1 t7.2.2.1 M_g28 M_r0 M_r9 M_r10 M_r11 M_r13 M_r15 M_r16 t7.2.2.2.1 t7.2.2.2.2.1 M_r30 M_r31 M_r32)) (As := [.int v9.2, .int (1 : Int32)]) (rest := [.int t11]) (st1 := [.int t13, .int t11]) 0 F (kX6_its l D cI cB cS uM aM M_x1 M_x2 M_x3 M_x4 M_x5 M_x6 M_x7 M_x8 M_x12 M_x14 M_x17 M_x18 t7.2.2.2.2.2.1 t7.2.2.2.2.2.2.1 t7.2.2.2.2.2.2.2 M_x27 M_x29 M_x33 t7.1 t7.2.1 t7.2.2.1 M_g28 M_r0 M_r9 M_r10 M_r11 M_r13 M_r15 M_r16 t7.2.2.2.1 t7.2.2.2.2.1 M_r30 M_r31 M_r32 v9.2 (1 : Int32) _ hc14 ) okX6_its w_320 (by decide) (by decide) ⟨Nat.zero_le _, Nat.zero_le _⟩ rfl rfl rfl jP jD jS rfl jl.1 rfl rfl (Nat.le_of_ble_eq_true rfl) dX6_lost_50 (fun H locs jP jD jS => ?_)
            refine lv_isub hx hb dX6_lost_53 ?_
            refine lv_istore (lv' := [(6, .int (t11 - t13)), (0, .ref uM), (4, .int v9.1), (5, .int v9.2)]) hx hb dX6_lost_54 jl (by decide) rfl (fun ls jl => ?_)
            refine lv_iload hx hb dX6_lost_56 (lv_at jl 2 rfl) ?_
            refine lv_iload hx hb dX6_lost_58 (lv_at jl 0 rfl) ?_
            obtain ⟨t18, hvt18, hv9⟩ := bd_some hv9
            have hJt18 : ∀ (H : Heap) (locs : List Loc) (ls : Array Slot), va_P D vwCl (mW cI uM aM M_x1 M_x2 M_x3 M_x4 M_x5 M_x6 M_x7 M_x8 M_x12 M_x14 M_x17 M_x18 t7.2.2.2.2.2.1 t7.2.2.2.2.2.2.1 t7.2.2.2.2.2.2.2 M_x27 M_x29 M_x33 t7.1 t7.2.1 t7.2.2.1 M_g28 M_r0 M_r9 M_r10 M_r11 M_r13 M_r15 M_r16 t7.2.2.2.1 t7.2.2.2.2.1 M_r30 M_r31 M_r32) H → va_D A (mW cI uM aM M_x1 M_x2 M_x3 M_x4 M_x5 M_x6 M_x7 M_x8 M_x12 M_x14 M_x17 M_x18 t7.2.2.2.2.2.1 t7.2.2.2.2.2.2.1 t7.2.2.2.2.2.2.2 M_x27 M_x29 M_x33 t7.1 t7.2.1 t7.2.2.1 M_g28 M_r0 M_r9 M_r10 M_r11 M_r13 M_r15 M_r16 t7.2.2.2.1 t7.2.2.2.2.1 M_r30 M_r31 M_r32) → va_S A s.heap H locs → lv_has ls 7 [(0, .ref uM), (5, .int v9.2)] → W p l e R s m ar below meth c H locs 0 0 QQ (F0 m 89 ls [.int t18, .int v9.1]) := by
              clear jP jD jS jl
              intro H locs ls jP jD jS jl
              refine lv_iadd hx hb dX6_lost_89 ?_
              refine lv_istore (lv' := [(4, .int (v9.1 + t18)), (0, .ref uM), (5, .int v9.2)]) hx hb dX6_lost_90 jl (by decide) rfl (fun ls jl => ?_)
              refine lv_iinc (v := (v9.2 + (1 : Int32))) (lv' := [(5, .int (v9.2 + (1 : Int32))), (4, .int (v9.1 + t18)), (0, .ref uM)]) hx hb dX6_lost_92 jl (k := 2) rfl rfl (by decide) rfl (fun ls jl => ?_)
              refine lv_goto (tgt := 30) hx hb dX6_lost_95 (by decide) ?_
              obtain rfl := Option.some.inj hv9
              exact ih _ (nxt_l hq9) _ _ _ jP jD jS (lv_sub jl [2, 1, 0] rfl)
            clear hv9
            refine lv_if_le (tgt := 88) hx hb dX6_lost_60 (by decide) (fun c15 => ?_) (fun c15 => ?_)
            · have hvt18 := itp c15 hvt18
              refine lv_iconst (v := (0 : Int32)) hx hb dX6_lost_88 (by decide) ?_
              obtain rfl := Option.some.inj hvt18
              exact hJt18 _ _ _ jP jD jS (lv_sub jl [1, 3] rfl)
            · have hvt18 := itn c15 hvt18
              refine lv_sipush (v := (800 : Int32)) hx hb dX6_lost_63 (by decide) ?_
              refine lv_aload_n hx hb dX6_lost_66 rfl (lv_at jl 1 rfl) ?_
              refine lv_iload hx hb dX6_lost_67 (lv_at jl 3 rfl) ?_
              refine lv_iconst (v := (0 : Int32)) hx hb dX6_lost_69 (by decide) ?_
              obtain ⟨t16, hc17, hvt18⟩ := bd_some hvt18
              refine callW (w1 := (mW cI uM aM M_x1 M_x2 M_x3 M_x4 M_x5 M_x6 M_x7 M_x8 M_x12 M_x14 M_x17 M_x18 t7.2.2.2.2.2.1 t7.2.2.2.2.2.2.1 t7.2.2.2.2.2.2.2 M_x27 M_x29 M_x33 t7.1 t7.2.1 t7.2.2.1 M_g28 M_r0 M_r9 M_r10 M_r11 M_r13 M_r15 M_r16 t7.2.2.2.1 t7.2.2.2.2.1 M_r30 M_r31 M_r32)) (As := [.int v9.2, .int (0 : Int32)]) (rest := [.int (800 : Int32), .int v9.1]) (st1 := [.int t16, .int (800 : Int32), .int v9.1]) 0 F (kX6_its l D cI cB cS uM aM M_x1 M_x2 M_x3 M_x4 M_x5 M_x6 M_x7 M_x8 M_x12 M_x14 M_x17 M_x18 t7.2.2.2.2.2.1 t7.2.2.2.2.2.2.1 t7.2.2.2.2.2.2.2 M_x27 M_x29 M_x33 t7.1 t7.2.1 t7.2.2.1 M_g28 M_r0 M_r9 M_r10 M_r11 M_r13 M_r15 M_r16 t7.2.2.2.1 t7.2.2.2.2.1 M_r30 M_r31 M_r32 v9.2 (0 : Int32) _ hc17 ) okX6_its w_320 (by decide) (by decide) ⟨Nat.zero_le _, Nat.zero_le _⟩ rfl rfl rfl jP jD jS rfl jl.1 rfl rfl (Nat.le_of_ble_eq_true rfl) dX6_lost_70 (fun H locs jP jD jS => ?_)
              refine lv_imul hx hb dX6_lost_73 ?_
              refine lv_aload_n hx hb dX6_lost_74 rfl (lv_at jl 1 rfl) ?_
              refine va_get (D := D) (ci := 6) (v := .ref (aM 22)) (C := RX6) (T := TX6) (N := 34) hx hb hts in6 hown jK.1 jP 0 rfl rfl 22 (by decide) (hts _ w_86) (fun _ h9 => h9) rfl dX6_lost_75 ?_
              refine lv_iload hx hb dX6_lost_78 (lv_at jl 3 rfl) ?_
              obtain ⟨hin, hvt18⟩ := ckI_some hvt18
              refine va_iald (f := t7.2.2.2.2.1) hx hb jK.1 jP 9 0 rfl rfl hin dX6_lost_80 ?_
              refine lv_isub hx hb dX6_lost_81 ?_
              refine lv_iload hx hb dX6_lost_82 (lv_at jl 0 rfl) ?_
              refine lv_imul hx hb dX6_lost_84 ?_
              refine lv_goto (tgt := 89) hx hb dX6_lost_85 (by decide) ?_
              obtain rfl := Option.some.inj hvt18
              exact hJt18 _ _ _ jP jD jS (lv_sub jl [1, 3] rfl)
      exact hL9 1000 _ hT9 _ _ _ jP jD jS (lv_sub jl [2, 1, 0] rfl)
    · have h := itp c6 h
      refine lv_iconst (v := (-1 : Int32)) hx hb dX6_lost_15 (by decide) ?_
      obtain rfl := Option.some.inj h
      exact hRet _ _ _ _ jP jD jS dX6_lost_16
theorem okX6_layBest : okV yX6_layBest cX6_layBest 4 (some .boolean) 2 := ⟨w_562, w_563, w_564, w_5, by decide, by decide, by decide +kernel⟩
def fX6_layBest_b13 (l1 : Int32) (l2 : Int32) (M_r11 : (Nat → Int32)) (M_r15 : (Nat → Int32)) (M_x12 : Int32) (M_x18 : Int32) (v1 : (Int32 × Int64 × Int64 × Int64 × Int64 × (Nat → Int32) × (Nat → Int32) × Int32 × Int32 × Int32 × Int32)) : Option ((Int32 × Int64 × Int64 × Int64 × Int64 × (Nat → Int32) × (Nat → Int32) × Int32 × Int32 × Int32 × Int32) ⊕ (Int64 × Int64 × Int64 × Int64 × (Nat → Int32) × (Nat → Int32) × Int32 × Int32 × Int32 × Int32)) :=
  if (100 : Int32) ≤ v1.1 then (some (.inr (v1.2.1, v1.2.2.1, v1.2.2.2.1, v1.2.2.2.2.1, v1.2.2.2.2.2.1, v1.2.2.2.2.2.2.1, v1.2.2.2.2.2.2.2.1, v1.2.2.2.2.2.2.2.2.1, v1.2.2.2.2.2.2.2.2.2.1, v1.2.2.2.2.2.2.2.2.2.2))) else (bd (fX6_doesRest (M_r11) (M_r15) v1.2.2.2.2.2.1 v1.2.2.2.2.2.2.1 (M_x12) (M_x18) (l1) (l2) v1.1) (fun t1 => bd (if t1.1 = (0 : Int32) then (some (v1.2.2.2.2.1, v1.2.2.2.2.2.2.2.2.2.2)) else (if v1.2.2.2.2.2.2.2.2.2.2 = (-4 : Int32) then (some (t1.2.2.2.1, v1.1)) else (if (lg_cmp t1.2.2.2.1 v1.2.2.2.2.1) ≤ (0 : Int32) then (some (v1.2.2.2.2.1, v1.2.2.2.2.2.2.2.2.2.2)) else (some (t1.2.2.2.1, v1.1))))) (fun t2 => some (.inl ((v1.1 + (1 : Int32)), t1.2.1, t1.2.2.1, t1.2.2.2.1, t2.1, t1.2.2.2.2.1, t1.2.2.2.2.2.1, t1.2.2.2.2.2.2.1, t1.2.2.2.2.2.2.2.1, t1.2.2.2.2.2.2.2.2, t2.2)))))
def fX6_layBest (M_g24 : Int64) (M_g25 : Int64) (M_g26 : Int64) (M_r11 : (Nat → Int32)) (M_r15 : (Nat → Int32)) (M_r21 : (Nat → Int32)) (M_r22 : (Nat → Int32)) (M_x12 : Int32) (M_x18 : Int32) (M_x19 : Int32) (M_x20 : Int32) (M_x23 : Int32) (a1 : Int32) (a2 : Int32) : Option (Int32 × Int64 × Int64 × Int64 × Int64 × (Nat → Int32) × (Nat → Int32) × Int32 × Int32 × Int32 × Int32) :=
  bd (loopF (fX6_layBest_b13 a1 a2 M_r11 M_r15 M_x12 M_x18) 1000 ((0 : Int32), M_g24, M_g25, M_g26, (0 : Int64), M_r21, M_r22, M_x19, M_x20, M_x23, (-4 : Int32))) (fun T1 => if T1.2.2.2.2.2.2.2.2.2 = (-4 : Int32) then (some ((0 : Int32), T1.1, T1.2.1, T1.2.2.1, T1.2.2.2.1, T1.2.2.2.2.1, T1.2.2.2.2.2.1, T1.2.2.2.2.2.2.1, T1.2.2.2.2.2.2.2.1, T1.2.2.2.2.2.2.2.2.1, T1.2.2.2.2.2.2.2.2.2)) else (some ((1 : Int32), T1.1, T1.2.1, T1.2.2.1, T1.2.2.2.1, T1.2.2.2.2.1, T1.2.2.2.2.2.1, T1.2.2.2.2.2.2.1, T1.2.2.2.2.2.2.2.1, T1.2.2.2.2.2.2.2.2.1, T1.2.2.2.2.2.2.2.2.2)))
set_option maxRecDepth 100000 in
set_option maxHeartbeats 4000000 in
theorem kX6_layBest (l : Launch) (D : va_G) (cI cB cS : ClassId) (uM : Nat) (aM : Nat → Nat) (M_x1 : Int32) (M_x2 : Int32) (M_x3 : Int32) (M_x4 : Int32) (M_x5 : Int32) (M_x6 : Int32) (M_x7 : Int32) (M_x8 : Int32) (M_x12 : Int32) (M_x14 : Int32) (M_x17 : Int32) (M_x18 : Int32) (M_x19 : Int32) (M_x20 : Int32) (M_x23 : Int32) (M_x27 : Int32) (M_x29 : Int32) (M_x33 : Int32) (M_g24 : Int64) (M_g25 : Int64) (M_g26 : Int64) (M_g28 : Int64) (M_r0 : (Nat → Int32)) (M_r9 : (Nat → Int32)) (M_r10 : (Nat → Int32)) (M_r11 : (Nat → Int32)) (M_r13 : (Nat → Int32)) (M_r15 : (Nat → Int32)) (M_r16 : (Nat → Int32)) (M_r21 : (Nat → Int32)) (M_r22 : (Nat → Int32)) (M_r30 : (Nat → Int32)) (M_r31 : (Nat → Int32)) (M_r32 : (Nat → Int32)) (a1 : Int32) (a2 : Int32) (z : (Int32 × Int64 × Int64 × Int64 × Int64 × (Nat → Int32) × (Nat → Int32) × Int32 × Int32 × Int32 × Int32)) (h : fX6_layBest M_g24 M_g25 M_g26 M_r11 M_r15 M_r21 M_r22 M_x12 M_x18 M_x19 M_x20 M_x23 a1 a2 = some z) : Mt l yX6_layBest cX6_layBest 4 (some .boolean) 5 115 D cI cB cS (mW cI uM aM M_x1 M_x2 M_x3 M_x4 M_x5 M_x6 M_x7 M_x8 M_x12 M_x14 M_x17 M_x18 M_x19 M_x20 M_x23 M_x27 M_x29 M_x33 M_g24 M_g25 M_g26 M_g28 M_r0 M_r9 M_r10 M_r11 M_r13 M_r15 M_r16 M_r21 M_r22 M_r30 M_r31 M_r32) (mW cI uM aM M_x1 M_x2 M_x3 M_x4 M_x5 M_x6 M_x7 M_x8 M_x12 M_x14 M_x17 M_x18 z.2.2.2.2.2.2.2.1 z.2.2.2.2.2.2.2.2.1 z.2.2.2.2.2.2.2.2.2.1 z.2.2.2.2.2.2.2.2.2.2 M_x29 M_x33 z.2.1 z.2.2.1 z.2.2.2.1 z.2.2.2.2.1 M_r0 M_r9 M_r10 M_r11 M_r13 M_r15 M_r16 z.2.2.2.2.2.1 z.2.2.2.2.2.2.1 M_r30 M_r31 M_r32) [.ref uM, .int a1, .int a2] (some (.int z.1)) := by
  refine entryZ (by decide +kernel) rfl (Nat.le_of_ble_eq_true rfl) ?_
  intro p e s m below meth c A ls QQ R ar F hRet jP jD jS jl
  obtain ⟨hx, hb, hml, hown, hts, jK, hA, hf1, hf2⟩ := id F
  have jl : lv_has ls 4 [(0, .ref uM), (1, .int a1), (2, .int a2)] := jl
  unfold fX6_layBest at h
  refine lv_aload_n hx hb dX6_layBest_0 rfl (lv_at jl 0 rfl) ?_
  refine lv_bipush (v := (-4 : Int32)) hx hb dX6_layBest_1 (by decide) ?_
  refine va_put (D := D) (ci := 6) (v := .int (-4 : Int32)) (ty := .int) (C := RX6) (T := TX6) (N := 34) hx hb hts in6 tyX6 tyX6_ok nmX6 hown jK.1 jP jD jS 0 rfl rfl 27 (by decide) (hts _ w_559) (fun _ h9 => h9) rfl (by decide +kernel) rfl rfl (Nat.le_of_ble_eq_true rfl) dX6_layBest_3 (fun H locs jP jD jS => ?_)
  have jP : va_P D vwCl (mW cI uM aM M_x1 M_x2 M_x3 M_x4 M_x5 M_x6 M_x7 M_x8 M_x12 M_x14 M_x17 M_x18 M_x19 M_x20 M_x23 (-4 : Int32) M_x29 M_x33 M_g24 M_g25 M_g26 M_g28 M_r0 M_r9 M_r10 M_r11 M_r13 M_r15 M_r16 M_r21 M_r22 M_r30 M_r31 M_r32) H := jP
  have jD : va_D A (mW cI uM aM M_x1 M_x2 M_x3 M_x4 M_x5 M_x6 M_x7 M_x8 M_x12 M_x14 M_x17 M_x18 M_x19 M_x20 M_x23 (-4 : Int32) M_x29 M_x33 M_g24 M_g25 M_g26 M_g28 M_r0 M_r9 M_r10 M_r11 M_r13 M_r15 M_r16 M_r21 M_r22 M_r30 M_r31 M_r32) := jD
  refine lv_aload_n hx hb dX6_layBest_6 rfl (lv_at jl 0 rfl) ?_
  refine lv_lconst (v := (0 : Int64)) hx hb dX6_layBest_7 (by decide) ?_
  refine va_put (D := D) (ci := 6) (v := .long (0 : Int64)) (ty := .long) (C := RX6) (T := TX6) (N := 34) hx hb hts in6 tyX6 tyX6_ok nmX6 hown jK.1 jP jD jS 0 rfl rfl 28 (by decide) (hts _ w_560) (fun _ h9 => h9) rfl (by decide +kernel) rfl rfl (Nat.le_of_ble_eq_true rfl) dX6_layBest_8 (fun H locs jP jD jS => ?_)
  have jP : va_P D vwCl (mW cI uM aM M_x1 M_x2 M_x3 M_x4 M_x5 M_x6 M_x7 M_x8 M_x12 M_x14 M_x17 M_x18 M_x19 M_x20 M_x23 (-4 : Int32) M_x29 M_x33 M_g24 M_g25 M_g26 (0 : Int64) M_r0 M_r9 M_r10 M_r11 M_r13 M_r15 M_r16 M_r21 M_r22 M_r30 M_r31 M_r32) H := jP
  have jD : va_D A (mW cI uM aM M_x1 M_x2 M_x3 M_x4 M_x5 M_x6 M_x7 M_x8 M_x12 M_x14 M_x17 M_x18 M_x19 M_x20 M_x23 (-4 : Int32) M_x29 M_x33 M_g24 M_g25 M_g26 (0 : Int64) M_r0 M_r9 M_r10 M_r11 M_r13 M_r15 M_r16 M_r21 M_r22 M_r30 M_r31 M_r32) := jD
  refine lv_iconst (v := (0 : Int32)) hx hb dX6_layBest_11 (by decide) ?_
  refine lv_istore_n (lv' := [(3, .int (0 : Int32)), (0, .ref uM), (1, .int a1), (2, .int a2)]) hx hb dX6_layBest_12 rfl jl (by decide) rfl (fun ls jl => ?_)
  obtain ⟨T1, hT1, hz1⟩ := bd_some h
  clear h
  have hE1 : ∀ (H : Heap) (locs : List Loc) (ls : Array Slot), va_P D vwCl (mW cI uM aM M_x1 M_x2 M_x3 M_x4 M_x5 M_x6 M_x7 M_x8 M_x12 M_x14 M_x17 M_x18 T1.2.2.2.2.2.2.1 T1.2.2.2.2.2.2.2.1 T1.2.2.2.2.2.2.2.2.1 T1.2.2.2.2.2.2.2.2.2 M_x29 M_x33 T1.1 T1.2.1 T1.2.2.1 T1.2.2.2.1 M_r0 M_r9 M_r10 M_r11 M_r13 M_r15 M_r16 T1.2.2.2.2.1 T1.2.2.2.2.2.1 M_r30 M_r31 M_r32) H → va_D A (mW cI uM aM M_x1 M_x2 M_x3 M_x4 M_x5 M_x6 M_x7 M_x8 M_x12 M_x14 M_x17 M_x18 T1.2.2.2.2.2.2.1 T1.2.2.2.2.2.2.2.1 T1.2.2.2.2.2.2.2.2.1 T1.2.2.2.2.2.2.2.2.2 M_x29 M_x33 T1.1 T1.2.1 T1.2.2.1 T1.2.2.2.1 M_r0 M_r9 M_r10 M_r11 M_r13 M_r15 M_r16 T1.2.2.2.2.1 T1.2.2.2.2.2.1 M_r30 M_r31 M_r32) → va_S A s.heap H locs → lv_has ls 4 [(0, .ref uM)] → W p l e R s m ar below meth c H locs 0 0 QQ (F0 m 69 ls []) := by
    clear jP jD jS jl
    intro H locs ls jP jD jS jl
    refine lv_aload_n hx hb dX6_layBest_69 rfl (lv_at jl 0 rfl) ?_
    refine va_get (D := D) (ci := 6) (v := .int T1.2.2.2.2.2.2.2.2.2) (C := RX6) (T := TX6) (N := 34) hx hb hts in6 hown jK.1 jP 0 rfl rfl 27 (by decide) (hts _ w_559) (fun _ h9 => h9) rfl dX6_layBest_70 ?_
    refine lv_bipush (v := (-4 : Int32)) hx hb dX6_layBest_73 (by decide) ?_
    refine lv_icmp_eq (tgt := 82) hx hb dX6_layBest_75 (by decide) (fun c9 => ?_) (fun c9 => ?_)
    · have hz1 := itp c9 hz1
      refine lv_iconst (v := (0 : Int32)) hx hb dX6_layBest_82 (by decide) ?_
      obtain rfl := Option.some.inj hz1
      exact hRet _ _ _ _ (Or.inl rfl) jP jD jS dX6_layBest_83
    · have hz1 := itn c9 hz1
      refine lv_iconst (v := (1 : Int32)) hx hb dX6_layBest_78 (by decide) ?_
      refine lv_goto (tgt := 83) hx hb dX6_layBest_79 (by decide) ?_
      obtain rfl := Option.some.inj hz1
      exact hRet _ _ _ _ (Or.inr rfl) jP jD jS dX6_layBest_83
  have hL1 : ∀ (n : Nat) (v1 : (Int32 × Int64 × Int64 × Int64 × Int64 × (Nat → Int32) × (Nat → Int32) × Int32 × Int32 × Int32 × Int32)), loopF (fX6_layBest_b13 a1 a2 M_r11 M_r15 M_x12 M_x18) n v1 = some T1 → ∀ (H : Heap) (locs : List Loc) (ls : Array Slot), va_P D vwCl (mW cI uM aM M_x1 M_x2 M_x3 M_x4 M_x5 M_x6 M_x7 M_x8 M_x12 M_x14 M_x17 M_x18 v1.2.2.2.2.2.2.2.1 v1.2.2.2.2.2.2.2.2.1 v1.2.2.2.2.2.2.2.2.2.1 v1.2.2.2.2.2.2.2.2.2.2 M_x29 M_x33 v1.2.1 v1.2.2.1 v1.2.2.2.1 v1.2.2.2.2.1 M_r0 M_r9 M_r10 M_r11 M_r13 M_r15 M_r16 v1.2.2.2.2.2.1 v1.2.2.2.2.2.2.1 M_r30 M_r31 M_r32) H → va_D A (mW cI uM aM M_x1 M_x2 M_x3 M_x4 M_x5 M_x6 M_x7 M_x8 M_x12 M_x14 M_x17 M_x18 v1.2.2.2.2.2.2.2.1 v1.2.2.2.2.2.2.2.2.1 v1.2.2.2.2.2.2.2.2.2.1 v1.2.2.2.2.2.2.2.2.2.2 M_x29 M_x33 v1.2.1 v1.2.2.1 v1.2.2.2.1 v1.2.2.2.2.1 M_r0 M_r9 M_r10 M_r11 M_r13 M_r15 M_r16 v1.2.2.2.2.2.1 v1.2.2.2.2.2.2.1 M_r30 M_r31 M_r32) → va_S A s.heap H locs → lv_has ls 4 [(0, .ref uM), (1, .int a1), (2, .int a2), (3, .int v1.1)] → W p l e R s m ar below meth c H locs 0 0 QQ (F0 m 13 ls []) := by
    clear jP jD jS jl hT1
    intro n
    induction n with
    | zero => intro v1 hq; exact (loop_none hq).elim
    | succ n ih =>
      intro v1 hq H locs ls jP jD jS jl
      obtain ⟨o1, hv1, hq1⟩ := loop_some hq
      clear hq
      unfold fX6_layBest_b13 at hv1
      refine lv_iload_n hx hb dX6_layBest_13 rfl (lv_at jl 3 rfl) ?_
      refine lv_bipush (v := (100 : Int32)) hx hb dX6_layBest_14 (by decide) ?_
      refine lv_icmp_ge (tgt := 69) hx hb dX6_layBest_16 (by decide) (fun c2 => ?_) (fun c2 => ?_)
      · have hv1 := itp c2 hv1
        obtain rfl := Option.some.inj hv1
        obtain rfl := nxt_r hq1
        exact hE1 _ _ _ jP jD jS (lv_sub jl [0] rfl)
      · have hv1 := itn c2 hv1
        refine lv_aload_n hx hb dX6_layBest_19 rfl (lv_at jl 0 rfl) ?_
        refine lv_iload_n hx hb dX6_layBest_20 rfl (lv_at jl 1 rfl) ?_
        refine lv_iload_n hx hb dX6_layBest_21 rfl (lv_at jl 2 rfl) ?_
        refine lv_iload_n hx hb dX6_layBest_22 rfl (lv_at jl 3 rfl) ?_
        obtain ⟨t3, hc4, hv1⟩ := bd_some hv1
        refine callW (w1 := (mW cI uM aM M_x1 M_x2 M_x3 M_x4 M_x5 M_x6 M_x7 M_x8 M_x12 M_x14 M_x17 M_x18 t3.2.2.2.2.2.2.1 t3.2.2.2.2.2.2.2.1 t3.2.2.2.2.2.2.2.2 v1.2.2.2.2.2.2.2.2.2.2 M_x29 M_x33 t3.2.1 t3.2.2.1 t3.2.2.2.1 v1.2.2.2.2.1 M_r0 M_r9 M_r10 M_r11 M_r13 M_r15 M_r16 t3.2.2.2.2.1 t3.2.2.2.2.2.1 M_r30 M_r31 M_r32)) (As := [.int a1, .int a2, .int v1.1]) (rest := []) (st1 := [.int t3.1]) 0 F (kX6_doesRest l D cI cB cS uM aM M_x1 M_x2 M_x3 M_x4 M_x5 M_x6 M_x7 M_x8 M_x12 M_x14 M_x17 M_x18 v1.2.2.2.2.2.2.2.1 v1.2.2.2.2.2.2.2.2.1 v1.2.2.2.2.2.2.2.2.2.1 v1.2.2.2.2.2.2.2.2.2.2 M_x29 M_x33 v1.2.1 v1.2.2.1 v1.2.2.2.1 v1.2.2.2.2.1 M_r0 M_r9 M_r10 M_r11 M_r13 M_r15 M_r16 v1.2.2.2.2.2.1 v1.2.2.2.2.2.2.1 M_r30 M_r31 M_r32 a1 a2 v1.1 _ hc4 ) okX6_doesRest w_500 (by decide) (by decide) ⟨Nat.zero_le _, Nat.zero_le _⟩ rfl rfl rfl jP jD jS rfl jl.1 rfl rfl (Nat.le_of_ble_eq_true rfl) dX6_layBest_23 (fun H locs jP jD jS => ?_)
        obtain ⟨t8, hvt8, hv1⟩ := bd_some hv1
        have hJt8 : ∀ (H : Heap) (locs : List Loc) (ls : Array Slot), va_P D vwCl (mW cI uM aM M_x1 M_x2 M_x3 M_x4 M_x5 M_x6 M_x7 M_x8 M_x12 M_x14 M_x17 M_x18 t3.2.2.2.2.2.2.1 t3.2.2.2.2.2.2.2.1 t3.2.2.2.2.2.2.2.2 t8.2 M_x29 M_x33 t3.2.1 t3.2.2.1 t3.2.2.2.1 t8.1 M_r0 M_r9 M_r10 M_r11 M_r13 M_r15 M_r16 t3.2.2.2.2.1 t3.2.2.2.2.2.1 M_r30 M_r31 M_r32) H → va_D A (mW cI uM aM M_x1 M_x2 M_x3 M_x4 M_x5 M_x6 M_x7 M_x8 M_x12 M_x14 M_x17 M_x18 t3.2.2.2.2.2.2.1 t3.2.2.2.2.2.2.2.1 t3.2.2.2.2.2.2.2.2 t8.2 M_x29 M_x33 t3.2.1 t3.2.2.1 t3.2.2.2.1 t8.1 M_r0 M_r9 M_r10 M_r11 M_r13 M_r15 M_r16 t3.2.2.2.2.1 t3.2.2.2.2.2.1 M_r30 M_r31 M_r32) → va_S A s.heap H locs → lv_has ls 4 [(0, .ref uM), (1, .int a1), (2, .int a2), (3, .int v1.1)] → W p l e R s m ar below meth c H locs 0 0 QQ (F0 m 63 ls []) := by
          clear jP jD jS jl
          intro H locs ls jP jD jS jl
          refine lv_iinc (v := (v1.1 + (1 : Int32))) (lv' := [(3, .int (v1.1 + (1 : Int32))), (0, .ref uM), (1, .int a1), (2, .int a2)]) hx hb dX6_layBest_63 jl (k := 3) rfl rfl (by decide) rfl (fun ls jl => ?_)
          refine lv_goto (tgt := 13) hx hb dX6_layBest_66 (by decide) ?_
          obtain rfl := Option.some.inj hv1
          exact ih _ (nxt_l hq1) _ _ _ jP jD jS (lv_sub jl [1, 2, 3, 0] rfl)
        clear hv1
        refine lv_if_eq (tgt := 63) hx hb dX6_layBest_26 (by decide) (fun c5 => ?_) (fun c5 => ?_)
        · have hvt8 := itp c5 hvt8
          obtain rfl := Option.some.inj hvt8
          exact hJt8 _ _ _ jP jD jS (lv_sub jl [0, 1, 2, 3] rfl)
        · have hvt8 := itn c5 hvt8
          refine lv_aload_n hx hb dX6_layBest_29 rfl (lv_at jl 0 rfl) ?_
          refine va_get (D := D) (ci := 6) (v := .int v1.2.2.2.2.2.2.2.2.2.2) (C := RX6) (T := TX6) (N := 34) hx hb hts in6 hown jK.1 jP 0 rfl rfl 27 (by decide) (hts _ w_559) (fun _ h9 => h9) rfl dX6_layBest_30 ?_
          refine lv_bipush (v := (-4 : Int32)) hx hb dX6_layBest_33 (by decide) ?_
          refine lv_icmp_eq (tgt := 50) hx hb dX6_layBest_35 (by decide) (fun c6 => ?_) (fun c6 => ?_)
          · have hvt8 := itp c6 hvt8
            refine lv_aload_n hx hb dX6_layBest_50 rfl (lv_at jl 0 rfl) ?_
            refine lv_iload_n hx hb dX6_layBest_51 rfl (lv_at jl 3 rfl) ?_
            refine va_put (D := D) (ci := 6) (v := .int v1.1) (ty := .int) (C := RX6) (T := TX6) (N := 34) hx hb hts in6 tyX6 tyX6_ok nmX6 hown jK.1 jP jD jS 0 rfl rfl 27 (by decide) (hts _ w_559) (fun _ h9 => h9) rfl (by decide +kernel) rfl rfl (Nat.le_of_ble_eq_true rfl) dX6_layBest_52 (fun H locs jP jD jS => ?_)
            have jP : va_P D vwCl (mW cI uM aM M_x1 M_x2 M_x3 M_x4 M_x5 M_x6 M_x7 M_x8 M_x12 M_x14 M_x17 M_x18 t3.2.2.2.2.2.2.1 t3.2.2.2.2.2.2.2.1 t3.2.2.2.2.2.2.2.2 v1.1 M_x29 M_x33 t3.2.1 t3.2.2.1 t3.2.2.2.1 v1.2.2.2.2.1 M_r0 M_r9 M_r10 M_r11 M_r13 M_r15 M_r16 t3.2.2.2.2.1 t3.2.2.2.2.2.1 M_r30 M_r31 M_r32) H := jP
            have jD : va_D A (mW cI uM aM M_x1 M_x2 M_x3 M_x4 M_x5 M_x6 M_x7 M_x8 M_x12 M_x14 M_x17 M_x18 t3.2.2.2.2.2.2.1 t3.2.2.2.2.2.2.2.1 t3.2.2.2.2.2.2.2.2 v1.1 M_x29 M_x33 t3.2.1 t3.2.2.1 t3.2.2.2.1 v1.2.2.2.2.1 M_r0 M_r9 M_r10 M_r11 M_r13 M_r15 M_r16 t3.2.2.2.2.1 t3.2.2.2.2.2.1 M_r30 M_r31 M_r32) := jD
            refine lv_aload_n hx hb dX6_layBest_55 rfl (lv_at jl 0 rfl) ?_
            refine lv_aload_n hx hb dX6_layBest_56 rfl (lv_at jl 0 rfl) ?_
            refine va_get (D := D) (ci := 6) (v := .long t3.2.2.2.1) (C := RX6) (T := TX6) (N := 34) hx hb hts in6 hown jK.1 jP 0 rfl rfl 26 (by decide) (hts _ w_428) (fun _ h9 => h9) rfl dX6_layBest_57 ?_
            refine va_put (D := D) (ci := 6) (v := .long t3.2.2.2.1) (ty := .long) (C := RX6) (T := TX6) (N := 34) hx hb hts in6 tyX6 tyX6_ok nmX6 hown jK.1 jP jD jS 0 rfl rfl 28 (by decide) (hts _ w_560) (fun _ h9 => h9) rfl (by decide +kernel) rfl rfl (Nat.le_of_ble_eq_true rfl) dX6_layBest_60 (fun H locs jP jD jS => ?_)
            have jP : va_P D vwCl (mW cI uM aM M_x1 M_x2 M_x3 M_x4 M_x5 M_x6 M_x7 M_x8 M_x12 M_x14 M_x17 M_x18 t3.2.2.2.2.2.2.1 t3.2.2.2.2.2.2.2.1 t3.2.2.2.2.2.2.2.2 v1.1 M_x29 M_x33 t3.2.1 t3.2.2.1 t3.2.2.2.1 t3.2.2.2.1 M_r0 M_r9 M_r10 M_r11 M_r13 M_r15 M_r16 t3.2.2.2.2.1 t3.2.2.2.2.2.1 M_r30 M_r31 M_r32) H := jP
            have jD : va_D A (mW cI uM aM M_x1 M_x2 M_x3 M_x4 M_x5 M_x6 M_x7 M_x8 M_x12 M_x14 M_x17 M_x18 t3.2.2.2.2.2.2.1 t3.2.2.2.2.2.2.2.1 t3.2.2.2.2.2.2.2.2 v1.1 M_x29 M_x33 t3.2.1 t3.2.2.1 t3.2.2.2.1 t3.2.2.2.1 M_r0 M_r9 M_r10 M_r11 M_r13 M_r15 M_r16 t3.2.2.2.2.1 t3.2.2.2.2.2.1 M_r30 M_r31 M_r32) := jD
            obtain rfl := Option.some.inj hvt8
            exact hJt8 _ _ _ jP jD jS (lv_sub jl [0, 1, 2, 3] rfl)
          · have hvt8 := itn c6 hvt8
            refine lv_aload_n hx hb dX6_layBest_38 rfl (lv_at jl 0 rfl) ?_
            refine va_get (D := D) (ci := 6) (v := .long t3.2.2.2.1) (C := RX6) (T := TX6) (N := 34) hx hb hts in6 hown jK.1 jP 0 rfl rfl 26 (by decide) (hts _ w_428) (fun _ h9 => h9) rfl dX6_layBest_39 ?_
            refine lv_aload_n hx hb dX6_layBest_42 rfl (lv_at jl 0 rfl) ?_
            refine va_get (D := D) (ci := 6) (v := .long v1.2.2.2.2.1) (C := RX6) (T := TX6) (N := 34) hx hb hts in6 hown jK.1 jP 0 rfl rfl 28 (by decide) (hts _ w_560) (fun _ h9 => h9) rfl dX6_layBest_43 ?_
            refine W.lcmp hx hb dX6_layBest_46 ?_
            refine lv_if_le (tgt := 63) hx hb dX6_layBest_47 (by decide) (fun c7 => ?_) (fun c7 => ?_)
            · have hvt8 := itp c7 hvt8
              obtain rfl := Option.some.inj hvt8
              exact hJt8 _ _ _ jP jD jS (lv_sub jl [0, 1, 2, 3] rfl)
            · have hvt8 := itn c7 hvt8
              refine lv_aload_n hx hb dX6_layBest_50 rfl (lv_at jl 0 rfl) ?_
              refine lv_iload_n hx hb dX6_layBest_51 rfl (lv_at jl 3 rfl) ?_
              refine va_put (D := D) (ci := 6) (v := .int v1.1) (ty := .int) (C := RX6) (T := TX6) (N := 34) hx hb hts in6 tyX6 tyX6_ok nmX6 hown jK.1 jP jD jS 0 rfl rfl 27 (by decide) (hts _ w_559) (fun _ h9 => h9) rfl (by decide +kernel) rfl rfl (Nat.le_of_ble_eq_true rfl) dX6_layBest_52 (fun H locs jP jD jS => ?_)
              have jP : va_P D vwCl (mW cI uM aM M_x1 M_x2 M_x3 M_x4 M_x5 M_x6 M_x7 M_x8 M_x12 M_x14 M_x17 M_x18 t3.2.2.2.2.2.2.1 t3.2.2.2.2.2.2.2.1 t3.2.2.2.2.2.2.2.2 v1.1 M_x29 M_x33 t3.2.1 t3.2.2.1 t3.2.2.2.1 v1.2.2.2.2.1 M_r0 M_r9 M_r10 M_r11 M_r13 M_r15 M_r16 t3.2.2.2.2.1 t3.2.2.2.2.2.1 M_r30 M_r31 M_r32) H := jP
              have jD : va_D A (mW cI uM aM M_x1 M_x2 M_x3 M_x4 M_x5 M_x6 M_x7 M_x8 M_x12 M_x14 M_x17 M_x18 t3.2.2.2.2.2.2.1 t3.2.2.2.2.2.2.2.1 t3.2.2.2.2.2.2.2.2 v1.1 M_x29 M_x33 t3.2.1 t3.2.2.1 t3.2.2.2.1 v1.2.2.2.2.1 M_r0 M_r9 M_r10 M_r11 M_r13 M_r15 M_r16 t3.2.2.2.2.1 t3.2.2.2.2.2.1 M_r30 M_r31 M_r32) := jD
              refine lv_aload_n hx hb dX6_layBest_55 rfl (lv_at jl 0 rfl) ?_
              refine lv_aload_n hx hb dX6_layBest_56 rfl (lv_at jl 0 rfl) ?_
              refine va_get (D := D) (ci := 6) (v := .long t3.2.2.2.1) (C := RX6) (T := TX6) (N := 34) hx hb hts in6 hown jK.1 jP 0 rfl rfl 26 (by decide) (hts _ w_428) (fun _ h9 => h9) rfl dX6_layBest_57 ?_
              refine va_put (D := D) (ci := 6) (v := .long t3.2.2.2.1) (ty := .long) (C := RX6) (T := TX6) (N := 34) hx hb hts in6 tyX6 tyX6_ok nmX6 hown jK.1 jP jD jS 0 rfl rfl 28 (by decide) (hts _ w_560) (fun _ h9 => h9) rfl (by decide +kernel) rfl rfl (Nat.le_of_ble_eq_true rfl) dX6_layBest_60 (fun H locs jP jD jS => ?_)
              have jP : va_P D vwCl (mW cI uM aM M_x1 M_x2 M_x3 M_x4 M_x5 M_x6 M_x7 M_x8 M_x12 M_x14 M_x17 M_x18 t3.2.2.2.2.2.2.1 t3.2.2.2.2.2.2.2.1 t3.2.2.2.2.2.2.2.2 v1.1 M_x29 M_x33 t3.2.1 t3.2.2.1 t3.2.2.2.1 t3.2.2.2.1 M_r0 M_r9 M_r10 M_r11 M_r13 M_r15 M_r16 t3.2.2.2.2.1 t3.2.2.2.2.2.1 M_r30 M_r31 M_r32) H := jP
              have jD : va_D A (mW cI uM aM M_x1 M_x2 M_x3 M_x4 M_x5 M_x6 M_x7 M_x8 M_x12 M_x14 M_x17 M_x18 t3.2.2.2.2.2.2.1 t3.2.2.2.2.2.2.2.1 t3.2.2.2.2.2.2.2.2 v1.1 M_x29 M_x33 t3.2.1 t3.2.2.1 t3.2.2.2.1 t3.2.2.2.1 M_r0 M_r9 M_r10 M_r11 M_r13 M_r15 M_r16 t3.2.2.2.2.1 t3.2.2.2.2.2.1 M_r30 M_r31 M_r32) := jD
              obtain rfl := Option.some.inj hvt8
              exact hJt8 _ _ _ jP jD jS (lv_sub jl [0, 1, 2, 3] rfl)
  exact hL1 1000 _ hT1 _ _ _ jP jD jS (lv_sub jl [1, 2, 3, 0] rfl)
theorem okX6_best : okV yX6_best cX6_best 4 (some .int) 3 := ⟨w_556, w_557, w_558, w_5, by decide, by decide, by decide +kernel⟩
def fX6_best (M_g24 : Int64) (M_g25 : Int64) (M_g26 : Int64) (M_g28 : Int64) (M_r11 : (Nat → Int32)) (M_r15 : (Nat → Int32)) (M_r21 : (Nat → Int32)) (M_r22 : (Nat → Int32)) (M_x12 : Int32) (M_x18 : Int32) (M_x19 : Int32) (M_x20 : Int32) (M_x23 : Int32) (M_x27 : Int32) (a1 : Int32) (a2 : Int32) (a3 : Int32) : Option (Int32 × Int64 × Int64 × Int64 × Int64 × (Nat → Int32) × (Nat → Int32) × Int32 × Int32 × Int32 × Int32) :=
  bd (fX6_isOffer a1 a2) (fun t1 => if t1 = (0 : Int32) then (some ((-1000000000 : Int32), M_g24, M_g25, M_g26, M_g28, M_r21, M_r22, M_x19, M_x20, M_x23, M_x27)) else (bd (fX6_in a3.toInt64 (0 : Int64) (1 : Int64)) (fun t4 => if t4 = (0 : Int32) then (some ((-1000000000 : Int32), M_g24, M_g25, M_g26, M_g28, M_r21, M_r22, M_x19, M_x20, M_x23, M_x27)) else (bd (fX6_layBest (M_g24) (M_g25) (M_g26) (M_r11) (M_r15) (M_r21) (M_r22) (M_x12) (M_x18) (M_x19) (M_x20) (M_x23) a1 a2) (fun t7 => if t7.1 = (0 : Int32) then (some ((-1000000004 : Int32), t7.2.1, t7.2.2.1, t7.2.2.2.1, t7.2.2.2.2.1, t7.2.2.2.2.2.1, t7.2.2.2.2.2.2.1, t7.2.2.2.2.2.2.2.1, t7.2.2.2.2.2.2.2.2.1, t7.2.2.2.2.2.2.2.2.2.1, t7.2.2.2.2.2.2.2.2.2.2)) else (if a3 = (0 : Int32) then (some (t7.2.2.2.2.2.2.2.2.2.2, t7.2.1, t7.2.2.1, t7.2.2.2.1, t7.2.2.2.2.1, t7.2.2.2.2.2.1, t7.2.2.2.2.2.2.1, t7.2.2.2.2.2.2.2.1, t7.2.2.2.2.2.2.2.2.1, t7.2.2.2.2.2.2.2.2.2.1, t7.2.2.2.2.2.2.2.2.2.2)) else (some (t7.2.2.2.2.1.toInt32, t7.2.1, t7.2.2.1, t7.2.2.2.1, t7.2.2.2.2.1, t7.2.2.2.2.2.1, t7.2.2.2.2.2.2.1, t7.2.2.2.2.2.2.2.1, t7.2.2.2.2.2.2.2.2.1, t7.2.2.2.2.2.2.2.2.2.1, t7.2.2.2.2.2.2.2.2.2.2))))))))
set_option maxRecDepth 100000 in
set_option maxHeartbeats 4000000 in
theorem kX6_best (l : Launch) (D : va_G) (cI cB cS : ClassId) (uM : Nat) (aM : Nat → Nat) (M_x1 : Int32) (M_x2 : Int32) (M_x3 : Int32) (M_x4 : Int32) (M_x5 : Int32) (M_x6 : Int32) (M_x7 : Int32) (M_x8 : Int32) (M_x12 : Int32) (M_x14 : Int32) (M_x17 : Int32) (M_x18 : Int32) (M_x19 : Int32) (M_x20 : Int32) (M_x23 : Int32) (M_x27 : Int32) (M_x29 : Int32) (M_x33 : Int32) (M_g24 : Int64) (M_g25 : Int64) (M_g26 : Int64) (M_g28 : Int64) (M_r0 : (Nat → Int32)) (M_r9 : (Nat → Int32)) (M_r10 : (Nat → Int32)) (M_r11 : (Nat → Int32)) (M_r13 : (Nat → Int32)) (M_r15 : (Nat → Int32)) (M_r16 : (Nat → Int32)) (M_r21 : (Nat → Int32)) (M_r22 : (Nat → Int32)) (M_r30 : (Nat → Int32)) (M_r31 : (Nat → Int32)) (M_r32 : (Nat → Int32)) (a1 : Int32) (a2 : Int32) (a3 : Int32) (z : (Int32 × Int64 × Int64 × Int64 × Int64 × (Nat → Int32) × (Nat → Int32) × Int32 × Int32 × Int32 × Int32)) (h : fX6_best M_g24 M_g25 M_g26 M_g28 M_r11 M_r15 M_r21 M_r22 M_x12 M_x18 M_x19 M_x20 M_x23 M_x27 a1 a2 a3 = some z) : Mt l yX6_best cX6_best 4 (some .int) 6 138 D cI cB cS (mW cI uM aM M_x1 M_x2 M_x3 M_x4 M_x5 M_x6 M_x7 M_x8 M_x12 M_x14 M_x17 M_x18 M_x19 M_x20 M_x23 M_x27 M_x29 M_x33 M_g24 M_g25 M_g26 M_g28 M_r0 M_r9 M_r10 M_r11 M_r13 M_r15 M_r16 M_r21 M_r22 M_r30 M_r31 M_r32) (mW cI uM aM M_x1 M_x2 M_x3 M_x4 M_x5 M_x6 M_x7 M_x8 M_x12 M_x14 M_x17 M_x18 z.2.2.2.2.2.2.2.1 z.2.2.2.2.2.2.2.2.1 z.2.2.2.2.2.2.2.2.2.1 z.2.2.2.2.2.2.2.2.2.2 M_x29 M_x33 z.2.1 z.2.2.1 z.2.2.2.1 z.2.2.2.2.1 M_r0 M_r9 M_r10 M_r11 M_r13 M_r15 M_r16 z.2.2.2.2.2.1 z.2.2.2.2.2.2.1 M_r30 M_r31 M_r32) [.ref uM, .int a1, .int a2, .int a3] (some (.int z.1)) := by
  refine entryI (by decide +kernel) rfl (Nat.le_of_ble_eq_true rfl) ?_
  intro p e s m below meth c A ls QQ R ar F hRet jP jD jS jl
  obtain ⟨hx, hb, hml, hown, hts, jK, hA, hf1, hf2⟩ := id F
  have jl : lv_has ls 4 [(0, .ref uM), (1, .int a1), (2, .int a2), (3, .int a3)] := jl
  unfold fX6_best at h
  refine lv_iload_n hx hb dX6_best_0 rfl (lv_at jl 1 rfl) ?_
  refine lv_iload_n hx hb dX6_best_1 rfl (lv_at jl 2 rfl) ?_
  obtain ⟨t1, hc2, h⟩ := bd_some h
  refine call0 (As := [.int a1, .int a2]) (rest := []) (st1 := [.int t1]) F (kX6_isOffer l D cI cB cS  a1 a2 _ hc2 ) okX6_isOffer w_417 (by decide) (by decide) ⟨Nat.zero_le _, Nat.zero_le _⟩ jP jD jS rfl jl.1 rfl rfl (Nat.le_of_ble_eq_true rfl) dX6_best_2 (fun H locs jP jD jS => ?_)
  refine lv_if_eq (tgt := 18) hx hb dX6_best_5 (by decide) (fun c3 => ?_) (fun c3 => ?_)
  · have h := itp c3 h
    refine lv_ldc (v := (-1000000000 : Int32)) hx hb hown (hts _ w_478) dX6_best_18 ?_
    obtain rfl := Option.some.inj h
    exact hRet _ _ _ _ jP jD jS dX6_best_20
  · have h := itn c3 h
    refine lv_iload_n hx hb dX6_best_8 rfl (lv_at jl 3 rfl) ?_
    refine lv_i2l (v := a3.toInt64) hx hb dX6_best_9 rfl ?_
    refine lv_lconst (v := (0 : Int64)) hx hb dX6_best_10 (by decide) ?_
    refine lv_lconst (v := (1 : Int64)) hx hb dX6_best_11 (by decide) ?_
    obtain ⟨t4, hc5, h⟩ := bd_some h
    refine call0 (As := [.long a3.toInt64, .long (0 : Int64), .long (1 : Int64)]) (rest := []) (st1 := [.int t4]) F (kX6_in l D cI cB cS  a3.toInt64 (0 : Int64) (1 : Int64) _ hc5 ) okX6_in w_112 (by decide) (by decide) ⟨Nat.zero_le _, Nat.zero_le _⟩ jP jD jS rfl jl.1 rfl rfl (Nat.le_of_ble_eq_true rfl) dX6_best_12 (fun H locs jP jD jS => ?_)
    refine lv_if_ne (tgt := 21) hx hb dX6_best_15 (by decide) (fun c6 => ?_) (fun c6 => ?_)
    · have h := itn c6 h
      refine lv_aload_n hx hb dX6_best_21 rfl (lv_at jl 0 rfl) ?_
      refine lv_iload_n hx hb dX6_best_22 rfl (lv_at jl 1 rfl) ?_
      refine lv_iload_n hx hb dX6_best_23 rfl (lv_at jl 2 rfl) ?_
      obtain ⟨t7, hc8, h⟩ := bd_some h
      refine callW (w1 := (mW cI uM aM M_x1 M_x2 M_x3 M_x4 M_x5 M_x6 M_x7 M_x8 M_x12 M_x14 M_x17 M_x18 t7.2.2.2.2.2.2.2.1 t7.2.2.2.2.2.2.2.2.1 t7.2.2.2.2.2.2.2.2.2.1 t7.2.2.2.2.2.2.2.2.2.2 M_x29 M_x33 t7.2.1 t7.2.2.1 t7.2.2.2.1 t7.2.2.2.2.1 M_r0 M_r9 M_r10 M_r11 M_r13 M_r15 M_r16 t7.2.2.2.2.2.1 t7.2.2.2.2.2.2.1 M_r30 M_r31 M_r32)) (As := [.int a1, .int a2]) (rest := []) (st1 := [.int t7.1]) 0 F (kX6_layBest l D cI cB cS uM aM M_x1 M_x2 M_x3 M_x4 M_x5 M_x6 M_x7 M_x8 M_x12 M_x14 M_x17 M_x18 M_x19 M_x20 M_x23 M_x27 M_x29 M_x33 M_g24 M_g25 M_g26 M_g28 M_r0 M_r9 M_r10 M_r11 M_r13 M_r15 M_r16 M_r21 M_r22 M_r30 M_r31 M_r32 a1 a2 _ hc8 ) okX6_layBest w_561 (by decide) (by decide) ⟨Nat.zero_le _, Nat.zero_le _⟩ rfl rfl rfl jP jD jS rfl jl.1 rfl rfl (Nat.le_of_ble_eq_true rfl) dX6_best_24 (fun H locs jP jD jS => ?_)
      refine lv_if_ne (tgt := 35) hx hb dX6_best_27 (by decide) (fun c9 => ?_) (fun c9 => ?_)
      · have h := itn c9 h
        refine lv_iload_n hx hb dX6_best_35 rfl (lv_at jl 3 rfl) ?_
        refine lv_if_ne (tgt := 46) hx hb dX6_best_36 (by decide) (fun c10 => ?_) (fun c10 => ?_)
        · have h := itn c10 h
          refine lv_aload_n hx hb dX6_best_46 rfl (lv_at jl 0 rfl) ?_
          refine va_get (D := D) (ci := 6) (v := .long t7.2.2.2.2.1) (C := RX6) (T := TX6) (N := 34) hx hb hts in6 hown jK.1 jP 0 rfl rfl 28 (by decide) (hts _ w_560) (fun _ h9 => h9) rfl dX6_best_47 ?_
          refine lv_l2i (v := t7.2.2.2.2.1.toInt32) hx hb dX6_best_50 rfl ?_
          obtain rfl := Option.some.inj h
          exact hRet _ _ _ _ jP jD jS dX6_best_51
        · have h := itp c10 h
          refine lv_aload_n hx hb dX6_best_39 rfl (lv_at jl 0 rfl) ?_
          refine va_get (D := D) (ci := 6) (v := .int t7.2.2.2.2.2.2.2.2.2.2) (C := RX6) (T := TX6) (N := 34) hx hb hts in6 hown jK.1 jP 0 rfl rfl 27 (by decide) (hts _ w_559) (fun _ h9 => h9) rfl dX6_best_40 ?_
          refine lv_goto (tgt := 51) hx hb dX6_best_43 (by decide) ?_
          obtain rfl := Option.some.inj h
          exact hRet _ _ _ _ jP jD jS dX6_best_51
      · have h := itp c9 h
        refine lv_ldc (v := (-1000000004 : Int32)) hx hb hown (hts _ w_479) dX6_best_30 ?_
        refine lv_goto (tgt := 51) hx hb dX6_best_32 (by decide) ?_
        obtain rfl := Option.some.inj h
        exact hRet _ _ _ _ jP jD jS dX6_best_51
    · have h := itp c6 h
      refine lv_ldc (v := (-1000000000 : Int32)) hx hb hown (hts _ w_478) dX6_best_18 ?_
      obtain rfl := Option.some.inj h
      exact hRet _ _ _ _ jP jD jS dX6_best_20
theorem okX6_all : okV yX6_all cX6_all 4 (some .int) 0 := ⟨w_572, w_573, w_574, w_5, by decide, by decide, by decide +kernel⟩
def fX6_all_b4 (M_x12 : Int32) (M_r11 : (Nat → Int32)) (v1 : (Int32 × Int32)) : Option ((Int32 × Int32) ⊕ Int32) :=
  if M_x12 ≤ v1.2 then (some (.inr v1.1)) else (bd (fX6_its (M_r11) v1.2 (2 : Int32)) (fun t1 => bd (fX6_its (M_r11) v1.2 (1 : Int32)) (fun t2 => bd (if (t1 - t2) ≤ (0 : Int32) then (some (0 : Int32)) else (bd (fX6_its (M_r11) v1.2 (0 : Int32)) (fun t3 => some (((800 : Int32) * t3) * (t1 - t2))))) (fun t4 => some (.inl ((v1.1 + t4), (v1.2 + (1 : Int32))))))))
def fX6_all (M_r11 : (Nat → Int32)) (M_x12 : Int32) : Option Int32 :=
  bd (loopF (fX6_all_b4 M_x12 M_r11) 1000 ((0 : Int32), (0 : Int32))) (fun T1 => some T1)
set_option maxRecDepth 100000 in
set_option maxHeartbeats 4000000 in
theorem kX6_all (l : Launch) (D : va_G) (cI cB cS : ClassId) (uM : Nat) (aM : Nat → Nat) (M_x1 : Int32) (M_x2 : Int32) (M_x3 : Int32) (M_x4 : Int32) (M_x5 : Int32) (M_x6 : Int32) (M_x7 : Int32) (M_x8 : Int32) (M_x12 : Int32) (M_x14 : Int32) (M_x17 : Int32) (M_x18 : Int32) (M_x19 : Int32) (M_x20 : Int32) (M_x23 : Int32) (M_x27 : Int32) (M_x29 : Int32) (M_x33 : Int32) (M_g24 : Int64) (M_g25 : Int64) (M_g26 : Int64) (M_g28 : Int64) (M_r0 : (Nat → Int32)) (M_r9 : (Nat → Int32)) (M_r10 : (Nat → Int32)) (M_r11 : (Nat → Int32)) (M_r13 : (Nat → Int32)) (M_r15 : (Nat → Int32)) (M_r16 : (Nat → Int32)) (M_r21 : (Nat → Int32)) (M_r22 : (Nat → Int32)) (M_r30 : (Nat → Int32)) (M_r31 : (Nat → Int32)) (M_r32 : (Nat → Int32)) (z : Int32) (h : fX6_all M_r11 M_x12 = some z) : Mt l yX6_all cX6_all 4 (some .int) 1 22 D cI cB cS (mW cI uM aM M_x1 M_x2 M_x3 M_x4 M_x5 M_x6 M_x7 M_x8 M_x12 M_x14 M_x17 M_x18 M_x19 M_x20 M_x23 M_x27 M_x29 M_x33 M_g24 M_g25 M_g26 M_g28 M_r0 M_r9 M_r10 M_r11 M_r13 M_r15 M_r16 M_r21 M_r22 M_r30 M_r31 M_r32) (mW cI uM aM M_x1 M_x2 M_x3 M_x4 M_x5 M_x6 M_x7 M_x8 M_x12 M_x14 M_x17 M_x18 M_x19 M_x20 M_x23 M_x27 M_x29 M_x33 M_g24 M_g25 M_g26 M_g28 M_r0 M_r9 M_r10 M_r11 M_r13 M_r15 M_r16 M_r21 M_r22 M_r30 M_r31 M_r32) [.ref uM] (some (.int z)) := by
  refine entryI (by decide +kernel) rfl (Nat.le_of_ble_eq_true rfl) ?_
  intro p e s m below meth c A ls QQ R ar F hRet jP jD jS jl
  obtain ⟨hx, hb, hml, hown, hts, jK, hA, hf1, hf2⟩ := id F
  have jl : lv_has ls 4 [(0, .ref uM)] := jl
  unfold fX6_all at h
  refine lv_iconst (v := (0 : Int32)) hx hb dX6_all_0 (by decide) ?_
  refine lv_istore_n (lv' := [(1, .int (0 : Int32)), (0, .ref uM)]) hx hb dX6_all_1 rfl jl (by decide) rfl (fun ls jl => ?_)
  refine lv_iconst (v := (0 : Int32)) hx hb dX6_all_2 (by decide) ?_
  refine lv_istore_n (lv' := [(2, .int (0 : Int32)), (1, .int (0 : Int32)), (0, .ref uM)]) hx hb dX6_all_3 rfl jl (by decide) rfl (fun ls jl => ?_)
  obtain ⟨T1, hT1, hz1⟩ := bd_some h
  clear h
  have hE1 : ∀ (H : Heap) (locs : List Loc) (ls : Array Slot), va_P D vwCl (mW cI uM aM M_x1 M_x2 M_x3 M_x4 M_x5 M_x6 M_x7 M_x8 M_x12 M_x14 M_x17 M_x18 M_x19 M_x20 M_x23 M_x27 M_x29 M_x33 M_g24 M_g25 M_g26 M_g28 M_r0 M_r9 M_r10 M_r11 M_r13 M_r15 M_r16 M_r21 M_r22 M_r30 M_r31 M_r32) H → va_D A (mW cI uM aM M_x1 M_x2 M_x3 M_x4 M_x5 M_x6 M_x7 M_x8 M_x12 M_x14 M_x17 M_x18 M_x19 M_x20 M_x23 M_x27 M_x29 M_x33 M_g24 M_g25 M_g26 M_g28 M_r0 M_r9 M_r10 M_r11 M_r13 M_r15 M_r16 M_r21 M_r22 M_r30 M_r31 M_r32) → va_S A s.heap H locs → lv_has ls 4 [(1, .int T1)] → W p l e R s m ar below meth c H locs 0 0 QQ (F0 m 55 ls []) := by
    clear jP jD jS jl
    intro H locs ls jP jD jS jl
    refine lv_iload_n hx hb dX6_all_55 rfl (lv_at jl 0 rfl) ?_
    obtain rfl := Option.some.inj hz1
    exact hRet _ _ _ _ jP jD jS dX6_all_56
  have hL1 : ∀ (n : Nat) (v1 : (Int32 × Int32)), loopF (fX6_all_b4 M_x12 M_r11) n v1 = some T1 → ∀ (H : Heap) (locs : List Loc) (ls : Array Slot), va_P D vwCl (mW cI uM aM M_x1 M_x2 M_x3 M_x4 M_x5 M_x6 M_x7 M_x8 M_x12 M_x14 M_x17 M_x18 M_x19 M_x20 M_x23 M_x27 M_x29 M_x33 M_g24 M_g25 M_g26 M_g28 M_r0 M_r9 M_r10 M_r11 M_r13 M_r15 M_r16 M_r21 M_r22 M_r30 M_r31 M_r32) H → va_D A (mW cI uM aM M_x1 M_x2 M_x3 M_x4 M_x5 M_x6 M_x7 M_x8 M_x12 M_x14 M_x17 M_x18 M_x19 M_x20 M_x23 M_x27 M_x29 M_x33 M_g24 M_g25 M_g26 M_g28 M_r0 M_r9 M_r10 M_r11 M_r13 M_r15 M_r16 M_r21 M_r22 M_r30 M_r31 M_r32) → va_S A s.heap H locs → lv_has ls 4 [(0, .ref uM), (1, .int v1.1), (2, .int v1.2)] → W p l e R s m ar below meth c H locs 0 0 QQ (F0 m 4 ls []) := by
    clear jP jD jS jl hT1
    intro n
    induction n with
    | zero => intro v1 hq; exact (loop_none hq).elim
    | succ n ih =>
      intro v1 hq H locs ls jP jD jS jl
      obtain ⟨o1, hv1, hq1⟩ := loop_some hq
      clear hq
      unfold fX6_all_b4 at hv1
      refine lv_iload_n hx hb dX6_all_4 rfl (lv_at jl 2 rfl) ?_
      refine lv_aload_n hx hb dX6_all_5 rfl (lv_at jl 0 rfl) ?_
      refine va_get (D := D) (ci := 6) (v := .int M_x12) (C := RX6) (T := TX6) (N := 34) hx hb hts in6 hown jK.1 jP 0 rfl rfl 12 (by decide) (hts _ w_222) (fun _ h9 => h9) rfl dX6_all_6 ?_
      refine lv_icmp_ge (tgt := 55) hx hb dX6_all_9 (by decide) (fun c2 => ?_) (fun c2 => ?_)
      · have hv1 := itp c2 hv1
        obtain rfl := Option.some.inj hv1
        obtain rfl := nxt_r hq1
        exact hE1 _ _ _ jP jD jS (lv_sub jl [1] rfl)
      · have hv1 := itn c2 hv1
        refine lv_aload_n hx hb dX6_all_12 rfl (lv_at jl 0 rfl) ?_
        refine lv_iload_n hx hb dX6_all_13 rfl (lv_at jl 2 rfl) ?_
        refine lv_iconst (v := (2 : Int32)) hx hb dX6_all_14 (by decide) ?_
        obtain ⟨t3, hc4, hv1⟩ := bd_some hv1
        refine callW (w1 := (mW cI uM aM M_x1 M_x2 M_x3 M_x4 M_x5 M_x6 M_x7 M_x8 M_x12 M_x14 M_x17 M_x18 M_x19 M_x20 M_x23 M_x27 M_x29 M_x33 M_g24 M_g25 M_g26 M_g28 M_r0 M_r9 M_r10 M_r11 M_r13 M_r15 M_r16 M_r21 M_r22 M_r30 M_r31 M_r32)) (As := [.int v1.2, .int (2 : Int32)]) (rest := []) (st1 := [.int t3]) 0 F (kX6_its l D cI cB cS uM aM M_x1 M_x2 M_x3 M_x4 M_x5 M_x6 M_x7 M_x8 M_x12 M_x14 M_x17 M_x18 M_x19 M_x20 M_x23 M_x27 M_x29 M_x33 M_g24 M_g25 M_g26 M_g28 M_r0 M_r9 M_r10 M_r11 M_r13 M_r15 M_r16 M_r21 M_r22 M_r30 M_r31 M_r32 v1.2 (2 : Int32) _ hc4 ) okX6_its w_320 (by decide) (by decide) ⟨Nat.zero_le _, Nat.zero_le _⟩ rfl rfl rfl jP jD jS rfl jl.1 rfl rfl (Nat.le_of_ble_eq_true rfl) dX6_all_15 (fun H locs jP jD jS => ?_)
        refine lv_aload_n hx hb dX6_all_18 rfl (lv_at jl 0 rfl) ?_
        refine lv_iload_n hx hb dX6_all_19 rfl (lv_at jl 2 rfl) ?_
        refine lv_iconst (v := (1 : Int32)) hx hb dX6_all_20 (by decide) ?_
        obtain ⟨t5, hc6, hv1⟩ := bd_some hv1
        refine callW (w1 := (mW cI uM aM M_x1 M_x2 M_x3 M_x4 M_x5 M_x6 M_x7 M_x8 M_x12 M_x14 M_x17 M_x18 M_x19 M_x20 M_x23 M_x27 M_x29 M_x33 M_g24 M_g25 M_g26 M_g28 M_r0 M_r9 M_r10 M_r11 M_r13 M_r15 M_r16 M_r21 M_r22 M_r30 M_r31 M_r32)) (As := [.int v1.2, .int (1 : Int32)]) (rest := [.int t3]) (st1 := [.int t5, .int t3]) 0 F (kX6_its l D cI cB cS uM aM M_x1 M_x2 M_x3 M_x4 M_x5 M_x6 M_x7 M_x8 M_x12 M_x14 M_x17 M_x18 M_x19 M_x20 M_x23 M_x27 M_x29 M_x33 M_g24 M_g25 M_g26 M_g28 M_r0 M_r9 M_r10 M_r11 M_r13 M_r15 M_r16 M_r21 M_r22 M_r30 M_r31 M_r32 v1.2 (1 : Int32) _ hc6 ) okX6_its w_320 (by decide) (by decide) ⟨Nat.zero_le _, Nat.zero_le _⟩ rfl rfl rfl jP jD jS rfl jl.1 rfl rfl (Nat.le_of_ble_eq_true rfl) dX6_all_21 (fun H locs jP jD jS => ?_)
        refine lv_isub hx hb dX6_all_24 ?_
        refine lv_istore_n (lv' := [(3, .int (t3 - t5)), (0, .ref uM), (1, .int v1.1), (2, .int v1.2)]) hx hb dX6_all_25 rfl jl (by decide) rfl (fun ls jl => ?_)
        refine lv_iload_n hx hb dX6_all_26 rfl (lv_at jl 2 rfl) ?_
        refine lv_iload_n hx hb dX6_all_27 rfl (lv_at jl 0 rfl) ?_
        obtain ⟨t10, hvt10, hv1⟩ := bd_some hv1
        have hJt10 : ∀ (H : Heap) (locs : List Loc) (ls : Array Slot), va_P D vwCl (mW cI uM aM M_x1 M_x2 M_x3 M_x4 M_x5 M_x6 M_x7 M_x8 M_x12 M_x14 M_x17 M_x18 M_x19 M_x20 M_x23 M_x27 M_x29 M_x33 M_g24 M_g25 M_g26 M_g28 M_r0 M_r9 M_r10 M_r11 M_r13 M_r15 M_r16 M_r21 M_r22 M_r30 M_r31 M_r32) H → va_D A (mW cI uM aM M_x1 M_x2 M_x3 M_x4 M_x5 M_x6 M_x7 M_x8 M_x12 M_x14 M_x17 M_x18 M_x19 M_x20 M_x23 M_x27 M_x29 M_x33 M_g24 M_g25 M_g26 M_g28 M_r0 M_r9 M_r10 M_r11 M_r13 M_r15 M_r16 M_r21 M_r22 M_r30 M_r31 M_r32) → va_S A s.heap H locs → lv_has ls 4 [(0, .ref uM), (2, .int v1.2)] → W p l e R s m ar below meth c H locs 0 0 QQ (F0 m 47 ls [.int t10, .int v1.1]) := by
          clear jP jD jS jl
          intro H locs ls jP jD jS jl
          refine lv_iadd hx hb dX6_all_47 ?_
          refine lv_istore_n (lv' := [(1, .int (v1.1 + t10)), (0, .ref uM), (2, .int v1.2)]) hx hb dX6_all_48 rfl jl (by decide) rfl (fun ls jl => ?_)
          refine lv_iinc (v := (v1.2 + (1 : Int32))) (lv' := [(2, .int (v1.2 + (1 : Int32))), (1, .int (v1.1 + t10)), (0, .ref uM)]) hx hb dX6_all_49 jl (k := 2) rfl rfl (by decide) rfl (fun ls jl => ?_)
          refine lv_goto (tgt := 4) hx hb dX6_all_52 (by decide) ?_
          obtain rfl := Option.some.inj hv1
          exact ih _ (nxt_l hq1) _ _ _ jP jD jS (lv_sub jl [2, 1, 0] rfl)
        clear hv1
        refine lv_if_le (tgt := 46) hx hb dX6_all_28 (by decide) (fun c7 => ?_) (fun c7 => ?_)
        · have hvt10 := itp c7 hvt10
          refine lv_iconst (v := (0 : Int32)) hx hb dX6_all_46 (by decide) ?_
          obtain rfl := Option.some.inj hvt10
          exact hJt10 _ _ _ jP jD jS (lv_sub jl [1, 3] rfl)
        · have hvt10 := itn c7 hvt10
          refine lv_sipush (v := (800 : Int32)) hx hb dX6_all_31 (by decide) ?_
          refine lv_aload_n hx hb dX6_all_34 rfl (lv_at jl 1 rfl) ?_
          refine lv_iload_n hx hb dX6_all_35 rfl (lv_at jl 3 rfl) ?_
          refine lv_iconst (v := (0 : Int32)) hx hb dX6_all_36 (by decide) ?_
          obtain ⟨t8, hc9, hvt10⟩ := bd_some hvt10
          refine callW (w1 := (mW cI uM aM M_x1 M_x2 M_x3 M_x4 M_x5 M_x6 M_x7 M_x8 M_x12 M_x14 M_x17 M_x18 M_x19 M_x20 M_x23 M_x27 M_x29 M_x33 M_g24 M_g25 M_g26 M_g28 M_r0 M_r9 M_r10 M_r11 M_r13 M_r15 M_r16 M_r21 M_r22 M_r30 M_r31 M_r32)) (As := [.int v1.2, .int (0 : Int32)]) (rest := [.int (800 : Int32), .int v1.1]) (st1 := [.int t8, .int (800 : Int32), .int v1.1]) 0 F (kX6_its l D cI cB cS uM aM M_x1 M_x2 M_x3 M_x4 M_x5 M_x6 M_x7 M_x8 M_x12 M_x14 M_x17 M_x18 M_x19 M_x20 M_x23 M_x27 M_x29 M_x33 M_g24 M_g25 M_g26 M_g28 M_r0 M_r9 M_r10 M_r11 M_r13 M_r15 M_r16 M_r21 M_r22 M_r30 M_r31 M_r32 v1.2 (0 : Int32) _ hc9 ) okX6_its w_320 (by decide) (by decide) ⟨Nat.zero_le _, Nat.zero_le _⟩ rfl rfl rfl jP jD jS rfl jl.1 rfl rfl (Nat.le_of_ble_eq_true rfl) dX6_all_37 (fun H locs jP jD jS => ?_)
          refine lv_imul hx hb dX6_all_40 ?_
          refine lv_iload_n hx hb dX6_all_41 rfl (lv_at jl 0 rfl) ?_
          refine lv_imul hx hb dX6_all_42 ?_
          refine lv_goto (tgt := 47) hx hb dX6_all_43 (by decide) ?_
          obtain rfl := Option.some.inj hvt10
          exact hJt10 _ _ _ jP jD jS (lv_sub jl [1, 3] rfl)
  exact hL1 1000 _ hT1 _ _ _ jP jD jS (lv_sub jl [2, 1, 0] rfl)
