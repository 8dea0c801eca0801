theorem okX6_part : okV yX6_part cX6_part 6 (some .int) 2 := ⟨w_589, w_590, w_591, w_5, by decide, by decide, by decide +kernel⟩
def fX6_part_b29 (l1 : Int32) (l2 : Int32) (M_x12 : Int32) (M_r11 : (Nat → Int32)) (v1 : (Int32 × Int32)) : Option ((Int32 × Int32) ⊕ Int32) :=
  if M_x12 ≤ v1.2 then (some (.inr v1.1)) else (bd (fX6_its (M_r11) v1.2 (3 : Int32)) (fun t1 => bd (if l1 < t1 then (some (0 : Int32)) else (some ((1 : Int32) <<< (v1.2 &&& 31)))) (fun t2 => some (.inl ((v1.1 ||| t2), (v1.2 + (1 : Int32)))))))
def fX6_part_b83 (l2 : Int32) (l3 : Int32) (l4 : Int32) (M_r11 : (Nat → Int32)) (M_r15 : (Nat → Int32)) (M_x12 : Int32) (M_x18 : Int32) (v1 : (Int32 × Int64 × Int64 × Int64 × (Nat → Int32) × (Nat → Int32) × Int32 × Int32 × Int32)) : Option ((Int32 × Int64 × Int64 × Int64 × (Nat → Int32) × (Nat → Int32) × Int32 × Int32 × Int32) ⊕ ((Int32 × Int64 × Int64 × Int64 × (Nat → Int32) × (Nat → Int32) × Int32 × Int32 × Int32) ⊕ (Int64 × Int64 × Int64 × (Nat → Int32) × (Nat → Int32) × Int32 × Int32 × Int32))) :=
  if (100 : Int32) ≤ v1.1 then (some (.inr (.inr (v1.2.1, v1.2.2.1, v1.2.2.2.1, v1.2.2.2.2.1, v1.2.2.2.2.2.1, v1.2.2.2.2.2.2.1, v1.2.2.2.2.2.2.2.1, v1.2.2.2.2.2.2.2.2)))) else (bd (fX6_doesRest (M_r11) (M_r15) v1.2.2.2.2.1 v1.2.2.2.2.2.1 (M_x12) (M_x18) (1 : Int32) (l4) v1.1) (fun t1 => if t1.1 = (0 : Int32) then (some (.inl ((v1.1 + (1 : Int32)), t1.2.1, t1.2.2.1, t1.2.2.2.1, t1.2.2.2.2.1, t1.2.2.2.2.2.1, t1.2.2.2.2.2.2.1, t1.2.2.2.2.2.2.2.1, t1.2.2.2.2.2.2.2.2))) else (if t1.2.2.2.2.2.2.1 = l3 then (if l2 = (0 : Int32) then (some (.inr (.inl (l4, t1.2.1, t1.2.2.1, t1.2.2.2.1, t1.2.2.2.2.1, t1.2.2.2.2.2.1, t1.2.2.2.2.2.2.1, t1.2.2.2.2.2.2.2.1, t1.2.2.2.2.2.2.2.2)))) else (some (.inr (.inl (v1.1, t1.2.1, t1.2.2.1, t1.2.2.2.1, t1.2.2.2.2.1, t1.2.2.2.2.2.1, t1.2.2.2.2.2.2.1, t1.2.2.2.2.2.2.2.1, t1.2.2.2.2.2.2.2.2))))) else (some (.inl ((v1.1 + (1 : Int32)), t1.2.1, t1.2.2.1, t1.2.2.2.1, t1.2.2.2.2.1, t1.2.2.2.2.2.1, t1.2.2.2.2.2.2.1, t1.2.2.2.2.2.2.2.1, t1.2.2.2.2.2.2.2.2))))))
def fX6_part_b69 (l2 : Int32) (l3 : Int32) (M_r11 : (Nat → Int32)) (M_r15 : (Nat → Int32)) (M_x12 : Int32) (M_x18 : Int32) (v1 : (Int32 × Int64 × Int64 × Int64 × (Nat → Int32) × (Nat → Int32) × Int32 × Int32 × Int32)) : Option ((Int32 × Int64 × Int64 × Int64 × (Nat → Int32) × (Nat → Int32) × Int32 × Int32 × Int32) ⊕ ((Int32 × Int64 × Int64 × Int64 × (Nat → Int32) × (Nat → Int32) × Int32 × Int32 × Int32) ⊕ (Int64 × Int64 × Int64 × (Nat → Int32) × (Nat → Int32) × Int32 × Int32 × Int32))) :=
  if (100 : Int32) ≤ v1.1 then (some (.inr (.inr (v1.2.1, v1.2.2.1, v1.2.2.2.1, v1.2.2.2.2.1, v1.2.2.2.2.2.1, v1.2.2.2.2.2.2.1, v1.2.2.2.2.2.2.2.1, v1.2.2.2.2.2.2.2.2)))) else (if l3 = (0 : Int32) then (some (.inr (.inr (v1.2.1, v1.2.2.1, v1.2.2.2.1, v1.2.2.2.2.1, v1.2.2.2.2.2.1, v1.2.2.2.2.2.2.1, v1.2.2.2.2.2.2.2.1, v1.2.2.2.2.2.2.2.2)))) else (bd (loopF (fX6_part_b83 l2 l3 v1.1 M_r11 M_r15 M_x12 M_x18) 1000 ((0 : Int32), v1.2.1, v1.2.2.1, v1.2.2.2.1, v1.2.2.2.2.1, v1.2.2.2.2.2.1, v1.2.2.2.2.2.2.1, v1.2.2.2.2.2.2.2.1, v1.2.2.2.2.2.2.2.2)) (fun T1 => sm T1 (fun z => some (.inr (.inl z))) (fun e1 => some (.inl ((v1.1 + (1 : Int32)), e1.1, e1.2.1, e1.2.2.1, e1.2.2.2.1, e1.2.2.2.2.1, e1.2.2.2.2.2.1, e1.2.2.2.2.2.2.1, e1.2.2.2.2.2.2.2))))))
def fX6_part (M_g24 : Int64) (M_g25 : Int64) (M_g26 : Int64) (M_r11 : (Nat → Int32)) (M_r15 : (Nat → Int32)) (M_r21 : (Nat → Int32)) (M_r22 : (Nat → Int32)) (M_x12 : Int32) (M_x18 : Int32) (M_x19 : Int32) (M_x20 : Int32) (M_x23 : Int32) (a1 : Int32) (a2 : Int32) : Option (Int32 × Int64 × Int64 × Int64 × (Nat → Int32) × (Nat → Int32) × Int32 × Int32 × Int32) :=
  bd (fX6_in a1.toInt64 (0 : Int64) (9 : Int64)) (fun t1 => if t1 = (0 : Int32) then (some ((-1 : Int32), M_g24, M_g25, M_g26, M_r21, M_r22, M_x19, M_x20, M_x23)) else (bd (fX6_in a2.toInt64 (0 : Int64) (1 : Int64)) (fun t4 => if t4 = (0 : Int32) then (some ((-1 : Int32), M_g24, M_g25, M_g26, M_r21, M_r22, M_x19, M_x20, M_x23)) else (bd (loopF (fX6_part_b29 a1 a2 M_x12 M_r11) 1000 ((0 : Int32), (0 : Int32))) (fun T7 => bd (loopF (fX6_part_b69 a2 T7 M_r11 M_r15 M_x12 M_x18) 1000 ((0 : Int32), M_g24, M_g25, M_g26, M_r21, M_r22, M_x19, M_x20, M_x23)) (fun T13 => sm T13 (fun z => some z) (fun e13 => some ((-4 : Int32), e13.1, e13.2.1, e13.2.2.1, e13.2.2.2.1, e13.2.2.2.2.1, e13.2.2.2.2.2.1, e13.2.2.2.2.2.2.1, e13.2.2.2.2.2.2.2))))))))
set_option maxRecDepth 100000 in
set_option maxHeartbeats 4000000 in
theorem kX6_part (l : Launch) (D : va_G) (cI cB cS : ClassId) (uM : Nat) (aM : Nat → Nat) (M_x1 : Int32) (M_x2 : Int32) (M_x3 : Int32) (M_x4 : Int32) (M_x5 : Int32) (M_x6 : Int32) (M_x7 : Int32) (M_x8 : Int32) (M_x12 : Int32) (M_x14 : Int32) (M_x17 : Int32) (M_x18 : Int32) (M_x19 : Int32) (M_x20 : Int32) (M_x23 : Int32) (M_x27 : Int32) (M_x29 : Int32) (M_x33 : Int32) (M_g24 : Int64) (M_g25 : Int64) (M_g26 : Int64) (M_g28 : Int64) (M_r0 : (Nat → Int32)) (M_r9 : (Nat → Int32)) (M_r10 : (Nat → Int32)) (M_r11 : (Nat → Int32)) (M_r13 : (Nat → Int32)) (M_r15 : (Nat → Int32)) (M_r16 : (Nat → Int32)) (M_r21 : (Nat → Int32)) (M_r22 : (Nat → Int32)) (M_r30 : (Nat → Int32)) (M_r31 : (Nat → Int32)) (M_r32 : (Nat → Int32)) (a1 : Int32) (a2 : Int32) (z : (Int32 × Int64 × Int64 × Int64 × (Nat → Int32) × (Nat → Int32) × Int32 × Int32 × Int32)) (h : fX6_part M_g24 M_g25 M_g26 M_r11 M_r15 M_r21 M_r22 M_x12 M_x18 M_x19 M_x20 M_x23 a1 a2 = some z) : Mt l yX6_part cX6_part 6 (some .int) 5 115 D cI cB cS (mW cI uM aM M_x1 M_x2 M_x3 M_x4 M_x5 M_x6 M_x7 M_x8 M_x12 M_x14 M_x17 M_x18 M_x19 M_x20 M_x23 M_x27 M_x29 M_x33 M_g24 M_g25 M_g26 M_g28 M_r0 M_r9 M_r10 M_r11 M_r13 M_r15 M_r16 M_r21 M_r22 M_r30 M_r31 M_r32) (mW cI uM aM M_x1 M_x2 M_x3 M_x4 M_x5 M_x6 M_x7 M_x8 M_x12 M_x14 M_x17 M_x18 z.2.2.2.2.2.2.1 z.2.2.2.2.2.2.2.1 z.2.2.2.2.2.2.2.2 M_x27 M_x29 M_x33 z.2.1 z.2.2.1 z.2.2.2.1 M_g28 M_r0 M_r9 M_r10 M_r11 M_r13 M_r15 M_r16 z.2.2.2.2.1 z.2.2.2.2.2.1 M_r30 M_r31 M_r32) [.ref uM, .int a1, .int a2] (some (.int z.1)) := by
  refine entryI (by decide +kernel) rfl (Nat.le_of_ble_eq_true rfl) ?_
  intro p e s m below meth c A ls QQ R ar F hRet jP jD jS jl
  obtain ⟨hx, hb, hml, hown, hts, jK, hA, hf1, hf2⟩ := id F
  have jl : lv_has ls 6 [(0, .ref uM), (1, .int a1), (2, .int a2)] := jl
  unfold fX6_part at h
  refine lv_iload_n hx hb dX6_part_0 rfl (lv_at jl 1 rfl) ?_
  refine lv_i2l (v := a1.toInt64) hx hb dX6_part_1 rfl ?_
  refine lv_lconst (v := (0 : Int64)) hx hb dX6_part_2 (by decide) ?_
  refine lv_ldc2 (v := (9 : Int64)) hx hb hown (hts _ w_592) dX6_part_3 ?_
  obtain ⟨t1, hc2, h⟩ := bd_some h
  refine call0 (As := [.long a1.toInt64, .long (0 : Int64), .long (9 : Int64)]) (rest := []) (st1 := [.int t1]) F (kX6_in l D cI cB cS  a1.toInt64 (0 : Int64) (9 : Int64) _ hc2 ) okX6_in w_112 (by decide) (by decide) ⟨Nat.zero_le _, Nat.zero_le _⟩ jP jD jS rfl jl.1 rfl rfl (Nat.le_of_ble_eq_true rfl) dX6_part_6 (fun H locs jP jD jS => ?_)
  refine lv_if_eq (tgt := 22) hx hb dX6_part_9 (by decide) (fun c3 => ?_) (fun c3 => ?_)
  · have h := itp c3 h
    refine lv_iconst (v := (-1 : Int32)) hx hb dX6_part_22 (by decide) ?_
    obtain rfl := Option.some.inj h
    exact hRet _ _ _ _ jP jD jS dX6_part_23
  · have h := itn c3 h
    refine lv_iload_n hx hb dX6_part_12 rfl (lv_at jl 2 rfl) ?_
    refine lv_i2l (v := a2.toInt64) hx hb dX6_part_13 rfl ?_
    refine lv_lconst (v := (0 : Int64)) hx hb dX6_part_14 (by decide) ?_
    refine lv_lconst (v := (1 : Int64)) hx hb dX6_part_15 (by decide) ?_
    obtain ⟨t4, hc5, h⟩ := bd_some h
    refine call0 (As := [.long a2.toInt64, .long (0 : Int64), .long (1 : Int64)]) (rest := []) (st1 := [.int t4]) F (kX6_in l D cI cB cS  a2.toInt64 (0 : Int64) (1 : Int64) _ hc5 ) okX6_in w_112 (by decide) (by decide) ⟨Nat.zero_le _, Nat.zero_le _⟩ jP jD jS rfl jl.1 rfl rfl (Nat.le_of_ble_eq_true rfl) dX6_part_16 (fun H locs jP jD jS => ?_)
    refine lv_if_ne (tgt := 24) hx hb dX6_part_19 (by decide) (fun c6 => ?_) (fun c6 => ?_)
    · have h := itn c6 h
      refine lv_iconst (v := (0 : Int32)) hx hb dX6_part_24 (by decide) ?_
      refine lv_istore_n (lv' := [(3, .int (0 : Int32)), (0, .ref uM), (1, .int a1), (2, .int a2)]) hx hb dX6_part_25 rfl jl (by decide) rfl (fun ls jl => ?_)
      refine lv_iconst (v := (0 : Int32)) hx hb dX6_part_26 (by decide) ?_
      refine lv_istore (lv' := [(4, .int (0 : Int32)), (3, .int (0 : Int32)), (0, .ref uM), (1, .int a1), (2, .int a2)]) hx hb dX6_part_27 jl (by decide) rfl (fun ls jl => ?_)
      obtain ⟨T7, hT7, hz7⟩ := bd_some h
      clear h
      have hE7 : ∀ (H : Heap) (locs : List Loc) (ls : Array Slot), va_P D vwCl (mW cI uM aM M_x1 M_x2 M_x3 M_x4 M_x5 M_x6 M_x7 M_x8 M_x12 M_x14 M_x17 M_x18 M_x19 M_x20 M_x23 M_x27 M_x29 M_x33 M_g24 M_g25 M_g26 M_g28 M_r0 M_r9 M_r10 M_r11 M_r13 M_r15 M_r16 M_r21 M_r22 M_r30 M_r31 M_r32) H → va_D A (mW cI uM aM M_x1 M_x2 M_x3 M_x4 M_x5 M_x6 M_x7 M_x8 M_x12 M_x14 M_x17 M_x18 M_x19 M_x20 M_x23 M_x27 M_x29 M_x33 M_g24 M_g25 M_g26 M_g28 M_r0 M_r9 M_r10 M_r11 M_r13 M_r15 M_r16 M_r21 M_r22 M_r30 M_r31 M_r32) → va_S A s.heap H locs → lv_has ls 6 [(0, .ref uM), (2, .int a2), (3, .int T7)] → W p l e R s m ar below meth c H locs 0 0 QQ (F0 m 66 ls []) := by
        clear jP jD jS jl
        intro H locs ls jP jD jS jl
        refine lv_iconst (v := (0 : Int32)) hx hb dX6_part_66 (by decide) ?_
        refine lv_istore (lv' := [(4, .int (0 : Int32)), (0, .ref uM), (2, .int a2), (3, .int T7)]) hx hb dX6_part_67 jl (by decide) rfl (fun ls jl => ?_)
        obtain ⟨T13, hT13, hz13⟩ := bd_some hz7
        clear hz7
        have hE13 : ∀ (e13 : (Int64 × Int64 × Int64 × (Nat → Int32) × (Nat → Int32) × Int32 × Int32 × Int32)), T13 = .inr e13 → ∀ (H : Heap) (locs : List Loc) (ls : Array Slot), va_P D vwCl (mW cI uM aM M_x1 M_x2 M_x3 M_x4 M_x5 M_x6 M_x7 M_x8 M_x12 M_x14 M_x17 M_x18 e13.2.2.2.2.2.1 e13.2.2.2.2.2.2.1 e13.2.2.2.2.2.2.2 M_x27 M_x29 M_x33 e13.1 e13.2.1 e13.2.2.1 M_g28 M_r0 M_r9 M_r10 M_r11 M_r13 M_r15 M_r16 e13.2.2.2.1 e13.2.2.2.2.1 M_r30 M_r31 M_r32) H → va_D A (mW cI uM aM M_x1 M_x2 M_x3 M_x4 M_x5 M_x6 M_x7 M_x8 M_x12 M_x14 M_x17 M_x18 e13.2.2.2.2.2.1 e13.2.2.2.2.2.2.1 e13.2.2.2.2.2.2.2 M_x27 M_x29 M_x33 e13.1 e13.2.1 e13.2.2.1 M_g28 M_r0 M_r9 M_r10 M_r11 M_r13 M_r15 M_r16 e13.2.2.2.1 e13.2.2.2.2.1 M_r30 M_r31 M_r32) → va_S A s.heap H locs → lv_has ls 6 [] → W p l e R s m ar below meth c H locs 0 0 QQ (F0 m 134 ls []) := by
          intro e13 ho
          subst ho
          have hz13 := sm_r hz13
          clear jP jD jS jl
          intro H locs ls jP jD jS jl
          refine lv_bipush (v := (-4 : Int32)) hx hb dX6_part_134 (by decide) ?_
          obtain rfl := Option.some.inj hz13
          exact hRet _ _ _ _ jP jD jS dX6_part_136
        have hL13 : ∀ (n : Nat) (v13 : (Int32 × Int64 × Int64 × Int64 × (Nat → Int32) × (Nat → Int32) × Int32 × Int32 × Int32)), loopF (fX6_part_b69 a2 T7 M_r11 M_r15 M_x12 M_x18) n v13 = some T13 → ∀ (H : Heap) (locs : List Loc) (ls : Array Slot), va_P D vwCl (mW cI uM aM M_x1 M_x2 M_x3 M_x4 M_x5 M_x6 M_x7 M_x8 M_x12 M_x14 M_x17 M_x18 v13.2.2.2.2.2.2.1 v13.2.2.2.2.2.2.2.1 v13.2.2.2.2.2.2.2.2 M_x27 M_x29 M_x33 v13.2.1 v13.2.2.1 v13.2.2.2.1 M_g28 M_r0 M_r9 M_r10 M_r11 M_r13 M_r15 M_r16 v13.2.2.2.2.1 v13.2.2.2.2.2.1 M_r30 M_r31 M_r32) H → va_D A (mW cI uM aM M_x1 M_x2 M_x3 M_x4 M_x5 M_x6 M_x7 M_x8 M_x12 M_x14 M_x17 M_x18 v13.2.2.2.2.2.2.1 v13.2.2.2.2.2.2.2.1 v13.2.2.2.2.2.2.2.2 M_x27 M_x29 M_x33 v13.2.1 v13.2.2.1 v13.2.2.2.1 M_g28 M_r0 M_r9 M_r10 M_r11 M_r13 M_r15 M_r16 v13.2.2.2.2.1 v13.2.2.2.2.2.1 M_r30 M_r31 M_r32) → va_S A s.heap H locs → lv_has ls 6 [(0, .ref uM), (2, .int a2), (3, .int T7), (4, .int v13.1)] → W p l e R s m ar below meth c H locs 0 0 QQ (F0 m 69 ls []) := by
          clear jP jD jS jl hT13
          intro n
          induction n with
          | zero => intro v13 hq; exact (loop_none hq).elim
          | succ n ih =>
            intro v13 hq H locs ls jP jD jS jl
            obtain ⟨o13, hv13, hq13⟩ := loop_some hq
            clear hq
            unfold fX6_part_b69 at hv13
            refine lv_iload hx hb dX6_part_69 (lv_at jl 3 rfl) ?_
            refine lv_bipush (v := (100 : Int32)) hx hb dX6_part_71 (by decide) ?_
            refine lv_icmp_ge (tgt := 134) hx hb dX6_part_73 (by decide) (fun c14 => ?_) (fun c14 => ?_)
            · have hv13 := itp c14 hv13
              obtain rfl := Option.some.inj hv13
              obtain rfl := nxt_r hq13
              exact hE13 _ rfl _ _ _ jP jD jS (lv_sub jl [] rfl)
            · have hv13 := itn c14 hv13
              refine lv_iload_n hx hb dX6_part_76 rfl (lv_at jl 2 rfl) ?_
              refine lv_if_eq (tgt := 134) hx hb dX6_part_77 (by decide) (fun c15 => ?_) (fun c15 => ?_)
              · have hv13 := itp c15 hv13
                obtain rfl := Option.some.inj hv13
                obtain rfl := nxt_r hq13
                exact hE13 _ rfl _ _ _ jP jD jS (lv_sub jl [] rfl)
              · have hv13 := itn c15 hv13
                refine lv_iconst (v := (0 : Int32)) hx hb dX6_part_80 (by decide) ?_
                refine lv_istore (lv' := [(5, .int (0 : Int32)), (0, .ref uM), (2, .int a2), (3, .int T7), (4, .int v13.1)]) hx hb dX6_part_81 jl (by decide) rfl (fun ls jl => ?_)
                obtain ⟨T16, hT16, hz16⟩ := bd_some hv13
                clear hv13
                have hE16 : ∀ (e16 : (Int64 × Int64 × Int64 × (Nat → Int32) × (Nat → Int32) × Int32 × Int32 × Int32)), T16 = .inr e16 → ∀ (H : Heap) (locs : List Loc) (ls : Array Slot), va_P D vwCl (mW cI uM aM M_x1 M_x2 M_x3 M_x4 M_x5 M_x6 M_x7 M_x8 M_x12 M_x14 M_x17 M_x18 e16.2.2.2.2.2.1 e16.2.2.2.2.2.2.1 e16.2.2.2.2.2.2.2 M_x27 M_x29 M_x33 e16.1 e16.2.1 e16.2.2.1 M_g28 M_r0 M_r9 M_r10 M_r11 M_r13 M_r15 M_r16 e16.2.2.2.1 e16.2.2.2.2.1 M_r30 M_r31 M_r32) H → va_D A (mW cI uM aM M_x1 M_x2 M_x3 M_x4 M_x5 M_x6 M_x7 M_x8 M_x12 M_x14 M_x17 M_x18 e16.2.2.2.2.2.1 e16.2.2.2.2.2.2.1 e16.2.2.2.2.2.2.2 M_x27 M_x29 M_x33 e16.1 e16.2.1 e16.2.2.1 M_g28 M_r0 M_r9 M_r10 M_r11 M_r13 M_r15 M_r16 e16.2.2.2.1 e16.2.2.2.2.1 M_r30 M_r31 M_r32) → va_S A s.heap H locs → lv_has ls 6 [(0, .ref uM), (2, .int a2), (3, .int T7), (4, .int v13.1)] → W p l e R s m ar below meth c H locs 0 0 QQ (F0 m 128 ls []) := by
                  intro e16 ho
                  subst ho
                  have hz16 := sm_r hz16
                  clear jP jD jS jl
                  intro H locs ls jP jD jS jl
                  refine lv_iinc (v := (v13.1 + (1 : Int32))) (lv' := [(4, .int (v13.1 + (1 : Int32))), (0, .ref uM), (2, .int a2), (3, .int T7)]) hx hb dX6_part_128 jl (k := 3) rfl rfl (by decide) rfl (fun ls jl => ?_)
                  refine lv_goto (tgt := 69) hx hb dX6_part_131 (by decide) ?_
                  obtain rfl := Option.some.inj hz16
                  exact ih _ (nxt_l hq13) _ _ _ jP jD jS (lv_sub jl [1, 2, 3, 0] rfl)
                have hL16 : ∀ (n : Nat) (v16 : (Int32 × Int64 × Int64 × Int64 × (Nat → Int32) × (Nat → Int32) × Int32 × Int32 × Int32)), loopF (fX6_part_b83 a2 T7 v13.1 M_r11 M_r15 M_x12 M_x18) n v16 = some T16 → ∀ (H : Heap) (locs : List Loc) (ls : Array Slot), va_P D vwCl (mW cI uM aM M_x1 M_x2 M_x3 M_x4 M_x5 M_x6 M_x7 M_x8 M_x12 M_x14 M_x17 M_x18 v16.2.2.2.2.2.2.1 v16.2.2.2.2.2.2.2.1 v16.2.2.2.2.2.2.2.2 M_x27 M_x29 M_x33 v16.2.1 v16.2.2.1 v16.2.2.2.1 M_g28 M_r0 M_r9 M_r10 M_r11 M_r13 M_r15 M_r16 v16.2.2.2.2.1 v16.2.2.2.2.2.1 M_r30 M_r31 M_r32) H → va_D A (mW cI uM aM M_x1 M_x2 M_x3 M_x4 M_x5 M_x6 M_x7 M_x8 M_x12 M_x14 M_x17 M_x18 v16.2.2.2.2.2.2.1 v16.2.2.2.2.2.2.2.1 v16.2.2.2.2.2.2.2.2 M_x27 M_x29 M_x33 v16.2.1 v16.2.2.1 v16.2.2.2.1 M_g28 M_r0 M_r9 M_r10 M_r11 M_r13 M_r15 M_r16 v16.2.2.2.2.1 v16.2.2.2.2.2.1 M_r30 M_r31 M_r32) → va_S A s.heap H locs → lv_has ls 6 [(0, .ref uM), (2, .int a2), (3, .int T7), (4, .int v13.1), (5, .int v16.1)] → W p l e R s m ar below meth c H locs 0 0 QQ (F0 m 83 ls []) := by
                  clear jP jD jS jl hT16
                  intro n
                  induction n with
                  | zero => intro v16 hq; exact (loop_none hq).elim
                  | succ n ih =>
                    intro v16 hq H locs ls jP jD jS jl
                    obtain ⟨o16, hv16, hq16⟩ := loop_some hq
                    clear hq
                    unfold fX6_part_b83 at hv16
                    refine lv_iload hx hb dX6_part_83 (lv_at jl 4 rfl) ?_
                    refine lv_bipush (v := (100 : Int32)) hx hb dX6_part_85 (by decide) ?_
                    refine lv_icmp_ge (tgt := 128) hx hb dX6_part_87 (by decide) (fun c17 => ?_) (fun c17 => ?_)
                    · have hv16 := itp c17 hv16
                      obtain rfl := Option.some.inj hv16
                      obtain rfl := nxt_r hq16
                      exact hE16 _ rfl _ _ _ jP jD jS (lv_sub jl [0, 1, 2, 3] rfl)
                    · have hv16 := itn c17 hv16
                      refine lv_aload_n hx hb dX6_part_90 rfl (lv_at jl 0 rfl) ?_
                      refine lv_iconst (v := (1 : Int32)) hx hb dX6_part_91 (by decide) ?_
                      refine lv_iload hx hb dX6_part_92 (lv_at jl 3 rfl) ?_
                      refine lv_iload hx hb dX6_part_94 (lv_at jl 4 rfl) ?_
                      obtain ⟨t18, hc19, hv16⟩ := bd_some hv16
                      refine callW (w1 := (mW cI uM aM M_x1 M_x2 M_x3 M_x4 M_x5 M_x6 M_x7 M_x8 M_x12 M_x14 M_x17 M_x18 t18.2.2.2.2.2.2.1 t18.2.2.2.2.2.2.2.1 t18.2.2.2.2.2.2.2.2 M_x27 M_x29 M_x33 t18.2.1 t18.2.2.1 t18.2.2.2.1 M_g28 M_r0 M_r9 M_r10 M_r11 M_r13 M_r15 M_r16 t18.2.2.2.2.1 t18.2.2.2.2.2.1 M_r30 M_r31 M_r32)) (As := [.int (1 : Int32), .int v13.1, .int v16.1]) (rest := []) (st1 := [.int t18.1]) 0 F (kX6_doesRest l D cI cB cS uM aM M_x1 M_x2 M_x3 M_x4 M_x5 M_x6 M_x7 M_x8 M_x12 M_x14 M_x17 M_x18 v16.2.2.2.2.2.2.1 v16.2.2.2.2.2.2.2.1 v16.2.2.2.2.2.2.2.2 M_x27 M_x29 M_x33 v16.2.1 v16.2.2.1 v16.2.2.2.1 M_g28 M_r0 M_r9 M_r10 M_r11 M_r13 M_r15 M_r16 v16.2.2.2.2.1 v16.2.2.2.2.2.1 M_r30 M_r31 M_r32 (1 : Int32) v13.1 v16.1 _ hc19 ) okX6_doesRest w_500 (by decide) (by decide) ⟨Nat.zero_le _, Nat.zero_le _⟩ rfl rfl rfl jP jD jS rfl jl.1 rfl rfl (Nat.le_of_ble_eq_true rfl) dX6_part_96 (fun H locs jP jD jS => ?_)
                      refine lv_if_eq (tgt := 122) hx hb dX6_part_99 (by decide) (fun c20 => ?_) (fun c20 => ?_)
                      · have hv16 := itp c20 hv16
                        refine lv_iinc (v := (v16.1 + (1 : Int32))) (lv' := [(5, .int (v16.1 + (1 : Int32))), (0, .ref uM), (2, .int a2), (3, .int T7), (4, .int v13.1)]) hx hb dX6_part_122 jl (k := 4) rfl rfl (by decide) rfl (fun ls jl => ?_)
                        refine lv_goto (tgt := 83) hx hb dX6_part_125 (by decide) ?_
                        obtain rfl := Option.some.inj hv16
                        exact ih _ (nxt_l hq16) _ _ _ jP jD jS (lv_sub jl [1, 2, 3, 4, 0] rfl)
                      · have hv16 := itn c20 hv16
                        refine lv_aload_n hx hb dX6_part_102 rfl (lv_at jl 0 rfl) ?_
                        refine va_get (D := D) (ci := 6) (v := .int t18.2.2.2.2.2.2.1) (C := RX6) (T := TX6) (N := 34) hx hb hts in6 hown jK.1 jP 0 rfl rfl 19 (by decide) (hts _ w_414) (fun _ h9 => h9) rfl dX6_part_103 ?_
                        refine lv_iload_n hx hb dX6_part_106 rfl (lv_at jl 2 rfl) ?_
                        refine lv_icmp_ne (tgt := 122) hx hb dX6_part_107 (by decide) (fun c21 => ?_) (fun c21 => ?_)
                        · have hv16 := itn c21 hv16
                          refine lv_iinc (v := (v16.1 + (1 : Int32))) (lv' := [(5, .int (v16.1 + (1 : Int32))), (0, .ref uM), (2, .int a2), (3, .int T7), (4, .int v13.1)]) hx hb dX6_part_122 jl (k := 4) rfl rfl (by decide) rfl (fun ls jl => ?_)
                          refine lv_goto (tgt := 83) hx hb dX6_part_125 (by decide) ?_
                          obtain rfl := Option.some.inj hv16
                          exact ih _ (nxt_l hq16) _ _ _ jP jD jS (lv_sub jl [1, 2, 3, 4, 0] rfl)
                        · have hv16 := itp c21 hv16
                          refine lv_iload_n hx hb dX6_part_110 rfl (lv_at jl 1 rfl) ?_
                          refine lv_if_ne (tgt := 119) hx hb dX6_part_111 (by decide) (fun c22 => ?_) (fun c22 => ?_)
                          · have hv16 := itn c22 hv16
                            refine lv_iload hx hb dX6_part_119 (lv_at jl 4 rfl) ?_
                            obtain rfl := Option.some.inj hv16
                            obtain rfl := nxt_r hq16
                            have hz16 := sm_l hz16
                            obtain rfl := Option.some.inj hz16
                            obtain rfl := nxt_r hq13
                            have hz13 := sm_l hz13
                            obtain rfl := Option.some.inj hz13
                            exact hRet _ _ _ _ jP jD jS dX6_part_121
                          · have hv16 := itp c22 hv16
                            refine lv_iload hx hb dX6_part_114 (lv_at jl 3 rfl) ?_
                            refine lv_goto (tgt := 121) hx hb dX6_part_116 (by decide) ?_
                            obtain rfl := Option.some.inj hv16
                            obtain rfl := nxt_r hq16
                            have hz16 := sm_l hz16
                            obtain rfl := Option.some.inj hz16
                            obtain rfl := nxt_r hq13
                            have hz13 := sm_l hz13
                            obtain rfl := Option.some.inj hz13
                            exact hRet _ _ _ _ jP jD jS dX6_part_121
                exact hL16 1000 _ hT16 _ _ _ jP jD jS (lv_sub jl [1, 2, 3, 4, 0] rfl)
        exact hL13 1000 _ hT13 _ _ _ jP jD jS (lv_sub jl [1, 2, 3, 0] rfl)
      have hL7 : ∀ (n : Nat) (v7 : (Int32 × Int32)), loopF (fX6_part_b29 a1 a2 M_x12 M_r11) n v7 = some T7 → ∀ (H : Heap) (locs : List Loc) (ls : Array Slot), va_P D vwCl (mW cI uM aM M_x1 M_x2 M_x3 M_x4 M_x5 M_x6 M_x7 M_x8 M_x12 M_x14 M_x17 M_x18 M_x19 M_x20 M_x23 M_x27 M_x29 M_x33 M_g24 M_g25 M_g26 M_g28 M_r0 M_r9 M_r10 M_r11 M_r13 M_r15 M_r16 M_r21 M_r22 M_r30 M_r31 M_r32) H → va_D A (mW cI uM aM M_x1 M_x2 M_x3 M_x4 M_x5 M_x6 M_x7 M_x8 M_x12 M_x14 M_x17 M_x18 M_x19 M_x20 M_x23 M_x27 M_x29 M_x33 M_g24 M_g25 M_g26 M_g28 M_r0 M_r9 M_r10 M_r11 M_r13 M_r15 M_r16 M_r21 M_r22 M_r30 M_r31 M_r32) → va_S A s.heap H locs → lv_has ls 6 [(0, .ref uM), (1, .int a1), (2, .int a2), (3, .int v7.1), (4, .int v7.2)] → W p l e R s m ar below meth c H locs 0 0 QQ (F0 m 29 ls []) := by
        clear jP jD jS jl hT7
        intro n
        induction n with
        | zero => intro v7 hq; exact (loop_none hq).elim
        | succ n ih =>
          intro v7 hq H locs ls jP jD jS jl
          obtain ⟨o7, hv7, hq7⟩ := loop_some hq
          clear hq
          unfold fX6_part_b29 at hv7
          refine lv_iload hx hb dX6_part_29 (lv_at jl 4 rfl) ?_
          refine lv_aload_n hx hb dX6_part_31 rfl (lv_at jl 0 rfl) ?_
          refine va_get (D := D) (ci := 6) (v := .int M_x12) (C := RX6) (T := TX6) (N := 34) hx hb hts in6 hown jK.1 jP 0 rfl rfl 12 (by decide) (hts _ w_222) (fun _ h9 => h9) rfl dX6_part_32 ?_
          refine lv_icmp_ge (tgt := 66) hx hb dX6_part_35 (by decide) (fun c8 => ?_) (fun c8 => ?_)
          · have hv7 := itp c8 hv7
            obtain rfl := Option.some.inj hv7
            obtain rfl := nxt_r hq7
            exact hE7 _ _ _ jP jD jS (lv_sub jl [0, 2, 3] rfl)
          · have hv7 := itn c8 hv7
            refine lv_iload_n hx hb dX6_part_38 rfl (lv_at jl 3 rfl) ?_
            refine lv_aload_n hx hb dX6_part_39 rfl (lv_at jl 0 rfl) ?_
            refine lv_iload hx hb dX6_part_40 (lv_at jl 4 rfl) ?_
            refine lv_iconst (v := (3 : Int32)) hx hb dX6_part_42 (by decide) ?_
            obtain ⟨t9, hc10, hv7⟩ := bd_some hv7
            refine callW (w1 := (mW cI uM aM M_x1 M_x2 M_x3 M_x4 M_x5 M_x6 M_x7 M_x8 M_x12 M_x14 M_x17 M_x18 M_x19 M_x20 M_x23 M_x27 M_x29 M_x33 M_g24 M_g25 M_g26 M_g28 M_r0 M_r9 M_r10 M_r11 M_r13 M_r15 M_r16 M_r21 M_r22 M_r30 M_r31 M_r32)) (As := [.int v7.2, .int (3 : Int32)]) (rest := [.int v7.1]) (st1 := [.int t9, .int v7.1]) 0 F (kX6_its l D cI cB cS uM aM M_x1 M_x2 M_x3 M_x4 M_x5 M_x6 M_x7 M_x8 M_x12 M_x14 M_x17 M_x18 M_x19 M_x20 M_x23 M_x27 M_x29 M_x33 M_g24 M_g25 M_g26 M_g28 M_r0 M_r9 M_r10 M_r11 M_r13 M_r15 M_r16 M_r21 M_r22 M_r30 M_r31 M_r32 v7.2 (3 : Int32) _ hc10 ) okX6_its w_320 (by decide) (by decide) ⟨Nat.zero_le _, Nat.zero_le _⟩ rfl rfl rfl jP jD jS rfl jl.1 rfl rfl (Nat.le_of_ble_eq_true rfl) dX6_part_43 (fun H locs jP jD jS => ?_)
            refine lv_iload_n hx hb dX6_part_46 rfl (lv_at jl 1 rfl) ?_
            obtain ⟨t12, hvt12, hv7⟩ := bd_some hv7
            have hJt12 : ∀ (H : Heap) (locs : List Loc) (ls : Array Slot), va_P D vwCl (mW cI uM aM M_x1 M_x2 M_x3 M_x4 M_x5 M_x6 M_x7 M_x8 M_x12 M_x14 M_x17 M_x18 M_x19 M_x20 M_x23 M_x27 M_x29 M_x33 M_g24 M_g25 M_g26 M_g28 M_r0 M_r9 M_r10 M_r11 M_r13 M_r15 M_r16 M_r21 M_r22 M_r30 M_r31 M_r32) H → va_D A (mW cI uM aM M_x1 M_x2 M_x3 M_x4 M_x5 M_x6 M_x7 M_x8 M_x12 M_x14 M_x17 M_x18 M_x19 M_x20 M_x23 M_x27 M_x29 M_x33 M_g24 M_g25 M_g26 M_g28 M_r0 M_r9 M_r10 M_r11 M_r13 M_r15 M_r16 M_r21 M_r22 M_r30 M_r31 M_r32) → va_S A s.heap H locs → lv_has ls 6 [(0, .ref uM), (1, .int a1), (2, .int a2), (4, .int v7.2)] → W p l e R s m ar below meth c H locs 0 0 QQ (F0 m 58 ls [.int t12, .int v7.1]) := by
              clear jP jD jS jl
              intro H locs ls jP jD jS jl
              refine lv_ior hx hb dX6_part_58 ?_
              refine lv_istore_n (lv' := [(3, .int (v7.1 ||| t12)), (0, .ref uM), (1, .int a1), (2, .int a2), (4, .int v7.2)]) hx hb dX6_part_59 rfl jl (by decide) rfl (fun ls jl => ?_)
              refine lv_iinc (v := (v7.2 + (1 : Int32))) (lv' := [(4, .int (v7.2 + (1 : Int32))), (3, .int (v7.1 ||| t12)), (0, .ref uM), (1, .int a1), (2, .int a2)]) hx hb dX6_part_60 jl (k := 4) rfl rfl (by decide) rfl (fun ls jl => ?_)
              refine lv_goto (tgt := 29) hx hb dX6_part_63 (by decide) ?_
              obtain rfl := Option.some.inj hv7
              exact ih _ (nxt_l hq7) _ _ _ jP jD jS (lv_sub jl [2, 3, 4, 1, 0] rfl)
            clear hv7
            refine lv_icmp_gt (tgt := 57) hx hb dX6_part_47 (by decide) (fun c11 => ?_) (fun c11 => ?_)
            · have hvt12 := itp c11 hvt12
              refine lv_iconst (v := (0 : Int32)) hx hb dX6_part_57 (by decide) ?_
              obtain rfl := Option.some.inj hvt12
              exact hJt12 _ _ _ jP jD jS (lv_sub jl [0, 1, 2, 4] rfl)
            · have hvt12 := itn c11 hvt12
              refine lv_iconst (v := (1 : Int32)) hx hb dX6_part_50 (by decide) ?_
              refine lv_iload hx hb dX6_part_51 (lv_at jl 4 rfl) ?_
              refine lv_ishl hx hb dX6_part_53 ?_
              refine lv_goto (tgt := 58) hx hb dX6_part_54 (by decide) ?_
              obtain rfl := Option.some.inj hvt12
              exact hJt12 _ _ _ jP jD jS (lv_sub jl [0, 1, 2, 4] rfl)
      exact hL7 1000 _ hT7 _ _ _ jP jD jS (lv_sub jl [2, 3, 4, 1, 0] rfl)
    · have h := itp c6 h
      refine lv_iconst (v := (-1 : Int32)) hx hb dX6_part_22 (by decide) ?_
      obtain rfl := Option.some.inj h
      exact hRet _ _ _ _ jP jD jS dX6_part_23
theorem okX6_goesOn : okV yX6_goesOn cX6_goesOn 6 (some .boolean) 3 := ⟨w_620, w_621, w_622, w_5, by decide, by decide, by decide +kernel⟩
def fX6_goesOn_b6 (l1 : Int32) (l3 : Int32) (M_r11 : (Nat → Int32)) (M_r15 : (Nat → Int32)) (M_x12 : Int32) (M_x18 : Int32) (v1 : (Int32 × Int32 × Int64 × Int64 × Int64 × (Nat → Int32) × (Nat → Int32) × Int32 × Int32 × Int32)) : Option ((Int32 × Int32 × Int64 × Int64 × Int64 × (Nat → Int32) × (Nat → Int32) × Int32 × Int32 × Int32) ⊕ (Int32 × Int64 × Int64 × Int64 × (Nat → Int32) × (Nat → Int32) × Int32 × Int32 × Int32)) :=
  if (100 : Int32) ≤ v1.2.1 then (some (.inr (v1.1, v1.2.2.1, v1.2.2.2.1, v1.2.2.2.2.1, v1.2.2.2.2.2.1, v1.2.2.2.2.2.2.1, v1.2.2.2.2.2.2.2.1, v1.2.2.2.2.2.2.2.2.1, v1.2.2.2.2.2.2.2.2.2))) else (if l3 = (0 : Int32) then (some (.inr (v1.1, v1.2.2.1, v1.2.2.2.1, v1.2.2.2.2.1, v1.2.2.2.2.2.1, v1.2.2.2.2.2.2.1, v1.2.2.2.2.2.2.2.1, v1.2.2.2.2.2.2.2.2.1, v1.2.2.2.2.2.2.2.2.2))) else (bd (if v1.1 = (0 : Int32) then (bd (fX6_doesRest (M_r11) (M_r15) v1.2.2.2.2.2.1 v1.2.2.2.2.2.2.1 (M_x12) (M_x18) (l1) (0 : Int32) v1.2.1) (fun t1 => if t1.1 = (0 : Int32) then (some ((0 : Int32), t1.2.1, t1.2.2.1, t1.2.2.2.1, t1.2.2.2.2.1, t1.2.2.2.2.2.1, t1.2.2.2.2.2.2.1, t1.2.2.2.2.2.2.2.1, t1.2.2.2.2.2.2.2.2)) else (if (l3 &&& (t1.2.2.2.2.2.2.1 ^^^ (-1 : Int32))) = (0 : Int32) then (some ((1 : Int32), t1.2.1, t1.2.2.1, t1.2.2.2.1, t1.2.2.2.2.1, t1.2.2.2.2.2.1, t1.2.2.2.2.2.2.1, t1.2.2.2.2.2.2.2.1, t1.2.2.2.2.2.2.2.2)) else (some ((0 : Int32), t1.2.1, t1.2.2.1, t1.2.2.2.1, t1.2.2.2.2.1, t1.2.2.2.2.2.1, t1.2.2.2.2.2.2.1, t1.2.2.2.2.2.2.2.1, t1.2.2.2.2.2.2.2.2))))) else (some ((1 : Int32), v1.2.2.1, v1.2.2.2.1, v1.2.2.2.2.1, v1.2.2.2.2.2.1, v1.2.2.2.2.2.2.1, v1.2.2.2.2.2.2.2.1, v1.2.2.2.2.2.2.2.2.1, v1.2.2.2.2.2.2.2.2.2))) (fun t2 => some (.inl (t2.1, (v1.2.1 + (1 : Int32)), t2.2.1, t2.2.2.1, t2.2.2.2.1, t2.2.2.2.2.1, t2.2.2.2.2.2.1, t2.2.2.2.2.2.2.1, t2.2.2.2.2.2.2.2.1, t2.2.2.2.2.2.2.2.2)))))
def fX6_goesOn (M_g24 : Int64) (M_g25 : Int64) (M_g26 : Int64) (M_r11 : (Nat → Int32)) (M_r15 : (Nat → Int32)) (M_r21 : (Nat → Int32)) (M_r22 : (Nat → Int32)) (M_x12 : Int32) (M_x18 : Int32) (M_x19 : Int32) (M_x20 : Int32) (M_x23 : Int32) (a1 : Int32) (a2 : Int32) (a3 : Int32) : Option (Int32 × Int64 × Int64 × Int64 × (Nat → Int32) × (Nat → Int32) × Int32 × Int32 × Int32) :=
  bd (loopF (fX6_goesOn_b6 a1 a3 M_r11 M_r15 M_x12 M_x18) 1000 ((0 : Int32), a2, M_g24, M_g25, M_g26, M_r21, M_r22, M_x19, M_x20, M_x23)) (fun T1 => ckB T1.1 (some (T1.1, T1.2.1, T1.2.2.1, T1.2.2.2.1, T1.2.2.2.2.1, T1.2.2.2.2.2.1, T1.2.2.2.2.2.2.1, T1.2.2.2.2.2.2.2.1, T1.2.2.2.2.2.2.2.2)))
set_option maxRecDepth 100000 in
set_option maxHeartbeats 4000000 in
theorem kX6_goesOn (l : Launch) (D : va_G) (cI cB cS : ClassId) (uM : Nat) (aM : Nat → Nat) (M_x1 : Int32) (M_x2 : Int32) (M_x3 : Int32) (M_x4 : Int32) (M_x5 : Int32) (M_x6 : Int32) (M_x7 : Int32) (M_x8 : Int32) (M_x12 : Int32) (M_x14 : Int32) (M_x17 : Int32) (M_x18 : Int32) (M_x19 : Int32) (M_x20 : Int32) (M_x23 : Int32) (M_x27 : Int32) (M_x29 : Int32) (M_x33 : Int32) (M_g24 : Int64) (M_g25 : Int64) (M_g26 : Int64) (M_g28 : Int64) (M_r0 : (Nat → Int32)) (M_r9 : (Nat → Int32)) (M_r10 : (Nat → Int32)) (M_r11 : (Nat → Int32)) (M_r13 : (Nat → Int32)) (M_r15 : (Nat → Int32)) (M_r16 : (Nat → Int32)) (M_r21 : (Nat → Int32)) (M_r22 : (Nat → Int32)) (M_r30 : (Nat → Int32)) (M_r31 : (Nat → Int32)) (M_r32 : (Nat → Int32)) (a1 : Int32) (a2 : Int32) (a3 : Int32) (z : (Int32 × Int64 × Int64 × Int64 × (Nat → Int32) × (Nat → Int32) × Int32 × Int32 × Int32)) (h : fX6_goesOn M_g24 M_g25 M_g26 M_r11 M_r15 M_r21 M_r22 M_x12 M_x18 M_x19 M_x20 M_x23 a1 a2 a3 = some z) : Mt l yX6_goesOn cX6_goesOn 6 (some .boolean) 5 115 D cI cB cS (mW cI uM aM M_x1 M_x2 M_x3 M_x4 M_x5 M_x6 M_x7 M_x8 M_x12 M_x14 M_x17 M_x18 M_x19 M_x20 M_x23 M_x27 M_x29 M_x33 M_g24 M_g25 M_g26 M_g28 M_r0 M_r9 M_r10 M_r11 M_r13 M_r15 M_r16 M_r21 M_r22 M_r30 M_r31 M_r32) (mW cI uM aM M_x1 M_x2 M_x3 M_x4 M_x5 M_x6 M_x7 M_x8 M_x12 M_x14 M_x17 M_x18 z.2.2.2.2.2.2.1 z.2.2.2.2.2.2.2.1 z.2.2.2.2.2.2.2.2 M_x27 M_x29 M_x33 z.2.1 z.2.2.1 z.2.2.2.1 M_g28 M_r0 M_r9 M_r10 M_r11 M_r13 M_r15 M_r16 z.2.2.2.2.1 z.2.2.2.2.2.1 M_r30 M_r31 M_r32) [.ref uM, .int a1, .int a2, .int a3] (some (.int z.1)) := by
  refine entryZ (by decide +kernel) rfl (Nat.le_of_ble_eq_true rfl) ?_
  intro p e s m below meth c A ls QQ R ar F hRet jP jD jS jl
  obtain ⟨hx, hb, hml, hown, hts, jK, hA, hf1, hf2⟩ := id F
  have jl : lv_has ls 6 [(0, .ref uM), (1, .int a1), (2, .int a2), (3, .int a3)] := jl
  unfold fX6_goesOn at h
  refine lv_iconst (v := (0 : Int32)) hx hb dX6_goesOn_0 (by decide) ?_
  refine lv_istore (lv' := [(4, .int (0 : Int32)), (0, .ref uM), (1, .int a1), (2, .int a2), (3, .int a3)]) hx hb dX6_goesOn_1 jl (by decide) rfl (fun ls jl => ?_)
  refine lv_iload_n hx hb dX6_goesOn_3 rfl (lv_at jl 3 rfl) ?_
  refine lv_istore (lv' := [(5, .int a2), (4, .int (0 : Int32)), (0, .ref uM), (1, .int a1), (2, .int a2), (3, .int a3)]) hx hb dX6_goesOn_4 jl (by decide) rfl (fun ls jl => ?_)
  obtain ⟨T1, hT1, hz1⟩ := bd_some h
  clear h
  have hE1 : ∀ (H : Heap) (locs : List Loc) (ls : Array Slot), va_P D vwCl (mW cI uM aM M_x1 M_x2 M_x3 M_x4 M_x5 M_x6 M_x7 M_x8 M_x12 M_x14 M_x17 M_x18 T1.2.2.2.2.2.2.1 T1.2.2.2.2.2.2.2.1 T1.2.2.2.2.2.2.2.2 M_x27 M_x29 M_x33 T1.2.1 T1.2.2.1 T1.2.2.2.1 M_g28 M_r0 M_r9 M_r10 M_r11 M_r13 M_r15 M_r16 T1.2.2.2.2.1 T1.2.2.2.2.2.1 M_r30 M_r31 M_r32) H → va_D A (mW cI uM aM M_x1 M_x2 M_x3 M_x4 M_x5 M_x6 M_x7 M_x8 M_x12 M_x14 M_x17 M_x18 T1.2.2.2.2.2.2.1 T1.2.2.2.2.2.2.2.1 T1.2.2.2.2.2.2.2.2 M_x27 M_x29 M_x33 T1.2.1 T1.2.2.1 T1.2.2.2.1 M_g28 M_r0 M_r9 M_r10 M_r11 M_r13 M_r15 M_r16 T1.2.2.2.2.1 T1.2.2.2.2.2.1 M_r30 M_r31 M_r32) → va_S A s.heap H locs → lv_has ls 6 [(4, .int T1.1)] → W p l e R s m ar below meth c H locs 0 0 QQ (F0 m 57 ls []) := by
    clear jP jD jS jl
    intro H locs ls jP jD jS jl
    refine lv_iload hx hb dX6_goesOn_57 (lv_at jl 0 rfl) ?_
    obtain ⟨hbz, hz1⟩ := ckB_some hz1
    obtain rfl := Option.some.inj hz1
    exact hRet _ _ _ _ hbz jP jD jS dX6_goesOn_59
  have hL1 : ∀ (n : Nat) (v1 : (Int32 × Int32 × Int64 × Int64 × Int64 × (Nat → Int32) × (Nat → Int32) × Int32 × Int32 × Int32)), loopF (fX6_goesOn_b6 a1 a3 M_r11 M_r15 M_x12 M_x18) n v1 = some T1 → ∀ (H : Heap) (locs : List Loc) (ls : Array Slot), va_P D vwCl (mW cI uM aM M_x1 M_x2 M_x3 M_x4 M_x5 M_x6 M_x7 M_x8 M_x12 M_x14 M_x17 M_x18 v1.2.2.2.2.2.2.2.1 v1.2.2.2.2.2.2.2.2.1 v1.2.2.2.2.2.2.2.2.2 M_x27 M_x29 M_x33 v1.2.2.1 v1.2.2.2.1 v1.2.2.2.2.1 M_g28 M_r0 M_r9 M_r10 M_r11 M_r13 M_r15 M_r16 v1.2.2.2.2.2.1 v1.2.2.2.2.2.2.1 M_r30 M_r31 M_r32) H → va_D A (mW cI uM aM M_x1 M_x2 M_x3 M_x4 M_x5 M_x6 M_x7 M_x8 M_x12 M_x14 M_x17 M_x18 v1.2.2.2.2.2.2.2.1 v1.2.2.2.2.2.2.2.2.1 v1.2.2.2.2.2.2.2.2.2 M_x27 M_x29 M_x33 v1.2.2.1 v1.2.2.2.1 v1.2.2.2.2.1 M_g28 M_r0 M_r9 M_r10 M_r11 M_r13 M_r15 M_r16 v1.2.2.2.2.2.1 v1.2.2.2.2.2.2.1 M_r30 M_r31 M_r32) → va_S A s.heap H locs → lv_has ls 6 [(0, .ref uM), (1, .int a1), (3, .int a3), (4, .int v1.1), (5, .int v1.2.1)] → W p l e R s m ar below meth c H locs 0 0 QQ (F0 m 6 ls []) := by
    clear jP jD jS jl hT1
    intro n
    induction n with
    | zero => intro v1 hq; exact (loop_none hq).elim
    | succ n ih =>
      intro v1 hq H locs ls jP jD jS jl
      obtain ⟨o1, hv1, hq1⟩ := loop_some hq
      clear hq
      unfold fX6_goesOn_b6 at hv1
      refine lv_iload hx hb dX6_goesOn_6 (lv_at jl 4 rfl) ?_
      refine lv_bipush (v := (100 : Int32)) hx hb dX6_goesOn_8 (by decide) ?_
      refine lv_icmp_ge (tgt := 57) hx hb dX6_goesOn_10 (by decide) (fun c2 => ?_) (fun c2 => ?_)
      · have hv1 := itp c2 hv1
        obtain rfl := Option.some.inj hv1
        obtain rfl := nxt_r hq1
        exact hE1 _ _ _ jP jD jS (lv_sub jl [3] rfl)
      · have hv1 := itn c2 hv1
        refine lv_iload_n hx hb dX6_goesOn_13 rfl (lv_at jl 2 rfl) ?_
        refine lv_if_eq (tgt := 57) hx hb dX6_goesOn_14 (by decide) (fun c3 => ?_) (fun c3 => ?_)
        · have hv1 := itp c3 hv1
          obtain rfl := Option.some.inj hv1
          obtain rfl := nxt_r hq1
          exact hE1 _ _ _ jP jD jS (lv_sub jl [3] rfl)
        · have hv1 := itn c3 hv1
          refine lv_iload hx hb dX6_goesOn_17 (lv_at jl 3 rfl) ?_
          obtain ⟨t9, hvt9, hv1⟩ := bd_some hv1
          have hJt9 : ∀ (H : Heap) (locs : List Loc) (ls : Array Slot), va_P D vwCl (mW cI uM aM M_x1 M_x2 M_x3 M_x4 M_x5 M_x6 M_x7 M_x8 M_x12 M_x14 M_x17 M_x18 t9.2.2.2.2.2.2.1 t9.2.2.2.2.2.2.2.1 t9.2.2.2.2.2.2.2.2 M_x27 M_x29 M_x33 t9.2.1 t9.2.2.1 t9.2.2.2.1 M_g28 M_r0 M_r9 M_r10 M_r11 M_r13 M_r15 M_r16 t9.2.2.2.2.1 t9.2.2.2.2.2.1 M_r30 M_r31 M_r32) H → va_D A (mW cI uM aM M_x1 M_x2 M_x3 M_x4 M_x5 M_x6 M_x7 M_x8 M_x12 M_x14 M_x17 M_x18 t9.2.2.2.2.2.2.1 t9.2.2.2.2.2.2.2.1 t9.2.2.2.2.2.2.2.2 M_x27 M_x29 M_x33 t9.2.1 t9.2.2.1 t9.2.2.2.1 M_g28 M_r0 M_r9 M_r10 M_r11 M_r13 M_r15 M_r16 t9.2.2.2.2.1 t9.2.2.2.2.2.1 M_r30 M_r31 M_r32) → va_S A s.heap H locs → lv_has ls 6 [(0, .ref uM), (1, .int a1), (3, .int a3), (5, .int v1.2.1)] → W p l e R s m ar below meth c H locs 0 0 QQ (F0 m 49 ls [.int t9.1]) := by
            clear jP jD jS jl
            intro H locs ls jP jD jS jl
            refine lv_istore (lv' := [(4, .int t9.1), (0, .ref uM), (1, .int a1), (3, .int a3), (5, .int v1.2.1)]) hx hb dX6_goesOn_49 jl (by decide) rfl (fun ls jl => ?_)
            refine lv_iinc (v := (v1.2.1 + (1 : Int32))) (lv' := [(5, .int (v1.2.1 + (1 : Int32))), (4, .int t9.1), (0, .ref uM), (1, .int a1), (3, .int a3)]) hx hb dX6_goesOn_51 jl (k := 4) rfl rfl (by decide) rfl (fun ls jl => ?_)
            refine lv_goto (tgt := 6) hx hb dX6_goesOn_54 (by decide) ?_
            obtain rfl := Option.some.inj hv1
            exact ih _ (nxt_l hq1) _ _ _ jP jD jS (lv_sub jl [2, 3, 4, 1, 0] rfl)
          clear hv1
          refine lv_if_ne (tgt := 44) hx hb dX6_goesOn_19 (by decide) (fun c4 => ?_) (fun c4 => ?_)
          · have hvt9 := itn c4 hvt9
            refine lv_iconst (v := (1 : Int32)) hx hb dX6_goesOn_44 (by decide) ?_
            refine lv_goto (tgt := 49) hx hb dX6_goesOn_45 (by decide) ?_
            obtain rfl := Option.some.inj hvt9
            exact hJt9 _ _ _ jP jD jS (lv_sub jl [0, 1, 2, 4] rfl)
          · have hvt9 := itp c4 hvt9
            refine lv_aload_n hx hb dX6_goesOn_22 rfl (lv_at jl 0 rfl) ?_
            refine lv_iload_n hx hb dX6_goesOn_23 rfl (lv_at jl 1 rfl) ?_
            refine lv_iconst (v := (0 : Int32)) hx hb dX6_goesOn_24 (by decide) ?_
            refine lv_iload hx hb dX6_goesOn_25 (lv_at jl 4 rfl) ?_
            obtain ⟨t5, hc6, hvt9⟩ := bd_some hvt9
            refine callW (w1 := (mW cI uM aM M_x1 M_x2 M_x3 M_x4 M_x5 M_x6 M_x7 M_x8 M_x12 M_x14 M_x17 M_x18 t5.2.2.2.2.2.2.1 t5.2.2.2.2.2.2.2.1 t5.2.2.2.2.2.2.2.2 M_x27 M_x29 M_x33 t5.2.1 t5.2.2.1 t5.2.2.2.1 M_g28 M_r0 M_r9 M_r10 M_r11 M_r13 M_r15 M_r16 t5.2.2.2.2.1 t5.2.2.2.2.2.1 M_r30 M_r31 M_r32)) (As := [.int a1, .int (0 : Int32), .int v1.2.1]) (rest := []) (st1 := [.int t5.1]) 0 F (kX6_doesRest l D cI cB cS uM aM M_x1 M_x2 M_x3 M_x4 M_x5 M_x6 M_x7 M_x8 M_x12 M_x14 M_x17 M_x18 v1.2.2.2.2.2.2.2.1 v1.2.2.2.2.2.2.2.2.1 v1.2.2.2.2.2.2.2.2.2 M_x27 M_x29 M_x33 v1.2.2.1 v1.2.2.2.1 v1.2.2.2.2.1 M_g28 M_r0 M_r9 M_r10 M_r11 M_r13 M_r15 M_r16 v1.2.2.2.2.2.1 v1.2.2.2.2.2.2.1 M_r30 M_r31 M_r32 a1 (0 : Int32) v1.2.1 _ hc6 ) okX6_doesRest w_500 (by decide) (by decide) ⟨Nat.zero_le _, Nat.zero_le _⟩ rfl rfl rfl jP jD jS rfl jl.1 rfl rfl (Nat.le_of_ble_eq_true rfl) dX6_goesOn_27 (fun H locs jP jD jS => ?_)
            refine lv_if_eq (tgt := 48) hx hb dX6_goesOn_30 (by decide) (fun c7 => ?_) (fun c7 => ?_)
            · have hvt9 := itp c7 hvt9
              refine lv_iconst (v := (0 : Int32)) hx hb dX6_goesOn_48 (by decide) ?_
              obtain rfl := Option.some.inj hvt9
              exact hJt9 _ _ _ jP jD jS (lv_sub jl [0, 1, 2, 4] rfl)
            · have hvt9 := itn c7 hvt9
              refine lv_iload_n hx hb dX6_goesOn_33 rfl (lv_at jl 2 rfl) ?_
              refine lv_aload_n hx hb dX6_goesOn_34 rfl (lv_at jl 0 rfl) ?_
              refine va_get (D := D) (ci := 6) (v := .int t5.2.2.2.2.2.2.1) (C := RX6) (T := TX6) (N := 34) hx hb hts in6 hown jK.1 jP 0 rfl rfl 19 (by decide) (hts _ w_414) (fun _ h9 => h9) rfl dX6_goesOn_35 ?_
              refine lv_iconst (v := (-1 : Int32)) hx hb dX6_goesOn_38 (by decide) ?_
              refine lv_ixor hx hb dX6_goesOn_39 ?_
              refine lv_iand hx hb dX6_goesOn_40 ?_
              refine lv_if_ne (tgt := 48) hx hb dX6_goesOn_41 (by decide) (fun c8 => ?_) (fun c8 => ?_)
              · have hvt9 := itn c8 hvt9
                refine lv_iconst (v := (0 : Int32)) hx hb dX6_goesOn_48 (by decide) ?_
                obtain rfl := Option.some.inj hvt9
                exact hJt9 _ _ _ jP jD jS (lv_sub jl [0, 1, 2, 4] rfl)
              · have hvt9 := itp c8 hvt9
                refine lv_iconst (v := (1 : Int32)) hx hb dX6_goesOn_44 (by decide) ?_
                refine lv_goto (tgt := 49) hx hb dX6_goesOn_45 (by decide) ?_
                obtain rfl := Option.some.inj hvt9
                exact hJt9 _ _ _ jP jD jS (lv_sub jl [0, 1, 2, 4] rfl)
  exact hL1 1000 _ hT1 _ _ _ jP jD jS (lv_sub jl [2, 3, 5, 1, 0] rfl)
theorem okX6_sharp : okV yX6_sharp cX6_sharp 5 (some .int) 0 := ⟨w_616, w_617, w_618, w_5, by decide, by decide, by decide +kernel⟩
def fX6_sharp_b4 (M_x12 : Int32) (M_r11 : (Nat → Int32)) (M_r15 : (Nat → Int32)) (v1 : (Int32 × Int32)) : Option ((Int32 × Int32) ⊕ Int32) :=
  if M_x12 ≤ v1.2 then (some (.inr v1.1)) else (bd (fX6_isGood (M_r11) (M_r15) v1.2) (fun t1 => bd (if t1 = (0 : Int32) then (some (0 : Int32)) else (some ((1 : Int32) <<< (v1.2 &&& 31)))) (fun t2 => some (.inl ((v1.1 ||| t2), (v1.2 + (1 : Int32)))))))
def fX6_sharp_b50 (l1 : Int32) (l2 : Int32) (M_r11 : (Nat → Int32)) (M_x12 : Int32) (M_x18 : Int32) (v1 : (Int32 × Int32 × Int64 × Int64 × Int64 × (Nat → Int32) × (Nat → Int32) × (Nat → Int32) × Int32 × Int32 × Int32)) : Option ((Int32 × Int32 × Int64 × Int64 × Int64 × (Nat → Int32) × (Nat → Int32) × (Nat → Int32) × Int32 × Int32 × Int32) ⊕ (Int32 × Int64 × Int64 × Int64 × (Nat → Int32) × (Nat → Int32) × (Nat → Int32) × Int32 × Int32 × Int32)) :=
  if v1.2.1 < (4 : Int32) then (some (.inr (v1.1, v1.2.2.1, v1.2.2.2.1, v1.2.2.2.2.1, v1.2.2.2.2.2.1, v1.2.2.2.2.2.2.1, v1.2.2.2.2.2.2.2.1, v1.2.2.2.2.2.2.2.2.1, v1.2.2.2.2.2.2.2.2.2.1, v1.2.2.2.2.2.2.2.2.2.2))) else (bd (fX6_goesOn v1.2.2.1 v1.2.2.2.1 v1.2.2.2.2.1 (M_r11) (upd v1.2.2.2.2.2.1 (1 : Int32).toNatClampNeg v1.2.1) v1.2.2.2.2.2.2.1 v1.2.2.2.2.2.2.2.1 (M_x12) (M_x18) v1.2.2.2.2.2.2.2.2.1 v1.2.2.2.2.2.2.2.2.2.1 v1.2.2.2.2.2.2.2.2.2.2 (2 : Int32) (0 : Int32) (l1)) (fun t1 => bd (if t1.1 = (0 : Int32) then some v1.1 else some v1.2.1) (fun t2 => some (.inl (t2, (v1.2.1 + (-1 : Int32)), t1.2.1, t1.2.2.1, t1.2.2.2.1, (upd v1.2.2.2.2.2.1 (1 : Int32).toNatClampNeg v1.2.1), t1.2.2.2.2.1, t1.2.2.2.2.2.1, t1.2.2.2.2.2.2.1, t1.2.2.2.2.2.2.2.1, t1.2.2.2.2.2.2.2.2)))))
def fX6_sharp (M_g24 : Int64) (M_g25 : Int64) (M_g26 : Int64) (M_r11 : (Nat → Int32)) (M_r15 : (Nat → Int32)) (M_r21 : (Nat → Int32)) (M_r22 : (Nat → Int32)) (M_x12 : Int32) (M_x18 : Int32) (M_x19 : Int32) (M_x20 : Int32) (M_x23 : Int32) : Option (Int32 × Int64 × Int64 × Int64 × (Nat → Int32) × (Nat → Int32) × (Nat → Int32) × Int32 × Int32 × Int32) :=
  bd (loopF (fX6_sharp_b4 M_x12 M_r11 M_r15) 1000 ((0 : Int32), (0 : Int32))) (fun T1 => bd (loopF (fX6_sharp_b50 T1 (M_r15 (1 : Int32).toNatClampNeg) M_r11 M_x12 M_x18) 1000 ((-4 : Int32), (8 : Int32), M_g24, M_g25, M_g26, M_r15, M_r21, M_r22, M_x19, M_x20, M_x23)) (fun T7 => some (T7.1, T7.2.1, T7.2.2.1, T7.2.2.2.1, (upd T7.2.2.2.2.1 (1 : Int32).toNatClampNeg (M_r15 (1 : Int32).toNatClampNeg)), T7.2.2.2.2.2.1, T7.2.2.2.2.2.2.1, T7.2.2.2.2.2.2.2.1, T7.2.2.2.2.2.2.2.2.1, T7.2.2.2.2.2.2.2.2.2)))
set_option maxRecDepth 100000 in
set_option maxHeartbeats 4000000 in
theorem kX6_sharp (l : Launch) (D : va_G) (cI cB cS : ClassId) (uM : Nat) (aM : Nat → Nat) (M_x1 : Int32) (M_x2 : Int32) (M_x3 : Int32) (M_x4 : Int32) (M_x5 : Int32) (M_x6 : Int32) (M_x7 : Int32) (M_x8 : Int32) (M_x12 : Int32) (M_x14 : Int32) (M_x17 : Int32) (M_x18 : Int32) (M_x19 : Int32) (M_x20 : Int32) (M_x23 : Int32) (M_x27 : Int32) (M_x29 : Int32) (M_x33 : Int32) (M_g24 : Int64) (M_g25 : Int64) (M_g26 : Int64) (M_g28 : Int64) (M_r0 : (Nat → Int32)) (M_r9 : (Nat → Int32)) (M_r10 : (Nat → Int32)) (M_r11 : (Nat → Int32)) (M_r13 : (Nat → Int32)) (M_r15 : (Nat → Int32)) (M_r16 : (Nat → Int32)) (M_r21 : (Nat → Int32)) (M_r22 : (Nat → Int32)) (M_r30 : (Nat → Int32)) (M_r31 : (Nat → Int32)) (M_r32 : (Nat → Int32)) (z : (Int32 × Int64 × Int64 × Int64 × (Nat → Int32) × (Nat → Int32) × (Nat → Int32) × Int32 × Int32 × Int32)) (h : fX6_sharp M_g24 M_g25 M_g26 M_r11 M_r15 M_r21 M_r22 M_x12 M_x18 M_x19 M_x20 M_x23 = some z) : Mt l yX6_sharp cX6_sharp 5 (some .int) 6 140 D cI cB cS (mW cI uM aM M_x1 M_x2 M_x3 M_x4 M_x5 M_x6 M_x7 M_x8 M_x12 M_x14 M_x17 M_x18 M_x19 M_x20 M_x23 M_x27 M_x29 M_x33 M_g24 M_g25 M_g26 M_g28 M_r0 M_r9 M_r10 M_r11 M_r13 M_r15 M_r16 M_r21 M_r22 M_r30 M_r31 M_r32) (mW cI uM aM M_x1 M_x2 M_x3 M_x4 M_x5 M_x6 M_x7 M_x8 M_x12 M_x14 M_x17 M_x18 z.2.2.2.2.2.2.2.1 z.2.2.2.2.2.2.2.2.1 z.2.2.2.2.2.2.2.2.2 M_x27 M_x29 M_x33 z.2.1 z.2.2.1 z.2.2.2.1 M_g28 M_r0 M_r9 M_r10 M_r11 M_r13 z.2.2.2.2.1 M_r16 z.2.2.2.2.2.1 z.2.2.2.2.2.2.1 M_r30 M_r31 M_r32) [.ref uM] (some (.int z.1)) := by
  refine entryI (by decide +kernel) rfl (Nat.le_of_ble_eq_true rfl) ?_
  intro p e s m below meth c A ls QQ R ar F hRet jP jD jS jl
  obtain ⟨hx, hb, hml, hown, hts, jK, hA, hf1, hf2⟩ := id F
  have jl : lv_has ls 5 [(0, .ref uM)] := jl
  unfold fX6_sharp at h
  refine lv_iconst (v := (0 : Int32)) hx hb dX6_sharp_0 (by decide) ?_
  refine lv_istore_n (lv' := [(1, .int (0 : Int32)), (0, .ref uM)]) hx hb dX6_sharp_1 rfl jl (by decide) rfl (fun ls jl => ?_)
  refine lv_iconst (v := (0 : Int32)) hx hb dX6_sharp_2 (by decide) ?_
  refine lv_istore_n (lv' := [(2, .int (0 : Int32)), (1, .int (0 : Int32)), (0, .ref uM)]) hx hb dX6_sharp_3 rfl jl (by decide) rfl (fun ls jl => ?_)
  obtain ⟨T1, hT1, hz1⟩ := bd_some h
  clear h
  have hE1 : ∀ (H : Heap) (locs : List Loc) (ls : Array Slot), va_P D vwCl (mW cI uM aM M_x1 M_x2 M_x3 M_x4 M_x5 M_x6 M_x7 M_x8 M_x12 M_x14 M_x17 M_x18 M_x19 M_x20 M_x23 M_x27 M_x29 M_x33 M_g24 M_g25 M_g26 M_g28 M_r0 M_r9 M_r10 M_r11 M_r13 M_r15 M_r16 M_r21 M_r22 M_r30 M_r31 M_r32) H → va_D A (mW cI uM aM M_x1 M_x2 M_x3 M_x4 M_x5 M_x6 M_x7 M_x8 M_x12 M_x14 M_x17 M_x18 M_x19 M_x20 M_x23 M_x27 M_x29 M_x33 M_g24 M_g25 M_g26 M_g28 M_r0 M_r9 M_r10 M_r11 M_r13 M_r15 M_r16 M_r21 M_r22 M_r30 M_r31 M_r32) → va_S A s.heap H locs → lv_has ls 5 [(0, .ref uM), (1, .int T1)] → W p l e R s m ar below meth c H locs 0 0 QQ (F0 m 36 ls []) := by
    clear jP jD jS jl
    intro H locs ls jP jD jS jl
    refine lv_aload_n hx hb dX6_sharp_36 rfl (lv_at jl 0 rfl) ?_
    refine va_get (D := D) (ci := 6) (v := .ref (aM 15)) (C := RX6) (T := TX6) (N := 34) hx hb hts in6 hown jK.1 jP 0 rfl rfl 15 (by decide) (hts _ w_82) (fun _ h9 => h9) rfl dX6_sharp_37 ?_
    refine lv_iconst (v := (1 : Int32)) hx hb dX6_sharp_40 (by decide) ?_
    refine va_iald (f := M_r15) hx hb jK.1 jP 6 0 rfl rfl (by unfold vp_in; decide) dX6_sharp_41 ?_
    refine lv_istore_n (lv' := [(2, .int (M_r15 (1 : Int32).toNatClampNeg)), (0, .ref uM), (1, .int T1)]) hx hb dX6_sharp_42 rfl jl (by decide) rfl (fun ls jl => ?_)
    refine lv_bipush (v := (-4 : Int32)) hx hb dX6_sharp_43 (by decide) ?_
    refine lv_istore_n (lv' := [(3, .int (-4 : Int32)), (2, .int (M_r15 (1 : Int32).toNatClampNeg)), (0, .ref uM), (1, .int T1)]) hx hb dX6_sharp_45 rfl jl (by decide) rfl (fun ls jl => ?_)
    refine lv_bipush (v := (8 : Int32)) hx hb dX6_sharp_46 (by decide) ?_
    refine lv_istore (lv' := [(4, .int (8 : Int32)), (3, .int (-4 : Int32)), (2, .int (M_r15 (1 : Int32).toNatClampNeg)), (0, .ref uM), (1, .int T1)]) hx hb dX6_sharp_48 jl (by decide) rfl (fun ls jl => ?_)
    obtain ⟨T7, hT7, hz7⟩ := bd_some hz1
    clear hz1
    have hE7 : ∀ (H : Heap) (locs : List Loc) (ls : Array Slot), va_P D vwCl (mW cI uM aM M_x1 M_x2 M_x3 M_x4 M_x5 M_x6 M_x7 M_x8 M_x12 M_x14 M_x17 M_x18 T7.2.2.2.2.2.2.2.1 T7.2.2.2.2.2.2.2.2.1 T7.2.2.2.2.2.2.2.2.2 M_x27 M_x29 M_x33 T7.2.1 T7.2.2.1 T7.2.2.2.1 M_g28 M_r0 M_r9 M_r10 M_r11 M_r13 T7.2.2.2.2.1 M_r16 T7.2.2.2.2.2.1 T7.2.2.2.2.2.2.1 M_r30 M_r31 M_r32) H → va_D A (mW cI uM aM M_x1 M_x2 M_x3 M_x4 M_x5 M_x6 M_x7 M_x8 M_x12 M_x14 M_x17 M_x18 T7.2.2.2.2.2.2.2.1 T7.2.2.2.2.2.2.2.2.1 T7.2.2.2.2.2.2.2.2.2 M_x27 M_x29 M_x33 T7.2.1 T7.2.2.1 T7.2.2.2.1 M_g28 M_r0 M_r9 M_r10 M_r11 M_r13 T7.2.2.2.2.1 M_r16 T7.2.2.2.2.2.1 T7.2.2.2.2.2.2.1 M_r30 M_r31 M_r32) → va_S A s.heap H locs → lv_has ls 5 [(0, .ref uM), (2, .int (M_r15 (1 : Int32).toNatClampNeg)), (3, .int T7.1)] → W p l e R s m ar below meth c H locs 0 0 QQ (F0 m 87 ls []) := by
      clear jP jD jS jl
      intro H locs ls jP jD jS jl
      refine lv_aload_n hx hb dX6_sharp_87 rfl (lv_at jl 0 rfl) ?_
      refine va_get (D := D) (ci := 6) (v := .ref (aM 15)) (C := RX6) (T := TX6) (N := 34) hx hb hts in6 hown jK.1 jP 0 rfl rfl 15 (by decide) (hts _ w_82) (fun _ h9 => h9) rfl dX6_sharp_88 ?_
      refine lv_iconst (v := (1 : Int32)) hx hb dX6_sharp_91 (by decide) ?_
      refine lv_iload_n hx hb dX6_sharp_92 rfl (lv_at jl 1 rfl) ?_
      refine va_iast (f := T7.2.2.2.2.1) hx hb jK.1 jP jD jS 6 0 rfl rfl (by unfold vp_in; decide) dX6_sharp_93 (fun H locs jP jD jS => ?_)
      have jP : va_P D vwCl (mW cI uM aM M_x1 M_x2 M_x3 M_x4 M_x5 M_x6 M_x7 M_x8 M_x12 M_x14 M_x17 M_x18 T7.2.2.2.2.2.2.2.1 T7.2.2.2.2.2.2.2.2.1 T7.2.2.2.2.2.2.2.2.2 M_x27 M_x29 M_x33 T7.2.1 T7.2.2.1 T7.2.2.2.1 M_g28 M_r0 M_r9 M_r10 M_r11 M_r13 (upd T7.2.2.2.2.1 (1 : Int32).toNatClampNeg (M_r15 (1 : Int32).toNatClampNeg)) M_r16 T7.2.2.2.2.2.1 T7.2.2.2.2.2.2.1 M_r30 M_r31 M_r32) H := jP
      have jD : va_D A (mW cI uM aM M_x1 M_x2 M_x3 M_x4 M_x5 M_x6 M_x7 M_x8 M_x12 M_x14 M_x17 M_x18 T7.2.2.2.2.2.2.2.1 T7.2.2.2.2.2.2.2.2.1 T7.2.2.2.2.2.2.2.2.2 M_x27 M_x29 M_x33 T7.2.1 T7.2.2.1 T7.2.2.2.1 M_g28 M_r0 M_r9 M_r10 M_r11 M_r13 (upd T7.2.2.2.2.1 (1 : Int32).toNatClampNeg (M_r15 (1 : Int32).toNatClampNeg)) M_r16 T7.2.2.2.2.2.1 T7.2.2.2.2.2.2.1 M_r30 M_r31 M_r32) := jD
      refine lv_iload_n hx hb dX6_sharp_94 rfl (lv_at jl 2 rfl) ?_
      obtain rfl := Option.some.inj hz7
      exact hRet _ _ _ _ jP jD jS dX6_sharp_95
    have hL7 : ∀ (n : Nat) (v7 : (Int32 × Int32 × Int64 × Int64 × Int64 × (Nat → Int32) × (Nat → Int32) × (Nat → Int32) × Int32 × Int32 × Int32)), loopF (fX6_sharp_b50 T1 (M_r15 (1 : Int32).toNatClampNeg) M_r11 M_x12 M_x18) n v7 = some T7 → ∀ (H : Heap) (locs : List Loc) (ls : Array Slot), va_P D vwCl (mW cI uM aM M_x1 M_x2 M_x3 M_x4 M_x5 M_x6 M_x7 M_x8 M_x12 M_x14 M_x17 M_x18 v7.2.2.2.2.2.2.2.2.1 v7.2.2.2.2.2.2.2.2.2.1 v7.2.2.2.2.2.2.2.2.2.2 M_x27 M_x29 M_x33 v7.2.2.1 v7.2.2.2.1 v7.2.2.2.2.1 M_g28 M_r0 M_r9 M_r10 M_r11 M_r13 v7.2.2.2.2.2.1 M_r16 v7.2.2.2.2.2.2.1 v7.2.2.2.2.2.2.2.1 M_r30 M_r31 M_r32) H → va_D A (mW cI uM aM M_x1 M_x2 M_x3 M_x4 M_x5 M_x6 M_x7 M_x8 M_x12 M_x14 M_x17 M_x18 v7.2.2.2.2.2.2.2.2.1 v7.2.2.2.2.2.2.2.2.2.1 v7.2.2.2.2.2.2.2.2.2.2 M_x27 M_x29 M_x33 v7.2.2.1 v7.2.2.2.1 v7.2.2.2.2.1 M_g28 M_r0 M_r9 M_r10 M_r11 M_r13 v7.2.2.2.2.2.1 M_r16 v7.2.2.2.2.2.2.1 v7.2.2.2.2.2.2.2.1 M_r30 M_r31 M_r32) → va_S A s.heap H locs → lv_has ls 5 [(0, .ref uM), (1, .int T1), (2, .int (M_r15 (1 : Int32).toNatClampNeg)), (3, .int v7.1), (4, .int v7.2.1)] → W p l e R s m ar below meth c H locs 0 0 QQ (F0 m 50 ls []) := by
      clear jP jD jS jl hT7
      intro n
      induction n with
      | zero => intro v7 hq; exact (loop_none hq).elim
      | succ n ih =>
        intro v7 hq H locs ls jP jD jS jl
        obtain ⟨o7, hv7, hq7⟩ := loop_some hq
        clear hq
        unfold fX6_sharp_b50 at hv7
        refine lv_iload hx hb dX6_sharp_50 (lv_at jl 4 rfl) ?_
        refine lv_iconst (v := (4 : Int32)) hx hb dX6_sharp_52 (by decide) ?_
        refine lv_icmp_lt (tgt := 87) hx hb dX6_sharp_53 (by decide) (fun c8 => ?_) (fun c8 => ?_)
        · have hv7 := itp c8 hv7
          obtain rfl := Option.some.inj hv7
          obtain rfl := nxt_r hq7
          exact hE7 _ _ _ jP jD jS (lv_sub jl [0, 2, 3] rfl)
        · have hv7 := itn c8 hv7
          refine lv_aload_n hx hb dX6_sharp_56 rfl (lv_at jl 0 rfl) ?_
          refine va_get (D := D) (ci := 6) (v := .ref (aM 15)) (C := RX6) (T := TX6) (N := 34) hx hb hts in6 hown jK.1 jP 0 rfl rfl 15 (by decide) (hts _ w_82) (fun _ h9 => h9) rfl dX6_sharp_57 ?_
          refine lv_iconst (v := (1 : Int32)) hx hb dX6_sharp_60 (by decide) ?_
          refine lv_iload hx hb dX6_sharp_61 (lv_at jl 4 rfl) ?_
          refine va_iast (f := v7.2.2.2.2.2.1) hx hb jK.1 jP jD jS 6 0 rfl rfl (by unfold vp_in; decide) dX6_sharp_63 (fun H locs jP jD jS => ?_)
          have jP : va_P D vwCl (mW cI uM aM M_x1 M_x2 M_x3 M_x4 M_x5 M_x6 M_x7 M_x8 M_x12 M_x14 M_x17 M_x18 v7.2.2.2.2.2.2.2.2.1 v7.2.2.2.2.2.2.2.2.2.1 v7.2.2.2.2.2.2.2.2.2.2 M_x27 M_x29 M_x33 v7.2.2.1 v7.2.2.2.1 v7.2.2.2.2.1 M_g28 M_r0 M_r9 M_r10 M_r11 M_r13 (upd v7.2.2.2.2.2.1 (1 : Int32).toNatClampNeg v7.2.1) M_r16 v7.2.2.2.2.2.2.1 v7.2.2.2.2.2.2.2.1 M_r30 M_r31 M_r32) H := jP
          have jD : va_D A (mW cI uM aM M_x1 M_x2 M_x3 M_x4 M_x5 M_x6 M_x7 M_x8 M_x12 M_x14 M_x17 M_x18 v7.2.2.2.2.2.2.2.2.1 v7.2.2.2.2.2.2.2.2.2.1 v7.2.2.2.2.2.2.2.2.2.2 M_x27 M_x29 M_x33 v7.2.2.1 v7.2.2.2.1 v7.2.2.2.2.1 M_g28 M_r0 M_r9 M_r10 M_r11 M_r13 (upd v7.2.2.2.2.2.1 (1 : Int32).toNatClampNeg v7.2.1) M_r16 v7.2.2.2.2.2.2.1 v7.2.2.2.2.2.2.2.1 M_r30 M_r31 M_r32) := jD
          refine lv_aload_n hx hb dX6_sharp_64 rfl (lv_at jl 0 rfl) ?_
          refine lv_iconst (v := (2 : Int32)) hx hb dX6_sharp_65 (by decide) ?_
          refine lv_iconst (v := (0 : Int32)) hx hb dX6_sharp_66 (by decide) ?_
          refine lv_iload_n hx hb dX6_sharp_67 rfl (lv_at jl 1 rfl) ?_
          obtain ⟨t9, hc10, hv7⟩ := bd_some hv7
          refine callW (w1 := (mW cI uM aM M_x1 M_x2 M_x3 M_x4 M_x5 M_x6 M_x7 M_x8 M_x12 M_x14 M_x17 M_x18 t9.2.2.2.2.2.2.1 t9.2.2.2.2.2.2.2.1 t9.2.2.2.2.2.2.2.2 M_x27 M_x29 M_x33 t9.2.1 t9.2.2.1 t9.2.2.2.1 M_g28 M_r0 M_r9 M_r10 M_r11 M_r13 (upd v7.2.2.2.2.2.1 (1 : Int32).toNatClampNeg v7.2.1) M_r16 t9.2.2.2.2.1 t9.2.2.2.2.2.1 M_r30 M_r31 M_r32)) (As := [.int (2 : Int32), .int (0 : Int32), .int T1]) (rest := []) (st1 := [.int t9.1]) 0 F (kX6_goesOn l D cI cB cS uM aM M_x1 M_x2 M_x3 M_x4 M_x5 M_x6 M_x7 M_x8 M_x12 M_x14 M_x17 M_x18 v7.2.2.2.2.2.2.2.2.1 v7.2.2.2.2.2.2.2.2.2.1 v7.2.2.2.2.2.2.2.2.2.2 M_x27 M_x29 M_x33 v7.2.2.1 v7.2.2.2.1 v7.2.2.2.2.1 M_g28 M_r0 M_r9 M_r10 M_r11 M_r13 (upd v7.2.2.2.2.2.1 (1 : Int32).toNatClampNeg v7.2.1) M_r16 v7.2.2.2.2.2.2.1 v7.2.2.2.2.2.2.2.1 M_r30 M_r31 M_r32 (2 : Int32) (0 : Int32) T1 _ hc10 ) okX6_goesOn w_619 (by decide) (by decide) ⟨Nat.zero_le _, Nat.zero_le _⟩ rfl rfl rfl jP jD jS rfl jl.1 rfl rfl (Nat.le_of_ble_eq_true rfl) dX6_sharp_68 (fun H locs jP jD jS => ?_)
          obtain ⟨t12, hvt12, hv7⟩ := bd_some hv7
          have hJt12 : ∀ (H : Heap) (locs : List Loc) (ls : Array Slot), va_P D vwCl (mW cI uM aM M_x1 M_x2 M_x3 M_x4 M_x5 M_x6 M_x7 M_x8 M_x12 M_x14 M_x17 M_x18 t9.2.2.2.2.2.2.1 t9.2.2.2.2.2.2.2.1 t9.2.2.2.2.2.2.2.2 M_x27 M_x29 M_x33 t9.2.1 t9.2.2.1 t9.2.2.2.1 M_g28 M_r0 M_r9 M_r10 M_r11 M_r13 (upd v7.2.2.2.2.2.1 (1 : Int32).toNatClampNeg v7.2.1) M_r16 t9.2.2.2.2.1 t9.2.2.2.2.2.1 M_r30 M_r31 M_r32) H → va_D A (mW cI uM aM M_x1 M_x2 M_x3 M_x4 M_x5 M_x6 M_x7 M_x8 M_x12 M_x14 M_x17 M_x18 t9.2.2.2.2.2.2.1 t9.2.2.2.2.2.2.2.1 t9.2.2.2.2.2.2.2.2 M_x27 M_x29 M_x33 t9.2.1 t9.2.2.1 t9.2.2.2.1 M_g28 M_r0 M_r9 M_r10 M_r11 M_r13 (upd v7.2.2.2.2.2.1 (1 : Int32).toNatClampNeg v7.2.1) M_r16 t9.2.2.2.2.1 t9.2.2.2.2.2.1 M_r30 M_r31 M_r32) → va_S A s.heap H locs → lv_has ls 5 [(0, .ref uM), (1, .int T1), (2, .int (M_r15 (1 : Int32).toNatClampNeg)), (4, .int v7.2.1)] → W p l e R s m ar below meth c H locs 0 0 QQ (F0 m 80 ls [.int t12]) := by
            clear jP jD jS jl
            intro H locs ls jP jD jS jl
            refine lv_istore_n (lv' := [(3, .int t12), (0, .ref uM), (1, .int T1), (2, .int (M_r15 (1 : Int32).toNatClampNeg)), (4, .int v7.2.1)]) hx hb dX6_sharp_80 rfl jl (by decide) rfl (fun ls jl => ?_)
            refine lv_iinc (v := (v7.2.1 + (-1 : Int32))) (lv' := [(4, .int (v7.2.1 + (-1 : Int32))), (3, .int t12), (0, .ref uM), (1, .int T1), (2, .int (M_r15 (1 : Int32).toNatClampNeg))]) hx hb dX6_sharp_81 jl (k := 4) rfl rfl (by decide) rfl (fun ls jl => ?_)
            refine lv_goto (tgt := 50) hx hb dX6_sharp_84 (by decide) ?_
            obtain rfl := Option.some.inj hv7
            exact ih _ (nxt_l hq7) _ _ _ jP jD jS (lv_sub jl [2, 3, 4, 1, 0] rfl)
          clear hv7
          refine lv_if_eq (tgt := 79) hx hb dX6_sharp_71 (by decide) (fun c11 => ?_) (fun c11 => ?_)
          · have hvt12 := itp c11 hvt12
            refine lv_iload_n hx hb dX6_sharp_79 rfl (lv_at jl 3 rfl) ?_
            obtain rfl := Option.some.inj hvt12
            exact hJt12 _ _ _ jP jD jS (lv_sub jl [0, 1, 2, 4] rfl)
          · have hvt12 := itn c11 hvt12
            refine lv_iload hx hb dX6_sharp_74 (lv_at jl 4 rfl) ?_
            refine lv_goto (tgt := 80) hx hb dX6_sharp_76 (by decide) ?_
            obtain rfl := Option.some.inj hvt12
            exact hJt12 _ _ _ jP jD jS (lv_sub jl [0, 1, 2, 4] rfl)
    exact hL7 1000 _ hT7 _ _ _ jP jD jS (lv_sub jl [3, 4, 2, 1, 0] rfl)
  have hL1 : ∀ (n : Nat) (v1 : (Int32 × Int32)), loopF (fX6_sharp_b4 M_x12 M_r11 M_r15) n v1 = some T1 → ∀ (H : Heap) (locs : List Loc) (ls : Array Slot), va_P D vwCl (mW cI uM aM M_x1 M_x2 M_x3 M_x4 M_x5 M_x6 M_x7 M_x8 M_x12 M_x14 M_x17 M_x18 M_x19 M_x20 M_x23 M_x27 M_x29 M_x33 M_g24 M_g25 M_g26 M_g28 M_r0 M_r9 M_r10 M_r11 M_r13 M_r15 M_r16 M_r21 M_r22 M_r30 M_r31 M_r32) H → va_D A (mW cI uM aM M_x1 M_x2 M_x3 M_x4 M_x5 M_x6 M_x7 M_x8 M_x12 M_x14 M_x17 M_x18 M_x19 M_x20 M_x23 M_x27 M_x29 M_x33 M_g24 M_g25 M_g26 M_g28 M_r0 M_r9 M_r10 M_r11 M_r13 M_r15 M_r16 M_r21 M_r22 M_r30 M_r31 M_r32) → va_S A s.heap H locs → lv_has ls 5 [(0, .ref uM), (1, .int v1.1), (2, .int v1.2)] → W p l e R s m ar below meth c H locs 0 0 QQ (F0 m 4 ls []) := by
    clear jP jD jS jl hT1
    intro n
    induction n with
    | zero => intro v1 hq; exact (loop_none hq).elim
    | succ n ih =>
      intro v1 hq H locs ls jP jD jS jl
      obtain ⟨o1, hv1, hq1⟩ := loop_some hq
      clear hq
      unfold fX6_sharp_b4 at hv1
      refine lv_iload_n hx hb dX6_sharp_4 rfl (lv_at jl 2 rfl) ?_
      refine lv_aload_n hx hb dX6_sharp_5 rfl (lv_at jl 0 rfl) ?_
      refine va_get (D := D) (ci := 6) (v := .int M_x12) (C := RX6) (T := TX6) (N := 34) hx hb hts in6 hown jK.1 jP 0 rfl rfl 12 (by decide) (hts _ w_222) (fun _ h9 => h9) rfl dX6_sharp_6 ?_
      refine lv_icmp_ge (tgt := 36) hx hb dX6_sharp_9 (by decide) (fun c2 => ?_) (fun c2 => ?_)
      · have hv1 := itp c2 hv1
        obtain rfl := Option.some.inj hv1
        obtain rfl := nxt_r hq1
        exact hE1 _ _ _ jP jD jS (lv_sub jl [0, 1] rfl)
      · have hv1 := itn c2 hv1
        refine lv_iload_n hx hb dX6_sharp_12 rfl (lv_at jl 1 rfl) ?_
        refine lv_aload_n hx hb dX6_sharp_13 rfl (lv_at jl 0 rfl) ?_
        refine lv_iload_n hx hb dX6_sharp_14 rfl (lv_at jl 2 rfl) ?_
        obtain ⟨t3, hc4, hv1⟩ := bd_some hv1
        refine callW (w1 := (mW cI uM aM M_x1 M_x2 M_x3 M_x4 M_x5 M_x6 M_x7 M_x8 M_x12 M_x14 M_x17 M_x18 M_x19 M_x20 M_x23 M_x27 M_x29 M_x33 M_g24 M_g25 M_g26 M_g28 M_r0 M_r9 M_r10 M_r11 M_r13 M_r15 M_r16 M_r21 M_r22 M_r30 M_r31 M_r32)) (As := [.int v1.2]) (rest := [.int v1.1]) (st1 := [.int t3, .int v1.1]) 0 F (kX6_isGood l D cI cB cS uM aM M_x1 M_x2 M_x3 M_x4 M_x5 M_x6 M_x7 M_x8 M_x12 M_x14 M_x17 M_x18 M_x19 M_x20 M_x23 M_x27 M_x29 M_x33 M_g24 M_g25 M_g26 M_g28 M_r0 M_r9 M_r10 M_r11 M_r13 M_r15 M_r16 M_r21 M_r22 M_r30 M_r31 M_r32 v1.2 _ hc4 ) okX6_isGood w_337 (by decide) (by decide) ⟨Nat.zero_le _, Nat.zero_le _⟩ rfl rfl rfl jP jD jS rfl jl.1 rfl rfl (Nat.le_of_ble_eq_true rfl) dX6_sharp_15 (fun H locs jP jD jS => ?_)
        obtain ⟨t6, hvt6, hv1⟩ := bd_some hv1
        have hJt6 : ∀ (H : Heap) (locs : List Loc) (ls : Array Slot), va_P D vwCl (mW cI uM aM M_x1 M_x2 M_x3 M_x4 M_x5 M_x6 M_x7 M_x8 M_x12 M_x14 M_x17 M_x18 M_x19 M_x20 M_x23 M_x27 M_x29 M_x33 M_g24 M_g25 M_g26 M_g28 M_r0 M_r9 M_r10 M_r11 M_r13 M_r15 M_r16 M_r21 M_r22 M_r30 M_r31 M_r32) H → va_D A (mW cI uM aM M_x1 M_x2 M_x3 M_x4 M_x5 M_x6 M_x7 M_x8 M_x12 M_x14 M_x17 M_x18 M_x19 M_x20 M_x23 M_x27 M_x29 M_x33 M_g24 M_g25 M_g26 M_g28 M_r0 M_r9 M_r10 M_r11 M_r13 M_r15 M_r16 M_r21 M_r22 M_r30 M_r31 M_r32) → va_S A s.heap H locs → lv_has ls 5 [(0, .ref uM), (2, .int v1.2)] → W p l e R s m ar below meth c H locs 0 0 QQ (F0 m 28 ls [.int t6, .int v1.1]) := by
          clear jP jD jS jl
          intro H locs ls jP jD jS jl
          refine lv_ior hx hb dX6_sharp_28 ?_
          refine lv_istore_n (lv' := [(1, .int (v1.1 ||| t6)), (0, .ref uM), (2, .int v1.2)]) hx hb dX6_sharp_29 rfl jl (by decide) rfl (fun ls jl => ?_)
          refine lv_iinc (v := (v1.2 + (1 : Int32))) (lv' := [(2, .int (v1.2 + (1 : Int32))), (1, .int (v1.1 ||| t6)), (0, .ref uM)]) hx hb dX6_sharp_30 jl (k := 2) rfl rfl (by decide) rfl (fun ls jl => ?_)
          refine lv_goto (tgt := 4) hx hb dX6_sharp_33 (by decide) ?_
          obtain rfl := Option.some.inj hv1
          exact ih _ (nxt_l hq1) _ _ _ jP jD jS (lv_sub jl [2, 1, 0] rfl)
        clear hv1
        refine lv_if_eq (tgt := 27) hx hb dX6_sharp_18 (by decide) (fun c5 => ?_) (fun c5 => ?_)
        · have hvt6 := itp c5 hvt6
          refine lv_iconst (v := (0 : Int32)) hx hb dX6_sharp_27 (by decide) ?_
          obtain rfl := Option.some.inj hvt6
          exact hJt6 _ _ _ jP jD jS (lv_sub jl [0, 2] rfl)
        · have hvt6 := itn c5 hvt6
          refine lv_iconst (v := (1 : Int32)) hx hb dX6_sharp_21 (by decide) ?_
          refine lv_iload_n hx hb dX6_sharp_22 rfl (lv_at jl 2 rfl) ?_
          refine lv_ishl hx hb dX6_sharp_23 ?_
          refine lv_goto (tgt := 28) hx hb dX6_sharp_24 (by decide) ?_
          obtain rfl := Option.some.inj hvt6
          exact hJt6 _ _ _ jP jD jS (lv_sub jl [0, 2] rfl)
  exact hL1 1000 _ hT1 _ _ _ jP jD jS (lv_sub jl [2, 1, 0] rfl)
theorem okX6_days : okV yX6_days cX6_days 6 (some .int) 1 := ⟨w_628, w_629, w_630, w_5, by decide, by decide, by decide +kernel⟩
def fX6_days_b21 (l1 : Int32) (M_r11 : (Nat → Int32)) (M_r15 : (Nat → Int32)) (M_x12 : Int32) (M_x18 : Int32) (v1 : (Int32 × Int64 × Int32 × Int64 × Int64 × Int64 × Int64 × (Nat → Int32) × (Nat → Int32) × Int32 × Int32 × Int32 × Int32)) : Option ((Int32 × Int64 × Int32 × Int64 × Int64 × Int64 × Int64 × (Nat → Int32) × (Nat → Int32) × Int32 × Int32 × Int32 × Int32) ⊕ (Int32 × Int64 × Int64 × Int64 × Int64 × Int64 × (Nat → Int32) × (Nat → Int32) × Int32 × Int32 × Int32 × Int32)) :=
  if (11 : Int32) ≤ v1.2.2.1 then (some (.inr (v1.1, v1.2.1, v1.2.2.2.1, v1.2.2.2.2.1, v1.2.2.2.2.2.1, v1.2.2.2.2.2.2.1, v1.2.2.2.2.2.2.2.1, v1.2.2.2.2.2.2.2.2.1, v1.2.2.2.2.2.2.2.2.2.1, v1.2.2.2.2.2.2.2.2.2.2.1, v1.2.2.2.2.2.2.2.2.2.2.2.1, v1.2.2.2.2.2.2.2.2.2.2.2.2))) else (bd (fX6_layBest v1.2.2.2.1 v1.2.2.2.2.1 v1.2.2.2.2.2.1 (M_r11) (M_r15) v1.2.2.2.2.2.2.2.1 v1.2.2.2.2.2.2.2.2.1 (M_x12) (M_x18) v1.2.2.2.2.2.2.2.2.2.1 v1.2.2.2.2.2.2.2.2.2.2.1 v1.2.2.2.2.2.2.2.2.2.2.2.1 (3 : Int32) v1.2.2.1) (fun t1 => bd (if t1.1 = (0 : Int32) then (some (v1.1, v1.2.1)) else (if v1.1 = (-4 : Int32) then (some (v1.2.2.1, t1.2.2.2.2.1)) else (if (lg_cmp t1.2.2.2.2.1 v1.2.1) ≤ (0 : Int32) then (some (v1.1, v1.2.1)) else (some (v1.2.2.1, t1.2.2.2.2.1))))) (fun t2 => some (.inl (t2.1, t2.2, (v1.2.2.1 + (1 : Int32)), t1.2.1, t1.2.2.1, t1.2.2.2.1, t1.2.2.2.2.1, t1.2.2.2.2.2.1, t1.2.2.2.2.2.2.1, t1.2.2.2.2.2.2.2.1, t1.2.2.2.2.2.2.2.2.1, t1.2.2.2.2.2.2.2.2.2.1, t1.2.2.2.2.2.2.2.2.2.2)))))
def fX6_days (M_g24 : Int64) (M_g25 : Int64) (M_g26 : Int64) (M_g28 : Int64) (M_r11 : (Nat → Int32)) (M_r15 : (Nat → Int32)) (M_r21 : (Nat → Int32)) (M_r22 : (Nat → Int32)) (M_x12 : Int32) (M_x18 : Int32) (M_x19 : Int32) (M_x20 : Int32) (M_x23 : Int32) (M_x27 : Int32) (a1 : Int32) : Option (Int32 × Int64 × Int64 × Int64 × Int64 × (Nat → Int32) × (Nat → Int32) × Int32 × Int32 × Int32 × Int32) :=
  bd (fX6_in a1.toInt64 (0 : Int64) (1 : Int64)) (fun t1 => if t1 = (0 : Int32) then (some ((-1000000000 : Int32), M_g24, M_g25, M_g26, M_g28, M_r21, M_r22, M_x19, M_x20, M_x23, M_x27)) else (bd (loopF (fX6_days_b21 a1 M_r11 M_r15 M_x12 M_x18) 1000 ((-4 : Int32), (0 : Int64), (0 : Int32), M_g24, M_g25, M_g26, M_g28, M_r21, M_r22, M_x19, M_x20, M_x23, M_x27)) (fun T4 => if T4.1 = (-4 : Int32) then (some ((-1000000004 : Int32), T4.2.2.1, T4.2.2.2.1, T4.2.2.2.2.1, T4.2.2.2.2.2.1, T4.2.2.2.2.2.2.1, T4.2.2.2.2.2.2.2.1, T4.2.2.2.2.2.2.2.2.1, T4.2.2.2.2.2.2.2.2.2.1, T4.2.2.2.2.2.2.2.2.2.2.1, T4.2.2.2.2.2.2.2.2.2.2.2)) else (if a1 = (0 : Int32) then (some (T4.1, T4.2.2.1, T4.2.2.2.1, T4.2.2.2.2.1, T4.2.2.2.2.2.1, T4.2.2.2.2.2.2.1, T4.2.2.2.2.2.2.2.1, T4.2.2.2.2.2.2.2.2.1, T4.2.2.2.2.2.2.2.2.2.1, T4.2.2.2.2.2.2.2.2.2.2.1, T4.2.2.2.2.2.2.2.2.2.2.2)) else (some (T4.2.1.toInt32, T4.2.2.1, T4.2.2.2.1, T4.2.2.2.2.1, T4.2.2.2.2.2.1, T4.2.2.2.2.2.2.1, T4.2.2.2.2.2.2.2.1, T4.2.2.2.2.2.2.2.2.1, T4.2.2.2.2.2.2.2.2.2.1, T4.2.2.2.2.2.2.2.2.2.2.1, T4.2.2.2.2.2.2.2.2.2.2.2))))))
set_option maxRecDepth 100000 in
set_option maxHeartbeats 4000000 in
theorem kX6_days (l : Launch) (D : va_G) (cI cB cS : ClassId) (uM : Nat) (aM : Nat → Nat) (M_x1 : Int32) (M_x2 : Int32) (M_x3 : Int32) (M_x4 : Int32) (M_x5 : Int32) (M_x6 : Int32) (M_x7 : Int32) (M_x8 : Int32) (M_x12 : Int32) (M_x14 : Int32) (M_x17 : Int32) (M_x18 : Int32) (M_x19 : Int32) (M_x20 : Int32) (M_x23 : Int32) (M_x27 : Int32) (M_x29 : Int32) (M_x33 : Int32) (M_g24 : Int64) (M_g25 : Int64) (M_g26 : Int64) (M_g28 : Int64) (M_r0 : (Nat → Int32)) (M_r9 : (Nat → Int32)) (M_r10 : (Nat → Int32)) (M_r11 : (Nat → Int32)) (M_r13 : (Nat → Int32)) (M_r15 : (Nat → Int32)) (M_r16 : (Nat → Int32)) (M_r21 : (Nat → Int32)) (M_r22 : (Nat → Int32)) (M_r30 : (Nat → Int32)) (M_r31 : (Nat → Int32)) (M_r32 : (Nat → Int32)) (a1 : Int32) (z : (Int32 × Int64 × Int64 × Int64 × Int64 × (Nat → Int32) × (Nat → Int32) × Int32 × Int32 × Int32 × Int32)) (h : fX6_days M_g24 M_g25 M_g26 M_g28 M_r11 M_r15 M_r21 M_r22 M_x12 M_x18 M_x19 M_x20 M_x23 M_x27 a1 = some z) : Mt l yX6_days cX6_days 6 (some .int) 6 138 D cI cB cS (mW cI uM aM M_x1 M_x2 M_x3 M_x4 M_x5 M_x6 M_x7 M_x8 M_x12 M_x14 M_x17 M_x18 M_x19 M_x20 M_x23 M_x27 M_x29 M_x33 M_g24 M_g25 M_g26 M_g28 M_r0 M_r9 M_r10 M_r11 M_r13 M_r15 M_r16 M_r21 M_r22 M_r30 M_r31 M_r32) (mW cI uM aM M_x1 M_x2 M_x3 M_x4 M_x5 M_x6 M_x7 M_x8 M_x12 M_x14 M_x17 M_x18 z.2.2.2.2.2.2.2.1 z.2.2.2.2.2.2.2.2.1 z.2.2.2.2.2.2.2.2.2.1 z.2.2.2.2.2.2.2.2.2.2 M_x29 M_x33 z.2.1 z.2.2.1 z.2.2.2.1 z.2.2.2.2.1 M_r0 M_r9 M_r10 M_r11 M_r13 M_r15 M_r16 z.2.2.2.2.2.1 z.2.2.2.2.2.2.1 M_r30 M_r31 M_r32) [.ref uM, .int a1] (some (.int z.1)) := by
  refine entryI (by decide +kernel) rfl (Nat.le_of_ble_eq_true rfl) ?_
  intro p e s m below meth c A ls QQ R ar F hRet jP jD jS jl
  obtain ⟨hx, hb, hml, hown, hts, jK, hA, hf1, hf2⟩ := id F
  have jl : lv_has ls 6 [(0, .ref uM), (1, .int a1)] := jl
  unfold fX6_days at h
  refine lv_iload_n hx hb dX6_days_0 rfl (lv_at jl 1 rfl) ?_
  refine lv_i2l (v := a1.toInt64) hx hb dX6_days_1 rfl ?_
  refine lv_lconst (v := (0 : Int64)) hx hb dX6_days_2 (by decide) ?_
  refine lv_lconst (v := (1 : Int64)) hx hb dX6_days_3 (by decide) ?_
  obtain ⟨t1, hc2, h⟩ := bd_some h
  refine call0 (As := [.long a1.toInt64, .long (0 : Int64), .long (1 : Int64)]) (rest := []) (st1 := [.int t1]) F (kX6_in l D cI cB cS  a1.toInt64 (0 : Int64) (1 : Int64) _ hc2 ) okX6_in w_112 (by decide) (by decide) ⟨Nat.zero_le _, Nat.zero_le _⟩ jP jD jS rfl jl.1 rfl rfl (Nat.le_of_ble_eq_true rfl) dX6_days_4 (fun H locs jP jD jS => ?_)
  refine lv_if_ne (tgt := 13) hx hb dX6_days_7 (by decide) (fun c3 => ?_) (fun c3 => ?_)
  · have h := itn c3 h
    refine lv_bipush (v := (-4 : Int32)) hx hb dX6_days_13 (by decide) ?_
    refine lv_istore_n (lv' := [(2, .int (-4 : Int32)), (0, .ref uM), (1, .int a1)]) hx hb dX6_days_15 rfl jl (by decide) rfl (fun ls jl => ?_)
    refine lv_lconst (v := (0 : Int64)) hx hb dX6_days_16 (by decide) ?_
    refine lv_lstore_n (lv' := [(3, .long (0 : Int64)), (2, .int (-4 : Int32)), (0, .ref uM), (1, .int a1)]) hx hb dX6_days_17 rfl jl (by decide) rfl (fun ls jl => ?_)
    refine lv_iconst (v := (0 : Int32)) hx hb dX6_days_18 (by decide) ?_
    refine lv_istore (lv' := [(5, .int (0 : Int32)), (3, .long (0 : Int64)), (2, .int (-4 : Int32)), (0, .ref uM), (1, .int a1)]) hx hb dX6_days_19 jl (by decide) rfl (fun ls jl => ?_)
    obtain ⟨T4, hT4, hz4⟩ := bd_some h
    clear h
    have hE4 : ∀ (H : Heap) (locs : List Loc) (ls : Array Slot), va_P D vwCl (mW cI uM aM M_x1 M_x2 M_x3 M_x4 M_x5 M_x6 M_x7 M_x8 M_x12 M_x14 M_x17 M_x18 T4.2.2.2.2.2.2.2.2.1 T4.2.2.2.2.2.2.2.2.2.1 T4.2.2.2.2.2.2.2.2.2.2.1 T4.2.2.2.2.2.2.2.2.2.2.2 M_x29 M_x33 T4.2.2.1 T4.2.2.2.1 T4.2.2.2.2.1 T4.2.2.2.2.2.1 M_r0 M_r9 M_r10 M_r11 M_r13 M_r15 M_r16 T4.2.2.2.2.2.2.1 T4.2.2.2.2.2.2.2.1 M_r30 M_r31 M_r32) H → va_D A (mW cI uM aM M_x1 M_x2 M_x3 M_x4 M_x5 M_x6 M_x7 M_x8 M_x12 M_x14 M_x17 M_x18 T4.2.2.2.2.2.2.2.2.1 T4.2.2.2.2.2.2.2.2.2.1 T4.2.2.2.2.2.2.2.2.2.2.1 T4.2.2.2.2.2.2.2.2.2.2.2 M_x29 M_x33 T4.2.2.1 T4.2.2.2.1 T4.2.2.2.2.1 T4.2.2.2.2.2.1 M_r0 M_r9 M_r10 M_r11 M_r13 M_r15 M_r16 T4.2.2.2.2.2.2.1 T4.2.2.2.2.2.2.2.1 M_r30 M_r31 M_r32) → va_S A s.heap H locs → lv_has ls 6 [(1, .int a1), (2, .int T4.1), (3, .long T4.2.1)] → W p l e R s m ar below meth c H locs 0 0 QQ (F0 m 67 ls []) := by
      clear jP jD jS jl
      intro H locs ls jP jD jS jl
      refine lv_iload_n hx hb dX6_days_67 rfl (lv_at jl 1 rfl) ?_
      refine lv_bipush (v := (-4 : Int32)) hx hb dX6_days_68 (by decide) ?_
      refine lv_icmp_ne (tgt := 78) hx hb dX6_days_70 (by decide) (fun c12 => ?_) (fun c12 => ?_)
      · have hz4 := itn c12 hz4
        refine lv_iload_n hx hb dX6_days_78 rfl (lv_at jl 0 rfl) ?_
        refine lv_if_ne (tgt := 86) hx hb dX6_days_79 (by decide) (fun c13 => ?_) (fun c13 => ?_)
        · have hz4 := itn c13 hz4
          refine lv_lload_n hx hb dX6_days_86 rfl (lv_at jl 2 rfl) ?_
          refine lv_l2i (v := T4.2.1.toInt32) hx hb dX6_days_87 rfl ?_
          obtain rfl := Option.some.inj hz4
          exact hRet _ _ _ _ jP jD jS dX6_days_88
        · have hz4 := itp c13 hz4
          refine lv_iload_n hx hb dX6_days_82 rfl (lv_at jl 1 rfl) ?_
          refine lv_goto (tgt := 88) hx hb dX6_days_83 (by decide) ?_
          obtain rfl := Option.some.inj hz4
          exact hRet _ _ _ _ jP jD jS dX6_days_88
      · have hz4 := itp c12 hz4
        refine lv_ldc (v := (-1000000004 : Int32)) hx hb hown (hts _ w_479) dX6_days_73 ?_
        refine lv_goto (tgt := 88) hx hb dX6_days_75 (by decide) ?_
        obtain rfl := Option.some.inj hz4
        exact hRet _ _ _ _ jP jD jS dX6_days_88
    have hL4 : ∀ (n : Nat) (v4 : (Int32 × Int64 × Int32 × Int64 × Int64 × Int64 × Int64 × (Nat → Int32) × (Nat → Int32) × Int32 × Int32 × Int32 × Int32)), loopF (fX6_days_b21 a1 M_r11 M_r15 M_x12 M_x18) n v4 = some T4 → ∀ (H : Heap) (locs : List Loc) (ls : Array Slot), va_P D vwCl (mW cI uM aM M_x1 M_x2 M_x3 M_x4 M_x5 M_x6 M_x7 M_x8 M_x12 M_x14 M_x17 M_x18 v4.2.2.2.2.2.2.2.2.2.1 v4.2.2.2.2.2.2.2.2.2.2.1 v4.2.2.2.2.2.2.2.2.2.2.2.1 v4.2.2.2.2.2.2.2.2.2.2.2.2 M_x29 M_x33 v4.2.2.2.1 v4.2.2.2.2.1 v4.2.2.2.2.2.1 v4.2.2.2.2.2.2.1 M_r0 M_r9 M_r10 M_r11 M_r13 M_r15 M_r16 v4.2.2.2.2.2.2.2.1 v4.2.2.2.2.2.2.2.2.1 M_r30 M_r31 M_r32) H → va_D A (mW cI uM aM M_x1 M_x2 M_x3 M_x4 M_x5 M_x6 M_x7 M_x8 M_x12 M_x14 M_x17 M_x18 v4.2.2.2.2.2.2.2.2.2.1 v4.2.2.2.2.2.2.2.2.2.2.1 v4.2.2.2.2.2.2.2.2.2.2.2.1 v4.2.2.2.2.2.2.2.2.2.2.2.2 M_x29 M_x33 v4.2.2.2.1 v4.2.2.2.2.1 v4.2.2.2.2.2.1 v4.2.2.2.2.2.2.1 M_r0 M_r9 M_r10 M_r11 M_r13 M_r15 M_r16 v4.2.2.2.2.2.2.2.1 v4.2.2.2.2.2.2.2.2.1 M_r30 M_r31 M_r32) → va_S A s.heap H locs → lv_has ls 6 [(0, .ref uM), (1, .int a1), (2, .int v4.1), (3, .long v4.2.1), (5, .int v4.2.2.1)] → W p l e R s m ar below meth c H locs 0 0 QQ (F0 m 21 ls []) := by
      clear jP jD jS jl hT4
      intro n
      induction n with
      | zero => intro v4 hq; exact (loop_none hq).elim
      | succ n ih =>
        intro v4 hq H locs ls jP jD jS jl
        obtain ⟨o4, hv4, hq4⟩ := loop_some hq
        clear hq
        unfold fX6_days_b21 at hv4
        refine lv_iload hx hb dX6_days_21 (lv_at jl 4 rfl) ?_
        refine lv_bipush (v := (11 : Int32)) hx hb dX6_days_23 (by decide) ?_
        refine lv_icmp_ge (tgt := 67) hx hb dX6_days_25 (by decide) (fun c5 => ?_) (fun c5 => ?_)
        · have hv4 := itp c5 hv4
          obtain rfl := Option.some.inj hv4
          obtain rfl := nxt_r hq4
          exact hE4 _ _ _ jP jD jS (lv_sub jl [1, 2, 3] rfl)
        · have hv4 := itn c5 hv4
          refine lv_aload_n hx hb dX6_days_28 rfl (lv_at jl 0 rfl) ?_
          refine lv_iconst (v := (3 : Int32)) hx hb dX6_days_29 (by decide) ?_
          refine lv_iload hx hb dX6_days_30 (lv_at jl 4 rfl) ?_
          obtain ⟨t6, hc7, hv4⟩ := bd_some hv4
          refine callW (w1 := (mW cI uM aM M_x1 M_x2 M_x3 M_x4 M_x5 M_x6 M_x7 M_x8 M_x12 M_x14 M_x17 M_x18 t6.2.2.2.2.2.2.2.1 t6.2.2.2.2.2.2.2.2.1 t6.2.2.2.2.2.2.2.2.2.1 t6.2.2.2.2.2.2.2.2.2.2 M_x29 M_x33 t6.2.1 t6.2.2.1 t6.2.2.2.1 t6.2.2.2.2.1 M_r0 M_r9 M_r10 M_r11 M_r13 M_r15 M_r16 t6.2.2.2.2.2.1 t6.2.2.2.2.2.2.1 M_r30 M_r31 M_r32)) (As := [.int (3 : Int32), .int v4.2.2.1]) (rest := []) (st1 := [.int t6.1]) 0 F (kX6_layBest l D cI cB cS uM aM M_x1 M_x2 M_x3 M_x4 M_x5 M_x6 M_x7 M_x8 M_x12 M_x14 M_x17 M_x18 v4.2.2.2.2.2.2.2.2.2.1 v4.2.2.2.2.2.2.2.2.2.2.1 v4.2.2.2.2.2.2.2.2.2.2.2.1 v4.2.2.2.2.2.2.2.2.2.2.2.2 M_x29 M_x33 v4.2.2.2.1 v4.2.2.2.2.1 v4.2.2.2.2.2.1 v4.2.2.2.2.2.2.1 M_r0 M_r9 M_r10 M_r11 M_r13 M_r15 M_r16 v4.2.2.2.2.2.2.2.1 v4.2.2.2.2.2.2.2.2.1 M_r30 M_r31 M_r32 (3 : Int32) v4.2.2.1 _ hc7 ) okX6_layBest w_561 (by decide) (by decide) ⟨Nat.zero_le _, Nat.zero_le _⟩ rfl rfl rfl jP jD jS rfl jl.1 rfl rfl (Nat.le_of_ble_eq_true rfl) dX6_days_32 (fun H locs jP jD jS => ?_)
          obtain ⟨t11, hvt11, hv4⟩ := bd_some hv4
          have hJt11 : ∀ (H : Heap) (locs : List Loc) (ls : Array Slot), va_P D vwCl (mW cI uM aM M_x1 M_x2 M_x3 M_x4 M_x5 M_x6 M_x7 M_x8 M_x12 M_x14 M_x17 M_x18 t6.2.2.2.2.2.2.2.1 t6.2.2.2.2.2.2.2.2.1 t6.2.2.2.2.2.2.2.2.2.1 t6.2.2.2.2.2.2.2.2.2.2 M_x29 M_x33 t6.2.1 t6.2.2.1 t6.2.2.2.1 t6.2.2.2.2.1 M_r0 M_r9 M_r10 M_r11 M_r13 M_r15 M_r16 t6.2.2.2.2.2.1 t6.2.2.2.2.2.2.1 M_r30 M_r31 M_r32) H → va_D A (mW cI uM aM M_x1 M_x2 M_x3 M_x4 M_x5 M_x6 M_x7 M_x8 M_x12 M_x14 M_x17 M_x18 t6.2.2.2.2.2.2.2.1 t6.2.2.2.2.2.2.2.2.1 t6.2.2.2.2.2.2.2.2.2.1 t6.2.2.2.2.2.2.2.2.2.2 M_x29 M_x33 t6.2.1 t6.2.2.1 t6.2.2.2.1 t6.2.2.2.2.1 M_r0 M_r9 M_r10 M_r11 M_r13 M_r15 M_r16 t6.2.2.2.2.2.1 t6.2.2.2.2.2.2.1 M_r30 M_r31 M_r32) → va_S A s.heap H locs → lv_has ls 6 [(0, .ref uM), (1, .int a1), (2, .int t11.1), (3, .long t11.2), (5, .int v4.2.2.1)] → W p l e R s m ar below meth c H locs 0 0 QQ (F0 m 61 ls []) := by
            clear jP jD jS jl
            intro H locs ls jP jD jS jl
            refine lv_iinc (v := (v4.2.2.1 + (1 : Int32))) (lv' := [(5, .int (v4.2.2.1 + (1 : Int32))), (0, .ref uM), (1, .int a1), (2, .int t11.1), (3, .long t11.2)]) hx hb dX6_days_61 jl (k := 4) rfl rfl (by decide) rfl (fun ls jl => ?_)
            refine lv_goto (tgt := 21) hx hb dX6_days_64 (by decide) ?_
            obtain rfl := Option.some.inj hv4
            exact ih _ (nxt_l hq4) _ _ _ jP jD jS (lv_sub jl [1, 2, 3, 4, 0] rfl)
          clear hv4
          refine lv_if_eq (tgt := 61) hx hb dX6_days_35 (by decide) (fun c8 => ?_) (fun c8 => ?_)
          · have hvt11 := itp c8 hvt11
            obtain rfl := Option.some.inj hvt11
            exact hJt11 _ _ _ jP jD jS (lv_sub jl [0, 1, 2, 3, 4] rfl)
          · have hvt11 := itn c8 hvt11
            refine lv_iload_n hx hb dX6_days_38 rfl (lv_at jl 2 rfl) ?_
            refine lv_bipush (v := (-4 : Int32)) hx hb dX6_days_39 (by decide) ?_
            refine lv_icmp_eq (tgt := 53) hx hb dX6_days_41 (by decide) (fun c9 => ?_) (fun c9 => ?_)
            · have hvt11 := itp c9 hvt11
              refine lv_iload hx hb dX6_days_53 (lv_at jl 4 rfl) ?_
              refine lv_istore_n (lv' := [(2, .int v4.2.2.1), (0, .ref uM), (1, .int a1), (3, .long v4.2.1), (5, .int v4.2.2.1)]) hx hb dX6_days_55 rfl jl (by decide) rfl (fun ls jl => ?_)
              refine lv_aload_n hx hb dX6_days_56 rfl (lv_at jl 1 rfl) ?_
              refine va_get (D := D) (ci := 6) (v := .long t6.2.2.2.2.1) (C := RX6) (T := TX6) (N := 34) hx hb hts in6 hown jK.1 jP 0 rfl rfl 28 (by decide) (hts _ w_560) (fun _ h9 => h9) rfl dX6_days_57 ?_
              refine lv_lstore_n (lv' := [(3, .long t6.2.2.2.2.1), (2, .int v4.2.2.1), (0, .ref uM), (1, .int a1), (5, .int v4.2.2.1)]) hx hb dX6_days_60 rfl jl (by decide) rfl (fun ls jl => ?_)
              obtain rfl := Option.some.inj hvt11
              exact hJt11 _ _ _ jP jD jS (lv_sub jl [2, 3, 1, 0, 4] rfl)
            · have hvt11 := itn c9 hvt11
              refine lv_aload_n hx hb dX6_days_44 rfl (lv_at jl 0 rfl) ?_
              refine va_get (D := D) (ci := 6) (v := .long t6.2.2.2.2.1) (C := RX6) (T := TX6) (N := 34) hx hb hts in6 hown jK.1 jP 0 rfl rfl 28 (by decide) (hts _ w_560) (fun _ h9 => h9) rfl dX6_days_45 ?_
              refine lv_lload_n hx hb dX6_days_48 rfl (lv_at jl 3 rfl) ?_
              refine W.lcmp hx hb dX6_days_49 ?_
              refine lv_if_le (tgt := 61) hx hb dX6_days_50 (by decide) (fun c10 => ?_) (fun c10 => ?_)
              · have hvt11 := itp c10 hvt11
                obtain rfl := Option.some.inj hvt11
                exact hJt11 _ _ _ jP jD jS (lv_sub jl [0, 1, 2, 3, 4] rfl)
              · have hvt11 := itn c10 hvt11
                refine lv_iload hx hb dX6_days_53 (lv_at jl 4 rfl) ?_
                refine lv_istore_n (lv' := [(2, .int v4.2.2.1), (0, .ref uM), (1, .int a1), (3, .long v4.2.1), (5, .int v4.2.2.1)]) hx hb dX6_days_55 rfl jl (by decide) rfl (fun ls jl => ?_)
                refine lv_aload_n hx hb dX6_days_56 rfl (lv_at jl 1 rfl) ?_
                refine va_get (D := D) (ci := 6) (v := .long t6.2.2.2.2.1) (C := RX6) (T := TX6) (N := 34) hx hb hts in6 hown jK.1 jP 0 rfl rfl 28 (by decide) (hts _ w_560) (fun _ h9 => h9) rfl dX6_days_57 ?_
                refine lv_lstore_n (lv' := [(3, .long t6.2.2.2.2.1), (2, .int v4.2.2.1), (0, .ref uM), (1, .int a1), (5, .int v4.2.2.1)]) hx hb dX6_days_60 rfl jl (by decide) rfl (fun ls jl => ?_)
                obtain rfl := Option.some.inj hvt11
                exact hJt11 _ _ _ jP jD jS (lv_sub jl [2, 3, 1, 0, 4] rfl)
    exact hL4 1000 _ hT4 _ _ _ jP jD jS (lv_sub jl [3, 4, 2, 1, 0] rfl)
  · have h := itp c3 h
    refine lv_ldc (v := (-1000000000 : Int32)) hx hb hown (hts _ w_478) dX6_days_10 ?_
    obtain rfl := Option.some.inj h
    exact hRet _ _ _ _ jP jD jS dX6_days_12
theorem okX6_keep : okV yX6_keep cX6_keep 3 (some .int) 2 := ⟨w_640, w_641, w_642, w_5, by decide, by decide, by decide +kernel⟩
def fX6_keep (a1 : Int32) (a2 : Int32) : Option Int32 :=
  bd (fX6_in a1.toInt64 (1 : Int64) (99 : Int64)) (fun t1 => if t1 = (0 : Int32) then (some (-1 : Int32)) else (bd (fX6_in a2.toInt64 (0 : Int64) (999 : Int64)) (fun t4 => if t4 = (0 : Int32) then (some (-1 : Int32)) else (ckN a1 (some (((a2 + a1) - (1 : Int32)) / a1))))))
set_option maxRecDepth 100000 in
set_option maxHeartbeats 4000000 in
theorem kX6_keep (l : Launch) (D : va_G) (cI cB cS : ClassId) (uM : Nat) (aM : Nat → Nat) (M_x1 : Int32) (M_x2 : Int32) (M_x3 : Int32) (M_x4 : Int32) (M_x5 : Int32) (M_x6 : Int32) (M_x7 : Int32) (M_x8 : Int32) (M_x12 : Int32) (M_x14 : Int32) (M_x17 : Int32) (M_x18 : Int32) (M_x19 : Int32) (M_x20 : Int32) (M_x23 : Int32) (M_x27 : Int32) (M_x29 : Int32) (M_x33 : Int32) (M_g24 : Int64) (M_g25 : Int64) (M_g26 : Int64) (M_g28 : Int64) (M_r0 : (Nat → Int32)) (M_r9 : (Nat → Int32)) (M_r10 : (Nat → Int32)) (M_r11 : (Nat → Int32)) (M_r13 : (Nat → Int32)) (M_r15 : (Nat → Int32)) (M_r16 : (Nat → Int32)) (M_r21 : (Nat → Int32)) (M_r22 : (Nat → Int32)) (M_r30 : (Nat → Int32)) (M_r31 : (Nat → Int32)) (M_r32 : (Nat → Int32)) (a1 : Int32) (a2 : Int32) (z : Int32) (h : fX6_keep a1 a2 = some z) : Mt l yX6_keep cX6_keep 3 (some .int) 1 25 D cI cB cS (mW cI uM aM M_x1 M_x2 M_x3 M_x4 M_x5 M_x6 M_x7 M_x8 M_x12 M_x14 M_x17 M_x18 M_x19 M_x20 M_x23 M_x27 M_x29 M_x33 M_g24 M_g25 M_g26 M_g28 M_r0 M_r9 M_r10 M_r11 M_r13 M_r15 M_r16 M_r21 M_r22 M_r30 M_r31 M_r32) (mW cI uM aM M_x1 M_x2 M_x3 M_x4 M_x5 M_x6 M_x7 M_x8 M_x12 M_x14 M_x17 M_x18 M_x19 M_x20 M_x23 M_x27 M_x29 M_x33 M_g24 M_g25 M_g26 M_g28 M_r0 M_r9 M_r10 M_r11 M_r13 M_r15 M_r16 M_r21 M_r22 M_r30 M_r31 M_r32) [.ref uM, .int a1, .int a2] (some (.int z)) := by
  refine entryI (by decide +kernel) rfl (Nat.le_of_ble_eq_true rfl) ?_
  intro p e s m below meth c A ls QQ R ar F hRet jP jD jS jl
  obtain ⟨hx, hb, hml, hown, hts, jK, hA, hf1, hf2⟩ := id F
  have jl : lv_has ls 3 [(0, .ref uM), (1, .int a1), (2, .int a2)] := jl
  unfold fX6_keep at h
  refine lv_iload_n hx hb dX6_keep_0 rfl (lv_at jl 1 rfl) ?_
  refine lv_i2l (v := a1.toInt64) hx hb dX6_keep_1 rfl ?_
  refine lv_lconst (v := (1 : Int64)) hx hb dX6_keep_2 (by decide) ?_
  refine lv_ldc2 (v := (99 : Int64)) hx hb hown (hts _ w_289) dX6_keep_3 ?_
  obtain ⟨t1, hc2, h⟩ := bd_some h
  refine call0 (As := [.long a1.toInt64, .long (1 : Int64), .long (99 : Int64)]) (rest := []) (st1 := [.int t1]) F (kX6_in l D cI cB cS  a1.toInt64 (1 : Int64) (99 : Int64) _ hc2 ) okX6_in w_112 (by decide) (by decide) ⟨Nat.zero_le _, Nat.zero_le _⟩ jP jD jS rfl jl.1 rfl rfl (Nat.le_of_ble_eq_true rfl) dX6_keep_6 (fun H locs jP jD jS => ?_)
  refine lv_if_eq (tgt := 34) hx hb dX6_keep_9 (by decide) (fun c3 => ?_) (fun c3 => ?_)
  · have h := itp c3 h
    refine lv_iconst (v := (-1 : Int32)) hx hb dX6_keep_34 (by decide) ?_
    obtain rfl := Option.some.inj h
    exact hRet _ _ _ _ jP jD jS dX6_keep_35
  · have h := itn c3 h
    refine lv_iload_n hx hb dX6_keep_12 rfl (lv_at jl 2 rfl) ?_
    refine lv_i2l (v := a2.toInt64) hx hb dX6_keep_13 rfl ?_
    refine lv_lconst (v := (0 : Int64)) hx hb dX6_keep_14 (by decide) ?_
    refine lv_ldc2 (v := (999 : Int64)) hx hb hown (hts _ w_643) dX6_keep_15 ?_
    obtain ⟨t4, hc5, h⟩ := bd_some h
    refine call0 (As := [.long a2.toInt64, .long (0 : Int64), .long (999 : Int64)]) (rest := []) (st1 := [.int t4]) F (kX6_in l D cI cB cS  a2.toInt64 (0 : Int64) (999 : Int64) _ hc5 ) okX6_in w_112 (by decide) (by decide) ⟨Nat.zero_le _, Nat.zero_le _⟩ jP jD jS rfl jl.1 rfl rfl (Nat.le_of_ble_eq_true rfl) dX6_keep_18 (fun H locs jP jD jS => ?_)
    refine lv_if_eq (tgt := 34) hx hb dX6_keep_21 (by decide) (fun c6 => ?_) (fun c6 => ?_)
    · have h := itp c6 h
      refine lv_iconst (v := (-1 : Int32)) hx hb dX6_keep_34 (by decide) ?_
      obtain rfl := Option.some.inj h
      exact hRet _ _ _ _ jP jD jS dX6_keep_35
    · have h := itn c6 h
      refine lv_iload_n hx hb dX6_keep_24 rfl (lv_at jl 2 rfl) ?_
      refine lv_iload_n hx hb dX6_keep_25 rfl (lv_at jl 1 rfl) ?_
      refine lv_iadd hx hb dX6_keep_26 ?_
      refine lv_iconst (v := (1 : Int32)) hx hb dX6_keep_27 (by decide) ?_
      refine lv_isub hx hb dX6_keep_28 ?_
      refine lv_iload_n hx hb dX6_keep_29 rfl (lv_at jl 1 rfl) ?_
      obtain ⟨hne, h⟩ := ckN_some h
      refine lv_idiv hx hb dX6_keep_30 hne ?_
      refine lv_goto (tgt := 35) hx hb dX6_keep_31 (by decide) ?_
      obtain rfl := Option.some.inj h
      exact hRet _ _ _ _ jP jD jS dX6_keep_35
theorem okX6_edge : okV yX6_edge cX6_edge 5 (some .int) 1 := ⟨w_655, w_656, w_657, w_5, by decide, by decide, by decide +kernel⟩
def fX6_edge_b24 (l1 : Int32) (l2 : Int32) (M_r15 : (Nat → Int32)) (M_x12 : Int32) (M_x18 : Int32) (v1 : (Int32 × Int32 × Int64 × Int64 × Int64 × (Nat → Int32) × (Nat → Int32) × (Nat → Int32) × Int32 × Int32 × Int32)) : Option ((Int32 × Int32 × Int64 × Int64 × Int64 × (Nat → Int32) × (Nat → Int32) × (Nat → Int32) × Int32 × Int32 × Int32) ⊕ (Int32 × Int64 × Int64 × Int64 × (Nat → Int32) × (Nat → Int32) × (Nat → Int32) × Int32 × Int32 × Int32)) :=
  if v1.2.1 < (0 : Int32) then (some (.inr (v1.1, v1.2.2.1, v1.2.2.2.1, v1.2.2.2.2.1, v1.2.2.2.2.2.1, v1.2.2.2.2.2.2.1, v1.2.2.2.2.2.2.2.1, v1.2.2.2.2.2.2.2.2.1, v1.2.2.2.2.2.2.2.2.2.1, v1.2.2.2.2.2.2.2.2.2.2))) else (ckI (((5 : Int32) * l1) + (2 : Int32)) 40 (bd (fX6_goesOn v1.2.2.1 v1.2.2.2.1 v1.2.2.2.2.1 (upd v1.2.2.2.2.2.1 (((5 : Int32) * l1) + (2 : Int32)).toNatClampNeg v1.2.1) (M_r15) v1.2.2.2.2.2.2.1 v1.2.2.2.2.2.2.2.1 (M_x12) (M_x18) v1.2.2.2.2.2.2.2.2.1 v1.2.2.2.2.2.2.2.2.2.1 v1.2.2.2.2.2.2.2.2.2.2 (0 : Int32) (1 : Int32) ((1 : Int32) <<< (l1 &&& 31))) (fun t1 => bd (if t1.1 = (0 : Int32) then some v1.1 else some v1.2.1) (fun t2 => some (.inl (t2, (v1.2.1 + (-1 : Int32)), t1.2.1, t1.2.2.1, t1.2.2.2.1, (upd v1.2.2.2.2.2.1 (((5 : Int32) * l1) + (2 : Int32)).toNatClampNeg v1.2.1), t1.2.2.2.2.1, t1.2.2.2.2.2.1, t1.2.2.2.2.2.2.1, t1.2.2.2.2.2.2.2.1, t1.2.2.2.2.2.2.2.2))))))
def fX6_edge (M_g24 : Int64) (M_g25 : Int64) (M_g26 : Int64) (M_r11 : (Nat → Int32)) (M_r15 : (Nat → Int32)) (M_r21 : (Nat → Int32)) (M_r22 : (Nat → Int32)) (M_x12 : Int32) (M_x18 : Int32) (M_x19 : Int32) (M_x20 : Int32) (M_x23 : Int32) (a1 : Int32) : Option (Int32 × Int64 × Int64 × Int64 × (Nat → Int32) × (Nat → Int32) × (Nat → Int32) × Int32 × Int32 × Int32) :=
  bd (fX6_isSort (M_x12) a1) (fun t1 => if t1 = (0 : Int32) then (some ((-1 : Int32), M_g24, M_g25, M_g26, M_r11, M_r21, M_r22, M_x19, M_x20, M_x23)) else (bd (fX6_its (M_r11) a1 (2 : Int32)) (fun t4 => bd (loopF (fX6_edge_b24 a1 t4 M_r15 M_x12 M_x18) 1000 ((-4 : Int32), (99 : Int32), M_g24, M_g25, M_g26, M_r11, M_r21, M_r22, M_x19, M_x20, M_x23)) (fun T6 => ckI (((5 : Int32) * a1) + (2 : Int32)) 40 (some (T6.1, T6.2.1, T6.2.2.1, T6.2.2.2.1, (upd T6.2.2.2.2.1 (((5 : Int32) * a1) + (2 : Int32)).toNatClampNeg t4), T6.2.2.2.2.2.1, T6.2.2.2.2.2.2.1, T6.2.2.2.2.2.2.2.1, T6.2.2.2.2.2.2.2.2.1, T6.2.2.2.2.2.2.2.2.2))))))
set_option maxRecDepth 100000 in
set_option maxHeartbeats 4000000 in
theorem kX6_edge (l : Launch) (D : va_G) (cI cB cS : ClassId) (uM : Nat) (aM : Nat → Nat) (M_x1 : Int32) (M_x2 : Int32) (M_x3 : Int32) (M_x4 : Int32) (M_x5 : Int32) (M_x6 : Int32) (M_x7 : Int32) (M_x8 : Int32) (M_x12 : Int32) (M_x14 : Int32) (M_x17 : Int32) (M_x18 : Int32) (M_x19 : Int32) (M_x20 : Int32) (M_x23 : Int32) (M_x27 : Int32) (M_x29 : Int32) (M_x33 : Int32) (M_g24 : Int64) (M_g25 : Int64) (M_g26 : Int64) (M_g28 : Int64) (M_r0 : (Nat → Int32)) (M_r9 : (Nat → Int32)) (M_r10 : (Nat → Int32)) (M_r11 : (Nat → Int32)) (M_r13 : (Nat → Int32)) (M_r15 : (Nat → Int32)) (M_r16 : (Nat → Int32)) (M_r21 : (Nat → Int32)) (M_r22 : (Nat → Int32)) (M_r30 : (Nat → Int32)) (M_r31 : (Nat → Int32)) (M_r32 : (Nat → Int32)) (a1 : Int32) (z : (Int32 × Int64 × Int64 × Int64 × (Nat → Int32) × (Nat → Int32) × (Nat → Int32) × Int32 × Int32 × Int32)) (h : fX6_edge M_g24 M_g25 M_g26 M_r11 M_r15 M_r21 M_r22 M_x12 M_x18 M_x19 M_x20 M_x23 a1 = some z) : Mt l yX6_edge cX6_edge 5 (some .int) 6 140 D cI cB cS (mW cI uM aM M_x1 M_x2 M_x3 M_x4 M_x5 M_x6 M_x7 M_x8 M_x12 M_x14 M_x17 M_x18 M_x19 M_x20 M_x23 M_x27 M_x29 M_x33 M_g24 M_g25 M_g26 M_g28 M_r0 M_r9 M_r10 M_r11 M_r13 M_r15 M_r16 M_r21 M_r22 M_r30 M_r31 M_r32) (mW cI uM aM M_x1 M_x2 M_x3 M_x4 M_x5 M_x6 M_x7 M_x8 M_x12 M_x14 M_x17 M_x18 z.2.2.2.2.2.2.2.1 z.2.2.2.2.2.2.2.2.1 z.2.2.2.2.2.2.2.2.2 M_x27 M_x29 M_x33 z.2.1 z.2.2.1 z.2.2.2.1 M_g28 M_r0 M_r9 M_r10 z.2.2.2.2.1 M_r13 M_r15 M_r16 z.2.2.2.2.2.1 z.2.2.2.2.2.2.1 M_r30 M_r31 M_r32) [.ref uM, .int a1] (some (.int z.1)) := by
  refine entryI (by decide +kernel) rfl (Nat.le_of_ble_eq_true rfl) ?_
  intro p e s m below meth c A ls QQ R ar F hRet jP jD jS jl
  obtain ⟨hx, hb, hml, hown, hts, jK, hA, hf1, hf2⟩ := id F
  have jl : lv_has ls 5 [(0, .ref uM), (1, .int a1)] := jl
  unfold fX6_edge at h
  refine lv_aload_n hx hb dX6_edge_0 rfl (lv_at jl 0 rfl) ?_
  refine lv_iload_n hx hb dX6_edge_1 rfl (lv_at jl 1 rfl) ?_
  obtain ⟨t1, hc2, h⟩ := bd_some h
  refine callW (w1 := (mW cI uM aM M_x1 M_x2 M_x3 M_x4 M_x5 M_x6 M_x7 M_x8 M_x12 M_x14 M_x17 M_x18 M_x19 M_x20 M_x23 M_x27 M_x29 M_x33 M_g24 M_g25 M_g26 M_g28 M_r0 M_r9 M_r10 M_r11 M_r13 M_r15 M_r16 M_r21 M_r22 M_r30 M_r31 M_r32)) (As := [.int a1]) (rest := []) (st1 := [.int t1]) 0 F (kX6_isSort l D cI cB cS uM aM M_x1 M_x2 M_x3 M_x4 M_x5 M_x6 M_x7 M_x8 M_x12 M_x14 M_x17 M_x18 M_x19 M_x20 M_x23 M_x27 M_x29 M_x33 M_g24 M_g25 M_g26 M_g28 M_r0 M_r9 M_r10 M_r11 M_r13 M_r15 M_r16 M_r21 M_r22 M_r30 M_r31 M_r32 a1 _ hc2 ) okX6_isSort w_316 (by decide) (by decide) ⟨Nat.zero_le _, Nat.zero_le _⟩ rfl rfl rfl jP jD jS rfl jl.1 rfl rfl (Nat.le_of_ble_eq_true rfl) dX6_edge_2 (fun H locs jP jD jS => ?_)
  refine lv_if_ne (tgt := 10) hx hb dX6_edge_5 (by decide) (fun c3 => ?_) (fun c3 => ?_)
  · have h := itn c3 h
    refine lv_aload_n hx hb dX6_edge_10 rfl (lv_at jl 0 rfl) ?_
    refine lv_iload_n hx hb dX6_edge_11 rfl (lv_at jl 1 rfl) ?_
    refine lv_iconst (v := (2 : Int32)) hx hb dX6_edge_12 (by decide) ?_
    obtain ⟨t4, hc5, h⟩ := bd_some h
    refine callW (w1 := (mW cI uM aM M_x1 M_x2 M_x3 M_x4 M_x5 M_x6 M_x7 M_x8 M_x12 M_x14 M_x17 M_x18 M_x19 M_x20 M_x23 M_x27 M_x29 M_x33 M_g24 M_g25 M_g26 M_g28 M_r0 M_r9 M_r10 M_r11 M_r13 M_r15 M_r16 M_r21 M_r22 M_r30 M_r31 M_r32)) (As := [.int a1, .int (2 : Int32)]) (rest := []) (st1 := [.int t4]) 0 F (kX6_its l D cI cB cS uM aM M_x1 M_x2 M_x3 M_x4 M_x5 M_x6 M_x7 M_x8 M_x12 M_x14 M_x17 M_x18 M_x19 M_x20 M_x23 M_x27 M_x29 M_x33 M_g24 M_g25 M_g26 M_g28 M_r0 M_r9 M_r10 M_r11 M_r13 M_r15 M_r16 M_r21 M_r22 M_r30 M_r31 M_r32 a1 (2 : Int32) _ hc5 ) okX6_its w_320 (by decide) (by decide) ⟨Nat.zero_le _, Nat.zero_le _⟩ rfl rfl rfl jP jD jS rfl jl.1 rfl rfl (Nat.le_of_ble_eq_true rfl) dX6_edge_13 (fun H locs jP jD jS => ?_)
    refine lv_istore_n (lv' := [(2, .int t4), (0, .ref uM), (1, .int a1)]) hx hb dX6_edge_16 rfl jl (by decide) rfl (fun ls jl => ?_)
    refine lv_bipush (v := (-4 : Int32)) hx hb dX6_edge_17 (by decide) ?_
    refine lv_istore_n (lv' := [(3, .int (-4 : Int32)), (2, .int t4), (0, .ref uM), (1, .int a1)]) hx hb dX6_edge_19 rfl jl (by decide) rfl (fun ls jl => ?_)
    refine lv_bipush (v := (99 : Int32)) hx hb dX6_edge_20 (by decide) ?_
    refine lv_istore (lv' := [(4, .int (99 : Int32)), (3, .int (-4 : Int32)), (2, .int t4), (0, .ref uM), (1, .int a1)]) hx hb dX6_edge_22 jl (by decide) rfl (fun ls jl => ?_)
    obtain ⟨T6, hT6, hz6⟩ := bd_some h
    clear h
    have hE6 : ∀ (H : Heap) (locs : List Loc) (ls : Array Slot), va_P D vwCl (mW cI uM aM M_x1 M_x2 M_x3 M_x4 M_x5 M_x6 M_x7 M_x8 M_x12 M_x14 M_x17 M_x18 T6.2.2.2.2.2.2.2.1 T6.2.2.2.2.2.2.2.2.1 T6.2.2.2.2.2.2.2.2.2 M_x27 M_x29 M_x33 T6.2.1 T6.2.2.1 T6.2.2.2.1 M_g28 M_r0 M_r9 M_r10 T6.2.2.2.2.1 M_r13 M_r15 M_r16 T6.2.2.2.2.2.1 T6.2.2.2.2.2.2.1 M_r30 M_r31 M_r32) H → va_D A (mW cI uM aM M_x1 M_x2 M_x3 M_x4 M_x5 M_x6 M_x7 M_x8 M_x12 M_x14 M_x17 M_x18 T6.2.2.2.2.2.2.2.1 T6.2.2.2.2.2.2.2.2.1 T6.2.2.2.2.2.2.2.2.2 M_x27 M_x29 M_x33 T6.2.1 T6.2.2.1 T6.2.2.2.1 M_g28 M_r0 M_r9 M_r10 T6.2.2.2.2.1 M_r13 M_r15 M_r16 T6.2.2.2.2.2.1 T6.2.2.2.2.2.2.1 M_r30 M_r31 M_r32) → va_S A s.heap H locs → lv_has ls 5 [(0, .ref uM), (1, .int a1), (2, .int t4), (3, .int T6.1)] → W p l e R s m ar below meth c H locs 0 0 QQ (F0 m 66 ls []) := by
      clear jP jD jS jl
      intro H locs ls jP jD jS jl
      refine lv_aload_n hx hb dX6_edge_66 rfl (lv_at jl 0 rfl) ?_
      refine va_get (D := D) (ci := 6) (v := .ref (aM 11)) (C := RX6) (T := TX6) (N := 34) hx hb hts in6 hown jK.1 jP 0 rfl rfl 11 (by decide) (hts _ w_80) (fun _ h9 => h9) rfl dX6_edge_67 ?_
      refine lv_iconst (v := (5 : Int32)) hx hb dX6_edge_70 (by decide) ?_
      refine lv_iload_n hx hb dX6_edge_71 rfl (lv_at jl 1 rfl) ?_
      refine lv_imul hx hb dX6_edge_72 ?_
      refine lv_iconst (v := (2 : Int32)) hx hb dX6_edge_73 (by decide) ?_
      refine lv_iadd hx hb dX6_edge_74 ?_
      refine lv_iload_n hx hb dX6_edge_75 rfl (lv_at jl 2 rfl) ?_
      obtain ⟨hin, hz6⟩ := ckI_some hz6
      refine va_iast (f := T6.2.2.2.2.1) hx hb jK.1 jP jD jS 4 0 rfl rfl hin dX6_edge_76 (fun H locs jP jD jS => ?_)
      have jP : va_P D vwCl (mW cI uM aM M_x1 M_x2 M_x3 M_x4 M_x5 M_x6 M_x7 M_x8 M_x12 M_x14 M_x17 M_x18 T6.2.2.2.2.2.2.2.1 T6.2.2.2.2.2.2.2.2.1 T6.2.2.2.2.2.2.2.2.2 M_x27 M_x29 M_x33 T6.2.1 T6.2.2.1 T6.2.2.2.1 M_g28 M_r0 M_r9 M_r10 (upd T6.2.2.2.2.1 (((5 : Int32) * a1) + (2 : Int32)).toNatClampNeg t4) M_r13 M_r15 M_r16 T6.2.2.2.2.2.1 T6.2.2.2.2.2.2.1 M_r30 M_r31 M_r32) H := jP
      have jD : va_D A (mW cI uM aM M_x1 M_x2 M_x3 M_x4 M_x5 M_x6 M_x7 M_x8 M_x12 M_x14 M_x17 M_x18 T6.2.2.2.2.2.2.2.1 T6.2.2.2.2.2.2.2.2.1 T6.2.2.2.2.2.2.2.2.2 M_x27 M_x29 M_x33 T6.2.1 T6.2.2.1 T6.2.2.2.1 M_g28 M_r0 M_r9 M_r10 (upd T6.2.2.2.2.1 (((5 : Int32) * a1) + (2 : Int32)).toNatClampNeg t4) M_r13 M_r15 M_r16 T6.2.2.2.2.2.1 T6.2.2.2.2.2.2.1 M_r30 M_r31 M_r32) := jD
      refine lv_iload_n hx hb dX6_edge_77 rfl (lv_at jl 3 rfl) ?_
      obtain rfl := Option.some.inj hz6
      exact hRet _ _ _ _ jP jD jS dX6_edge_78
    have hL6 : ∀ (n : Nat) (v6 : (Int32 × Int32 × Int64 × Int64 × Int64 × (Nat → Int32) × (Nat → Int32) × (Nat → Int32) × Int32 × Int32 × Int32)), loopF (fX6_edge_b24 a1 t4 M_r15 M_x12 M_x18) n v6 = some T6 → ∀ (H : Heap) (locs : List Loc) (ls : Array Slot), va_P D vwCl (mW cI uM aM M_x1 M_x2 M_x3 M_x4 M_x5 M_x6 M_x7 M_x8 M_x12 M_x14 M_x17 M_x18 v6.2.2.2.2.2.2.2.2.1 v6.2.2.2.2.2.2.2.2.2.1 v6.2.2.2.2.2.2.2.2.2.2 M_x27 M_x29 M_x33 v6.2.2.1 v6.2.2.2.1 v6.2.2.2.2.1 M_g28 M_r0 M_r9 M_r10 v6.2.2.2.2.2.1 M_r13 M_r15 M_r16 v6.2.2.2.2.2.2.1 v6.2.2.2.2.2.2.2.1 M_r30 M_r31 M_r32) H → va_D A (mW cI uM aM M_x1 M_x2 M_x3 M_x4 M_x5 M_x6 M_x7 M_x8 M_x12 M_x14 M_x17 M_x18 v6.2.2.2.2.2.2.2.2.1 v6.2.2.2.2.2.2.2.2.2.1 v6.2.2.2.2.2.2.2.2.2.2 M_x27 M_x29 M_x33 v6.2.2.1 v6.2.2.2.1 v6.2.2.2.2.1 M_g28 M_r0 M_r9 M_r10 v6.2.2.2.2.2.1 M_r13 M_r15 M_r16 v6.2.2.2.2.2.2.1 v6.2.2.2.2.2.2.2.1 M_r30 M_r31 M_r32) → va_S A s.heap H locs → lv_has ls 5 [(0, .ref uM), (1, .int a1), (2, .int t4), (3, .int v6.1), (4, .int v6.2.1)] → W p l e R s m ar below meth c H locs 0 0 QQ (F0 m 24 ls []) := by
      clear jP jD jS jl hT6
      intro n
      induction n with
      | zero => intro v6 hq; exact (loop_none hq).elim
      | succ n ih =>
        intro v6 hq H locs ls jP jD jS jl
        obtain ⟨o6, hv6, hq6⟩ := loop_some hq
        clear hq
        unfold fX6_edge_b24 at hv6
        refine lv_iload hx hb dX6_edge_24 (lv_at jl 4 rfl) ?_
        refine lv_if_lt (tgt := 66) hx hb dX6_edge_26 (by decide) (fun c7 => ?_) (fun c7 => ?_)
        · have hv6 := itp c7 hv6
          obtain rfl := Option.some.inj hv6
          obtain rfl := nxt_r hq6
          exact hE6 _ _ _ jP jD jS (lv_sub jl [0, 1, 2, 3] rfl)
        · have hv6 := itn c7 hv6
          refine lv_aload_n hx hb dX6_edge_29 rfl (lv_at jl 0 rfl) ?_
          refine va_get (D := D) (ci := 6) (v := .ref (aM 11)) (C := RX6) (T := TX6) (N := 34) hx hb hts in6 hown jK.1 jP 0 rfl rfl 11 (by decide) (hts _ w_80) (fun _ h9 => h9) rfl dX6_edge_30 ?_
          refine lv_iconst (v := (5 : Int32)) hx hb dX6_edge_33 (by decide) ?_
          refine lv_iload_n hx hb dX6_edge_34 rfl (lv_at jl 1 rfl) ?_
          refine lv_imul hx hb dX6_edge_35 ?_
          refine lv_iconst (v := (2 : Int32)) hx hb dX6_edge_36 (by decide) ?_
          refine lv_iadd hx hb dX6_edge_37 ?_
          refine lv_iload hx hb dX6_edge_38 (lv_at jl 4 rfl) ?_
          obtain ⟨hin, hv6⟩ := ckI_some hv6
          refine va_iast (f := v6.2.2.2.2.2.1) hx hb jK.1 jP jD jS 4 0 rfl rfl hin dX6_edge_40 (fun H locs jP jD jS => ?_)
          have jP : va_P D vwCl (mW cI uM aM M_x1 M_x2 M_x3 M_x4 M_x5 M_x6 M_x7 M_x8 M_x12 M_x14 M_x17 M_x18 v6.2.2.2.2.2.2.2.2.1 v6.2.2.2.2.2.2.2.2.2.1 v6.2.2.2.2.2.2.2.2.2.2 M_x27 M_x29 M_x33 v6.2.2.1 v6.2.2.2.1 v6.2.2.2.2.1 M_g28 M_r0 M_r9 M_r10 (upd v6.2.2.2.2.2.1 (((5 : Int32) * a1) + (2 : Int32)).toNatClampNeg v6.2.1) M_r13 M_r15 M_r16 v6.2.2.2.2.2.2.1 v6.2.2.2.2.2.2.2.1 M_r30 M_r31 M_r32) H := jP
          have jD : va_D A (mW cI uM aM M_x1 M_x2 M_x3 M_x4 M_x5 M_x6 M_x7 M_x8 M_x12 M_x14 M_x17 M_x18 v6.2.2.2.2.2.2.2.2.1 v6.2.2.2.2.2.2.2.2.2.1 v6.2.2.2.2.2.2.2.2.2.2 M_x27 M_x29 M_x33 v6.2.2.1 v6.2.2.2.1 v6.2.2.2.2.1 M_g28 M_r0 M_r9 M_r10 (upd v6.2.2.2.2.2.1 (((5 : Int32) * a1) + (2 : Int32)).toNatClampNeg v6.2.1) M_r13 M_r15 M_r16 v6.2.2.2.2.2.2.1 v6.2.2.2.2.2.2.2.1 M_r30 M_r31 M_r32) := jD
          refine lv_aload_n hx hb dX6_edge_41 rfl (lv_at jl 0 rfl) ?_
          refine lv_iconst (v := (0 : Int32)) hx hb dX6_edge_42 (by decide) ?_
          refine lv_iconst (v := (1 : Int32)) hx hb dX6_edge_43 (by decide) ?_
          refine lv_iconst (v := (1 : Int32)) hx hb dX6_edge_44 (by decide) ?_
          refine lv_iload_n hx hb dX6_edge_45 rfl (lv_at jl 1 rfl) ?_
          refine lv_ishl hx hb dX6_edge_46 ?_
          obtain ⟨t8, hc9, hv6⟩ := bd_some hv6
          refine callW (w1 := (mW cI uM aM M_x1 M_x2 M_x3 M_x4 M_x5 M_x6 M_x7 M_x8 M_x12 M_x14 M_x17 M_x18 t8.2.2.2.2.2.2.1 t8.2.2.2.2.2.2.2.1 t8.2.2.2.2.2.2.2.2 M_x27 M_x29 M_x33 t8.2.1 t8.2.2.1 t8.2.2.2.1 M_g28 M_r0 M_r9 M_r10 (upd v6.2.2.2.2.2.1 (((5 : Int32) * a1) + (2 : Int32)).toNatClampNeg v6.2.1) M_r13 M_r15 M_r16 t8.2.2.2.2.1 t8.2.2.2.2.2.1 M_r30 M_r31 M_r32)) (As := [.int (0 : Int32), .int (1 : Int32), .int ((1 : Int32) <<< (a1 &&& 31))]) (rest := []) (st1 := [.int t8.1]) 0 F (kX6_goesOn l D cI cB cS uM aM M_x1 M_x2 M_x3 M_x4 M_x5 M_x6 M_x7 M_x8 M_x12 M_x14 M_x17 M_x18 v6.2.2.2.2.2.2.2.2.1 v6.2.2.2.2.2.2.2.2.2.1 v6.2.2.2.2.2.2.2.2.2.2 M_x27 M_x29 M_x33 v6.2.2.1 v6.2.2.2.1 v6.2.2.2.2.1 M_g28 M_r0 M_r9 M_r10 (upd v6.2.2.2.2.2.1 (((5 : Int32) * a1) + (2 : Int32)).toNatClampNeg v6.2.1) M_r13 M_r15 M_r16 v6.2.2.2.2.2.2.1 v6.2.2.2.2.2.2.2.1 M_r30 M_r31 M_r32 (0 : Int32) (1 : Int32) ((1 : Int32) <<< (a1 &&& 31)) _ hc9 ) okX6_goesOn w_619 (by decide) (by decide) ⟨Nat.zero_le _, Nat.zero_le _⟩ rfl rfl rfl jP jD jS rfl jl.1 rfl rfl (Nat.le_of_ble_eq_true rfl) dX6_edge_47 (fun H locs jP jD jS => ?_)
          obtain ⟨t11, hvt11, hv6⟩ := bd_some hv6
          have hJt11 : ∀ (H : Heap) (locs : List Loc) (ls : Array Slot), va_P D vwCl (mW cI uM aM M_x1 M_x2 M_x3 M_x4 M_x5 M_x6 M_x7 M_x8 M_x12 M_x14 M_x17 M_x18 t8.2.2.2.2.2.2.1 t8.2.2.2.2.2.2.2.1 t8.2.2.2.2.2.2.2.2 M_x27 M_x29 M_x33 t8.2.1 t8.2.2.1 t8.2.2.2.1 M_g28 M_r0 M_r9 M_r10 (upd v6.2.2.2.2.2.1 (((5 : Int32) * a1) + (2 : Int32)).toNatClampNeg v6.2.1) M_r13 M_r15 M_r16 t8.2.2.2.2.1 t8.2.2.2.2.2.1 M_r30 M_r31 M_r32) H → va_D A (mW cI uM aM M_x1 M_x2 M_x3 M_x4 M_x5 M_x6 M_x7 M_x8 M_x12 M_x14 M_x17 M_x18 t8.2.2.2.2.2.2.1 t8.2.2.2.2.2.2.2.1 t8.2.2.2.2.2.2.2.2 M_x27 M_x29 M_x33 t8.2.1 t8.2.2.1 t8.2.2.2.1 M_g28 M_r0 M_r9 M_r10 (upd v6.2.2.2.2.2.1 (((5 : Int32) * a1) + (2 : Int32)).toNatClampNeg v6.2.1) M_r13 M_r15 M_r16 t8.2.2.2.2.1 t8.2.2.2.2.2.1 M_r30 M_r31 M_r32) → va_S A s.heap H locs → lv_has ls 5 [(0, .ref uM), (1, .int a1), (2, .int t4), (4, .int v6.2.1)] → W p l e R s m ar below meth c H locs 0 0 QQ (F0 m 59 ls [.int t11]) := by
            clear jP jD jS jl
            intro H locs ls jP jD jS jl
            refine lv_istore_n (lv' := [(3, .int t11), (0, .ref uM), (1, .int a1), (2, .int t4), (4, .int v6.2.1)]) hx hb dX6_edge_59 rfl jl (by decide) rfl (fun ls jl => ?_)
            refine lv_iinc (v := (v6.2.1 + (-1 : Int32))) (lv' := [(4, .int (v6.2.1 + (-1 : Int32))), (3, .int t11), (0, .ref uM), (1, .int a1), (2, .int t4)]) hx hb dX6_edge_60 jl (k := 4) rfl rfl (by decide) rfl (fun ls jl => ?_)
            refine lv_goto (tgt := 24) hx hb dX6_edge_63 (by decide) ?_
            obtain rfl := Option.some.inj hv6
            exact ih _ (nxt_l hq6) _ _ _ jP jD jS (lv_sub jl [2, 3, 4, 1, 0] rfl)
          clear hv6
          refine lv_if_eq (tgt := 58) hx hb dX6_edge_50 (by decide) (fun c10 => ?_) (fun c10 => ?_)
          · have hvt11 := itp c10 hvt11
            refine lv_iload_n hx hb dX6_edge_58 rfl (lv_at jl 3 rfl) ?_
            obtain rfl := Option.some.inj hvt11
            exact hJt11 _ _ _ jP jD jS (lv_sub jl [0, 1, 2, 4] rfl)
          · have hvt11 := itn c10 hvt11
            refine lv_iload hx hb dX6_edge_53 (lv_at jl 4 rfl) ?_
            refine lv_goto (tgt := 59) hx hb dX6_edge_55 (by decide) ?_
            obtain rfl := Option.some.inj hvt11
            exact hJt11 _ _ _ jP jD jS (lv_sub jl [0, 1, 2, 4] rfl)
    exact hL6 1000 _ hT6 _ _ _ jP jD jS (lv_sub jl [3, 4, 2, 1, 0] rfl)
  · have h := itp c3 h
    refine lv_iconst (v := (-1 : Int32)) hx hb dX6_edge_8 (by decide) ?_
    obtain rfl := Option.some.inj h
    exact hRet _ _ _ _ jP jD jS dX6_edge_9
theorem okX6_spur : okV yX6_spur cX6_spur 6 (some .int) 1 := ⟨w_669, w_670, w_671, w_5, by decide, by decide, by decide +kernel⟩
def fX6_spur_b14 (l1 : Int32) (M_x12 : Int32) (M_r11 : (Nat → Int32)) (v1 : (Int32 × Int32)) : Option ((Int32 × Int32) ⊕ Int32) :=
  if M_x12 ≤ v1.2 then (some (.inr v1.1)) else (bd (fX6_its (M_r11) v1.2 (2 : Int32)) (fun t1 => bd (fX6_its (M_r11) v1.2 (1 : Int32)) (fun t2 => bd (if t1 ≤ t2 then (some (0 : Int32)) else (some ((1 : Int32) <<< (v1.2 &&& 31)))) (fun t3 => some (.inl ((v1.1 ||| t3), (v1.2 + (1 : Int32))))))))
def fX6_spur_b72 (l1 : Int32) (l2 : Int32) (l3 : Int32) (M_r15 : (Nat → Int32)) (M_x12 : Int32) (M_x18 : Int32) (v1 : (Int32 × Int32 × Int64 × Int64 × Int64 × (Nat → Int32) × (Nat → Int32) × (Nat → Int32) × Int32 × Int32 × Int32)) : Option ((Int32 × Int32 × Int64 × Int64 × Int64 × (Nat → Int32) × (Nat → Int32) × (Nat → Int32) × Int32 × Int32 × Int32) ⊕ (Int32 × Int64 × Int64 × Int64 × (Nat → Int32) × (Nat → Int32) × (Nat → Int32) × Int32 × Int32 × Int32)) :=
  if v1.2.1 < (0 : Int32) then (some (.inr (v1.1, v1.2.2.1, v1.2.2.2.1, v1.2.2.2.2.1, v1.2.2.2.2.2.1, v1.2.2.2.2.2.2.1, v1.2.2.2.2.2.2.2.1, v1.2.2.2.2.2.2.2.2.1, v1.2.2.2.2.2.2.2.2.2.1, v1.2.2.2.2.2.2.2.2.2.2))) else (ckI (((5 : Int32) * l1) + (4 : Int32)) 40 (bd (fX6_goesOn v1.2.2.1 v1.2.2.2.1 v1.2.2.2.2.1 (upd v1.2.2.2.2.2.1 (((5 : Int32) * l1) + (4 : Int32)).toNatClampNeg v1.2.1) (M_r15) v1.2.2.2.2.2.2.1 v1.2.2.2.2.2.2.2.1 (M_x12) (M_x18) v1.2.2.2.2.2.2.2.2.1 v1.2.2.2.2.2.2.2.2.2.1 v1.2.2.2.2.2.2.2.2.2.2 (0 : Int32) (0 : Int32) (l2)) (fun t1 => bd (if t1.1 = (0 : Int32) then some v1.1 else some v1.2.1) (fun t2 => some (.inl (t2, (v1.2.1 + (-1 : Int32)), t1.2.1, t1.2.2.1, t1.2.2.2.1, (upd v1.2.2.2.2.2.1 (((5 : Int32) * l1) + (4 : Int32)).toNatClampNeg v1.2.1), t1.2.2.2.2.1, t1.2.2.2.2.2.1, t1.2.2.2.2.2.2.1, t1.2.2.2.2.2.2.2.1, t1.2.2.2.2.2.2.2.2))))))
def fX6_spur (M_g24 : Int64) (M_g25 : Int64) (M_g26 : Int64) (M_r11 : (Nat → Int32)) (M_r15 : (Nat → Int32)) (M_r21 : (Nat → Int32)) (M_r22 : (Nat → Int32)) (M_x12 : Int32) (M_x18 : Int32) (M_x19 : Int32) (M_x20 : Int32) (M_x23 : Int32) (a1 : Int32) : Option (Int32 × Int64 × Int64 × Int64 × (Nat → Int32) × (Nat → Int32) × (Nat → Int32) × Int32 × Int32 × Int32) :=
  bd (fX6_isSort (M_x12) a1) (fun t1 => if t1 = (0 : Int32) then (some ((-1 : Int32), M_g24, M_g25, M_g26, M_r11, M_r21, M_r22, M_x19, M_x20, M_x23)) else (bd (loopF (fX6_spur_b14 a1 M_x12 M_r11) 1000 ((0 : Int32), (0 : Int32))) (fun T4 => bd (fX6_its (M_r11) a1 (4 : Int32)) (fun t12 => bd (fX6_its (M_r11) a1 (0 : Int32)) (fun t14 => bd (loopF (fX6_spur_b72 a1 T4 t12 M_r15 M_x12 M_x18) 1000 ((-4 : Int32), t14, M_g24, M_g25, M_g26, M_r11, M_r21, M_r22, M_x19, M_x20, M_x23)) (fun T16 => ckI (((5 : Int32) * a1) + (4 : Int32)) 40 (some (T16.1, T16.2.1, T16.2.2.1, T16.2.2.2.1, (upd T16.2.2.2.2.1 (((5 : Int32) * a1) + (4 : Int32)).toNatClampNeg t12), T16.2.2.2.2.2.1, T16.2.2.2.2.2.2.1, T16.2.2.2.2.2.2.2.1, T16.2.2.2.2.2.2.2.2.1, T16.2.2.2.2.2.2.2.2.2))))))))
set_option maxRecDepth 100000 in
set_option maxHeartbeats 4000000 in
theorem kX6_spur (l : Launch) (D : va_G) (cI cB cS : ClassId) (uM : Nat) (aM : Nat → Nat) (M_x1 : Int32) (M_x2 : Int32) (M_x3 : Int32) (M_x4 : Int32) (M_x5 : Int32) (M_x6 : Int32) (M_x7 : Int32) (M_x8 : Int32) (M_x12 : Int32) (M_x14 : Int32) (M_x17 : Int32) (M_x18 : Int32) (M_x19 : Int32) (M_x20 : Int32) (M_x23 : Int32) (M_x27 : Int32) (M_x29 : Int32) (M_x33 : Int32) (M_g24 : Int64) (M_g25 : Int64) (M_g26 : Int64) (M_g28 : Int64) (M_r0 : (Nat → Int32)) (M_r9 : (Nat → Int32)) (M_r10 : (Nat → Int32)) (M_r11 : (Nat → Int32)) (M_r13 : (Nat → Int32)) (M_r15 : (Nat → Int32)) (M_r16 : (Nat → Int32)) (M_r21 : (Nat → Int32)) (M_r22 : (Nat → Int32)) (M_r30 : (Nat → Int32)) (M_r31 : (Nat → Int32)) (M_r32 : (Nat → Int32)) (a1 : Int32) (z : (Int32 × Int64 × Int64 × Int64 × (Nat → Int32) × (Nat → Int32) × (Nat → Int32) × Int32 × Int32 × Int32)) (h : fX6_spur M_g24 M_g25 M_g26 M_r11 M_r15 M_r21 M_r22 M_x12 M_x18 M_x19 M_x20 M_x23 a1 = some z) : Mt l yX6_spur cX6_spur 6 (some .int) 6 140 D cI cB cS (mW cI uM aM M_x1 M_x2 M_x3 M_x4 M_x5 M_x6 M_x7 M_x8 M_x12 M_x14 M_x17 M_x18 M_x19 M_x20 M_x23 M_x27 M_x29 M_x33 M_g24 M_g25 M_g26 M_g28 M_r0 M_r9 M_r10 M_r11 M_r13 M_r15 M_r16 M_r21 M_r22 M_r30 M_r31 M_r32) (mW cI uM aM M_x1 M_x2 M_x3 M_x4 M_x5 M_x6 M_x7 M_x8 M_x12 M_x14 M_x17 M_x18 z.2.2.2.2.2.2.2.1 z.2.2.2.2.2.2.2.2.1 z.2.2.2.2.2.2.2.2.2 M_x27 M_x29 M_x33 z.2.1 z.2.2.1 z.2.2.2.1 M_g28 M_r0 M_r9 M_r10 z.2.2.2.2.1 M_r13 M_r15 M_r16 z.2.2.2.2.2.1 z.2.2.2.2.2.2.1 M_r30 M_r31 M_r32) [.ref uM, .int a1] (some (.int z.1)) := by
  refine entryI (by decide +kernel) rfl (Nat.le_of_ble_eq_true rfl) ?_
  intro p e s m below meth c A ls QQ R ar F hRet jP jD jS jl
  obtain ⟨hx, hb, hml, hown, hts, jK, hA, hf1, hf2⟩ := id F
  have jl : lv_has ls 6 [(0, .ref uM), (1, .int a1)] := jl
  unfold fX6_spur at h
  refine lv_aload_n hx hb dX6_spur_0 rfl (lv_at jl 0 rfl) ?_
  refine lv_iload_n hx hb dX6_spur_1 rfl (lv_at jl 1 rfl) ?_
  obtain ⟨t1, hc2, h⟩ := bd_some h
  refine callW (w1 := (mW cI uM aM M_x1 M_x2 M_x3 M_x4 M_x5 M_x6 M_x7 M_x8 M_x12 M_x14 M_x17 M_x18 M_x19 M_x20 M_x23 M_x27 M_x29 M_x33 M_g24 M_g25 M_g26 M_g28 M_r0 M_r9 M_r10 M_r11 M_r13 M_r15 M_r16 M_r21 M_r22 M_r30 M_r31 M_r32)) (As := [.int a1]) (rest := []) (st1 := [.int t1]) 0 F (kX6_isSort l D cI cB cS uM aM M_x1 M_x2 M_x3 M_x4 M_x5 M_x6 M_x7 M_x8 M_x12 M_x14 M_x17 M_x18 M_x19 M_x20 M_x23 M_x27 M_x29 M_x33 M_g24 M_g25 M_g26 M_g28 M_r0 M_r9 M_r10 M_r11 M_r13 M_r15 M_r16 M_r21 M_r22 M_r30 M_r31 M_r32 a1 _ hc2 ) okX6_isSort w_316 (by decide) (by decide) ⟨Nat.zero_le _, Nat.zero_le _⟩ rfl rfl rfl jP jD jS rfl jl.1 rfl rfl (Nat.le_of_ble_eq_true rfl) dX6_spur_2 (fun H locs jP jD jS => ?_)
  refine lv_if_ne (tgt := 10) hx hb dX6_spur_5 (by decide) (fun c3 => ?_) (fun c3 => ?_)
  · have h := itn c3 h
    refine lv_iconst (v := (0 : Int32)) hx hb dX6_spur_10 (by decide) ?_
    refine lv_istore_n (lv' := [(2, .int (0 : Int32)), (0, .ref uM), (1, .int a1)]) hx hb dX6_spur_11 rfl jl (by decide) rfl (fun ls jl => ?_)
    refine lv_iconst (v := (0 : Int32)) hx hb dX6_spur_12 (by decide) ?_
    refine lv_istore_n (lv' := [(3, .int (0 : Int32)), (2, .int (0 : Int32)), (0, .ref uM), (1, .int a1)]) hx hb dX6_spur_13 rfl jl (by decide) rfl (fun ls jl => ?_)
    obtain ⟨T4, hT4, hz4⟩ := bd_some h
    clear h
    have hE4 : ∀ (H : Heap) (locs : List Loc) (ls : Array Slot), va_P D vwCl (mW cI uM aM M_x1 M_x2 M_x3 M_x4 M_x5 M_x6 M_x7 M_x8 M_x12 M_x14 M_x17 M_x18 M_x19 M_x20 M_x23 M_x27 M_x29 M_x33 M_g24 M_g25 M_g26 M_g28 M_r0 M_r9 M_r10 M_r11 M_r13 M_r15 M_r16 M_r21 M_r22 M_r30 M_r31 M_r32) H → va_D A (mW cI uM aM M_x1 M_x2 M_x3 M_x4 M_x5 M_x6 M_x7 M_x8 M_x12 M_x14 M_x17 M_x18 M_x19 M_x20 M_x23 M_x27 M_x29 M_x33 M_g24 M_g25 M_g26 M_g28 M_r0 M_r9 M_r10 M_r11 M_r13 M_r15 M_r16 M_r21 M_r22 M_r30 M_r31 M_r32) → va_S A s.heap H locs → lv_has ls 6 [(0, .ref uM), (1, .int a1), (2, .int T4)] → W p l e R s m ar below meth c H locs 0 0 QQ (F0 m 53 ls []) := by
      clear jP jD jS jl
      intro H locs ls jP jD jS jl
      refine lv_aload_n hx hb dX6_spur_53 rfl (lv_at jl 0 rfl) ?_
      refine lv_iload_n hx hb dX6_spur_54 rfl (lv_at jl 1 rfl) ?_
      refine lv_iconst (v := (4 : Int32)) hx hb dX6_spur_55 (by decide) ?_
      obtain ⟨t12, hc13, hz4⟩ := bd_some hz4
      refine callW (w1 := (mW cI uM aM M_x1 M_x2 M_x3 M_x4 M_x5 M_x6 M_x7 M_x8 M_x12 M_x14 M_x17 M_x18 M_x19 M_x20 M_x23 M_x27 M_x29 M_x33 M_g24 M_g25 M_g26 M_g28 M_r0 M_r9 M_r10 M_r11 M_r13 M_r15 M_r16 M_r21 M_r22 M_r30 M_r31 M_r32)) (As := [.int a1, .int (4 : Int32)]) (rest := []) (st1 := [.int t12]) 0 F (kX6_its l D cI cB cS uM aM M_x1 M_x2 M_x3 M_x4 M_x5 M_x6 M_x7 M_x8 M_x12 M_x14 M_x17 M_x18 M_x19 M_x20 M_x23 M_x27 M_x29 M_x33 M_g24 M_g25 M_g26 M_g28 M_r0 M_r9 M_r10 M_r11 M_r13 M_r15 M_r16 M_r21 M_r22 M_r30 M_r31 M_r32 a1 (4 : Int32) _ hc13 ) okX6_its w_320 (by decide) (by decide) ⟨Nat.zero_le _, Nat.zero_le _⟩ rfl rfl rfl jP jD jS rfl jl.1 rfl rfl (Nat.le_of_ble_eq_true rfl) dX6_spur_56 (fun H locs jP jD jS => ?_)
      refine lv_istore_n (lv' := [(3, .int t12), (0, .ref uM), (1, .int a1), (2, .int T4)]) hx hb dX6_spur_59 rfl jl (by decide) rfl (fun ls jl => ?_)
      refine lv_bipush (v := (-4 : Int32)) hx hb dX6_spur_60 (by decide) ?_
      refine lv_istore (lv' := [(4, .int (-4 : Int32)), (3, .int t12), (0, .ref uM), (1, .int a1), (2, .int T4)]) hx hb dX6_spur_62 jl (by decide) rfl (fun ls jl => ?_)
      refine lv_aload_n hx hb dX6_spur_64 rfl (lv_at jl 2 rfl) ?_
      refine lv_iload_n hx hb dX6_spur_65 rfl (lv_at jl 3 rfl) ?_
      refine lv_iconst (v := (0 : Int32)) hx hb dX6_spur_66 (by decide) ?_
      obtain ⟨t14, hc15, hz4⟩ := bd_some hz4
      refine callW (w1 := (mW cI uM aM M_x1 M_x2 M_x3 M_x4 M_x5 M_x6 M_x7 M_x8 M_x12 M_x14 M_x17 M_x18 M_x19 M_x20 M_x23 M_x27 M_x29 M_x33 M_g24 M_g25 M_g26 M_g28 M_r0 M_r9 M_r10 M_r11 M_r13 M_r15 M_r16 M_r21 M_r22 M_r30 M_r31 M_r32)) (As := [.int a1, .int (0 : Int32)]) (rest := []) (st1 := [.int t14]) 0 F (kX6_its l D cI cB cS uM aM M_x1 M_x2 M_x3 M_x4 M_x5 M_x6 M_x7 M_x8 M_x12 M_x14 M_x17 M_x18 M_x19 M_x20 M_x23 M_x27 M_x29 M_x33 M_g24 M_g25 M_g26 M_g28 M_r0 M_r9 M_r10 M_r11 M_r13 M_r15 M_r16 M_r21 M_r22 M_r30 M_r31 M_r32 a1 (0 : Int32) _ hc15 ) okX6_its w_320 (by decide) (by decide) ⟨Nat.zero_le _, Nat.zero_le _⟩ rfl rfl rfl jP jD jS rfl jl.1 rfl rfl (Nat.le_of_ble_eq_true rfl) dX6_spur_67 (fun H locs jP jD jS => ?_)
      refine lv_istore (lv' := [(5, .int t14), (4, .int (-4 : Int32)), (3, .int t12), (0, .ref uM), (1, .int a1), (2, .int T4)]) hx hb dX6_spur_70 jl (by decide) rfl (fun ls jl => ?_)
      obtain ⟨T16, hT16, hz16⟩ := bd_some hz4
      clear hz4
      have hE16 : ∀ (H : Heap) (locs : List Loc) (ls : Array Slot), va_P D vwCl (mW cI uM aM M_x1 M_x2 M_x3 M_x4 M_x5 M_x6 M_x7 M_x8 M_x12 M_x14 M_x17 M_x18 T16.2.2.2.2.2.2.2.1 T16.2.2.2.2.2.2.2.2.1 T16.2.2.2.2.2.2.2.2.2 M_x27 M_x29 M_x33 T16.2.1 T16.2.2.1 T16.2.2.2.1 M_g28 M_r0 M_r9 M_r10 T16.2.2.2.2.1 M_r13 M_r15 M_r16 T16.2.2.2.2.2.1 T16.2.2.2.2.2.2.1 M_r30 M_r31 M_r32) H → va_D A (mW cI uM aM M_x1 M_x2 M_x3 M_x4 M_x5 M_x6 M_x7 M_x8 M_x12 M_x14 M_x17 M_x18 T16.2.2.2.2.2.2.2.1 T16.2.2.2.2.2.2.2.2.1 T16.2.2.2.2.2.2.2.2.2 M_x27 M_x29 M_x33 T16.2.1 T16.2.2.1 T16.2.2.2.1 M_g28 M_r0 M_r9 M_r10 T16.2.2.2.2.1 M_r13 M_r15 M_r16 T16.2.2.2.2.2.1 T16.2.2.2.2.2.2.1 M_r30 M_r31 M_r32) → va_S A s.heap H locs → lv_has ls 6 [(0, .ref uM), (1, .int a1), (3, .int t12), (4, .int T16.1)] → W p l e R s m ar below meth c H locs 0 0 QQ (F0 m 114 ls []) := by
        clear jP jD jS jl
        intro H locs ls jP jD jS jl
        refine lv_aload_n hx hb dX6_spur_114 rfl (lv_at jl 0 rfl) ?_
        refine va_get (D := D) (ci := 6) (v := .ref (aM 11)) (C := RX6) (T := TX6) (N := 34) hx hb hts in6 hown jK.1 jP 0 rfl rfl 11 (by decide) (hts _ w_80) (fun _ h9 => h9) rfl dX6_spur_115 ?_
        refine lv_iconst (v := (5 : Int32)) hx hb dX6_spur_118 (by decide) ?_
        refine lv_iload_n hx hb dX6_spur_119 rfl (lv_at jl 1 rfl) ?_
        refine lv_imul hx hb dX6_spur_120 ?_
        refine lv_iconst (v := (4 : Int32)) hx hb dX6_spur_121 (by decide) ?_
        refine lv_iadd hx hb dX6_spur_122 ?_
        refine lv_iload_n hx hb dX6_spur_123 rfl (lv_at jl 2 rfl) ?_
        obtain ⟨hin, hz16⟩ := ckI_some hz16
        refine va_iast (f := T16.2.2.2.2.1) hx hb jK.1 jP jD jS 4 0 rfl rfl hin dX6_spur_124 (fun H locs jP jD jS => ?_)
        have jP : va_P D vwCl (mW cI uM aM M_x1 M_x2 M_x3 M_x4 M_x5 M_x6 M_x7 M_x8 M_x12 M_x14 M_x17 M_x18 T16.2.2.2.2.2.2.2.1 T16.2.2.2.2.2.2.2.2.1 T16.2.2.2.2.2.2.2.2.2 M_x27 M_x29 M_x33 T16.2.1 T16.2.2.1 T16.2.2.2.1 M_g28 M_r0 M_r9 M_r10 (upd T16.2.2.2.2.1 (((5 : Int32) * a1) + (4 : Int32)).toNatClampNeg t12) M_r13 M_r15 M_r16 T16.2.2.2.2.2.1 T16.2.2.2.2.2.2.1 M_r30 M_r31 M_r32) H := jP
        have jD : va_D A (mW cI uM aM M_x1 M_x2 M_x3 M_x4 M_x5 M_x6 M_x7 M_x8 M_x12 M_x14 M_x17 M_x18 T16.2.2.2.2.2.2.2.1 T16.2.2.2.2.2.2.2.2.1 T16.2.2.2.2.2.2.2.2.2 M_x27 M_x29 M_x33 T16.2.1 T16.2.2.1 T16.2.2.2.1 M_g28 M_r0 M_r9 M_r10 (upd T16.2.2.2.2.1 (((5 : Int32) * a1) + (4 : Int32)).toNatClampNeg t12) M_r13 M_r15 M_r16 T16.2.2.2.2.2.1 T16.2.2.2.2.2.2.1 M_r30 M_r31 M_r32) := jD
        refine lv_iload hx hb dX6_spur_125 (lv_at jl 3 rfl) ?_
        obtain rfl := Option.some.inj hz16
        exact hRet _ _ _ _ jP jD jS dX6_spur_127
      have hL16 : ∀ (n : Nat) (v16 : (Int32 × Int32 × Int64 × Int64 × Int64 × (Nat → Int32) × (Nat → Int32) × (Nat → Int32) × Int32 × Int32 × Int32)), loopF (fX6_spur_b72 a1 T4 t12 M_r15 M_x12 M_x18) n v16 = some T16 → ∀ (H : Heap) (locs : List Loc) (ls : Array Slot), va_P D vwCl (mW cI uM aM M_x1 M_x2 M_x3 M_x4 M_x5 M_x6 M_x7 M_x8 M_x12 M_x14 M_x17 M_x18 v16.2.2.2.2.2.2.2.2.1 v16.2.2.2.2.2.2.2.2.2.1 v16.2.2.2.2.2.2.2.2.2.2 M_x27 M_x29 M_x33 v16.2.2.1 v16.2.2.2.1 v16.2.2.2.2.1 M_g28 M_r0 M_r9 M_r10 v16.2.2.2.2.2.1 M_r13 M_r15 M_r16 v16.2.2.2.2.2.2.1 v16.2.2.2.2.2.2.2.1 M_r30 M_r31 M_r32) H → va_D A (mW cI uM aM M_x1 M_x2 M_x3 M_x4 M_x5 M_x6 M_x7 M_x8 M_x12 M_x14 M_x17 M_x18 v16.2.2.2.2.2.2.2.2.1 v16.2.2.2.2.2.2.2.2.2.1 v16.2.2.2.2.2.2.2.2.2.2 M_x27 M_x29 M_x33 v16.2.2.1 v16.2.2.2.1 v16.2.2.2.2.1 M_g28 M_r0 M_r9 M_r10 v16.2.2.2.2.2.1 M_r13 M_r15 M_r16 v16.2.2.2.2.2.2.1 v16.2.2.2.2.2.2.2.1 M_r30 M_r31 M_r32) → va_S A s.heap H locs → lv_has ls 6 [(0, .ref uM), (1, .int a1), (2, .int T4), (3, .int t12), (4, .int v16.1), (5, .int v16.2.1)] → W p l e R s m ar below meth c H locs 0 0 QQ (F0 m 72 ls []) := by
        clear jP jD jS jl hT16
        intro n
        induction n with
        | zero => intro v16 hq; exact (loop_none hq).elim
        | succ n ih =>
          intro v16 hq H locs ls jP jD jS jl
          obtain ⟨o16, hv16, hq16⟩ := loop_some hq
          clear hq
          unfold fX6_spur_b72 at hv16
          refine lv_iload hx hb dX6_spur_72 (lv_at jl 5 rfl) ?_
          refine lv_if_lt (tgt := 114) hx hb dX6_spur_74 (by decide) (fun c17 => ?_) (fun c17 => ?_)
          · have hv16 := itp c17 hv16
            obtain rfl := Option.some.inj hv16
            obtain rfl := nxt_r hq16
            exact hE16 _ _ _ jP jD jS (lv_sub jl [0, 1, 3, 4] rfl)
          · have hv16 := itn c17 hv16
            refine lv_aload_n hx hb dX6_spur_77 rfl (lv_at jl 0 rfl) ?_
            refine va_get (D := D) (ci := 6) (v := .ref (aM 11)) (C := RX6) (T := TX6) (N := 34) hx hb hts in6 hown jK.1 jP 0 rfl rfl 11 (by decide) (hts _ w_80) (fun _ h9 => h9) rfl dX6_spur_78 ?_
            refine lv_iconst (v := (5 : Int32)) hx hb dX6_spur_81 (by decide) ?_
            refine lv_iload_n hx hb dX6_spur_82 rfl (lv_at jl 1 rfl) ?_
            refine lv_imul hx hb dX6_spur_83 ?_
            refine lv_iconst (v := (4 : Int32)) hx hb dX6_spur_84 (by decide) ?_
            refine lv_iadd hx hb dX6_spur_85 ?_
            refine lv_iload hx hb dX6_spur_86 (lv_at jl 5 rfl) ?_
            obtain ⟨hin, hv16⟩ := ckI_some hv16
            refine va_iast (f := v16.2.2.2.2.2.1) hx hb jK.1 jP jD jS 4 0 rfl rfl hin dX6_spur_88 (fun H locs jP jD jS => ?_)
            have jP : va_P D vwCl (mW cI uM aM M_x1 M_x2 M_x3 M_x4 M_x5 M_x6 M_x7 M_x8 M_x12 M_x14 M_x17 M_x18 v16.2.2.2.2.2.2.2.2.1 v16.2.2.2.2.2.2.2.2.2.1 v16.2.2.2.2.2.2.2.2.2.2 M_x27 M_x29 M_x33 v16.2.2.1 v16.2.2.2.1 v16.2.2.2.2.1 M_g28 M_r0 M_r9 M_r10 (upd v16.2.2.2.2.2.1 (((5 : Int32) * a1) + (4 : Int32)).toNatClampNeg v16.2.1) M_r13 M_r15 M_r16 v16.2.2.2.2.2.2.1 v16.2.2.2.2.2.2.2.1 M_r30 M_r31 M_r32) H := jP
            have jD : va_D A (mW cI uM aM M_x1 M_x2 M_x3 M_x4 M_x5 M_x6 M_x7 M_x8 M_x12 M_x14 M_x17 M_x18 v16.2.2.2.2.2.2.2.2.1 v16.2.2.2.2.2.2.2.2.2.1 v16.2.2.2.2.2.2.2.2.2.2 M_x27 M_x29 M_x33 v16.2.2.1 v16.2.2.2.1 v16.2.2.2.2.1 M_g28 M_r0 M_r9 M_r10 (upd v16.2.2.2.2.2.1 (((5 : Int32) * a1) + (4 : Int32)).toNatClampNeg v16.2.1) M_r13 M_r15 M_r16 v16.2.2.2.2.2.2.1 v16.2.2.2.2.2.2.2.1 M_r30 M_r31 M_r32) := jD
            refine lv_aload_n hx hb dX6_spur_89 rfl (lv_at jl 0 rfl) ?_
            refine lv_iconst (v := (0 : Int32)) hx hb dX6_spur_90 (by decide) ?_
            refine lv_iconst (v := (0 : Int32)) hx hb dX6_spur_91 (by decide) ?_
            refine lv_iload_n hx hb dX6_spur_92 rfl (lv_at jl 2 rfl) ?_
            obtain ⟨t18, hc19, hv16⟩ := bd_some hv16
            refine callW (w1 := (mW cI uM aM M_x1 M_x2 M_x3 M_x4 M_x5 M_x6 M_x7 M_x8 M_x12 M_x14 M_x17 M_x18 t18.2.2.2.2.2.2.1 t18.2.2.2.2.2.2.2.1 t18.2.2.2.2.2.2.2.2 M_x27 M_x29 M_x33 t18.2.1 t18.2.2.1 t18.2.2.2.1 M_g28 M_r0 M_r9 M_r10 (upd v16.2.2.2.2.2.1 (((5 : Int32) * a1) + (4 : Int32)).toNatClampNeg v16.2.1) M_r13 M_r15 M_r16 t18.2.2.2.2.1 t18.2.2.2.2.2.1 M_r30 M_r31 M_r32)) (As := [.int (0 : Int32), .int (0 : Int32), .int T4]) (rest := []) (st1 := [.int t18.1]) 0 F (kX6_goesOn l D cI cB cS uM aM M_x1 M_x2 M_x3 M_x4 M_x5 M_x6 M_x7 M_x8 M_x12 M_x14 M_x17 M_x18 v16.2.2.2.2.2.2.2.2.1 v16.2.2.2.2.2.2.2.2.2.1 v16.2.2.2.2.2.2.2.2.2.2 M_x27 M_x29 M_x33 v16.2.2.1 v16.2.2.2.1 v16.2.2.2.2.1 M_g28 M_r0 M_r9 M_r10 (upd v16.2.2.2.2.2.1 (((5 : Int32) * a1) + (4 : Int32)).toNatClampNeg v16.2.1) M_r13 M_r15 M_r16 v16.2.2.2.2.2.2.1 v16.2.2.2.2.2.2.2.1 M_r30 M_r31 M_r32 (0 : Int32) (0 : Int32) T4 _ hc19 ) okX6_goesOn w_619 (by decide) (by decide) ⟨Nat.zero_le _, Nat.zero_le _⟩ rfl rfl rfl jP jD jS rfl jl.1 rfl rfl (Nat.le_of_ble_eq_true rfl) dX6_spur_93 (fun H locs jP jD jS => ?_)
            obtain ⟨t21, hvt21, hv16⟩ := bd_some hv16
            have hJt21 : ∀ (H : Heap) (locs : List Loc) (ls : Array Slot), va_P D vwCl (mW cI uM aM M_x1 M_x2 M_x3 M_x4 M_x5 M_x6 M_x7 M_x8 M_x12 M_x14 M_x17 M_x18 t18.2.2.2.2.2.2.1 t18.2.2.2.2.2.2.2.1 t18.2.2.2.2.2.2.2.2 M_x27 M_x29 M_x33 t18.2.1 t18.2.2.1 t18.2.2.2.1 M_g28 M_r0 M_r9 M_r10 (upd v16.2.2.2.2.2.1 (((5 : Int32) * a1) + (4 : Int32)).toNatClampNeg v16.2.1) M_r13 M_r15 M_r16 t18.2.2.2.2.1 t18.2.2.2.2.2.1 M_r30 M_r31 M_r32) H → va_D A (mW cI uM aM M_x1 M_x2 M_x3 M_x4 M_x5 M_x6 M_x7 M_x8 M_x12 M_x14 M_x17 M_x18 t18.2.2.2.2.2.2.1 t18.2.2.2.2.2.2.2.1 t18.2.2.2.2.2.2.2.2 M_x27 M_x29 M_x33 t18.2.1 t18.2.2.1 t18.2.2.2.1 M_g28 M_r0 M_r9 M_r10 (upd v16.2.2.2.2.2.1 (((5 : Int32) * a1) + (4 : Int32)).toNatClampNeg v16.2.1) M_r13 M_r15 M_r16 t18.2.2.2.2.1 t18.2.2.2.2.2.1 M_r30 M_r31 M_r32) → va_S A s.heap H locs → lv_has ls 6 [(0, .ref uM), (1, .int a1), (2, .int T4), (3, .int t12), (5, .int v16.2.1)] → W p l e R s m ar below meth c H locs 0 0 QQ (F0 m 106 ls [.int t21]) := by
              clear jP jD jS jl
              intro H locs ls jP jD jS jl
              refine lv_istore (lv' := [(4, .int t21), (0, .ref uM), (1, .int a1), (2, .int T4), (3, .int t12), (5, .int v16.2.1)]) hx hb dX6_spur_106 jl (by decide) rfl (fun ls jl => ?_)
              refine lv_iinc (v := (v16.2.1 + (-1 : Int32))) (lv' := [(5, .int (v16.2.1 + (-1 : Int32))), (4, .int t21), (0, .ref uM), (1, .int a1), (2, .int T4), (3, .int t12)]) hx hb dX6_spur_108 jl (k := 5) rfl rfl (by decide) rfl (fun ls jl => ?_)
              refine lv_goto (tgt := 72) hx hb dX6_spur_111 (by decide) ?_
              obtain rfl := Option.some.inj hv16
              exact ih _ (nxt_l hq16) _ _ _ jP jD jS (lv_sub jl [2, 3, 4, 5, 1, 0] rfl)
            clear hv16
            refine lv_if_eq (tgt := 104) hx hb dX6_spur_96 (by decide) (fun c20 => ?_) (fun c20 => ?_)
            · have hvt21 := itp c20 hvt21
              refine lv_iload hx hb dX6_spur_104 (lv_at jl 4 rfl) ?_
              obtain rfl := Option.some.inj hvt21
              exact hJt21 _ _ _ jP jD jS (lv_sub jl [0, 1, 2, 3, 5] rfl)
            · have hvt21 := itn c20 hvt21
              refine lv_iload hx hb dX6_spur_99 (lv_at jl 5 rfl) ?_
              refine lv_goto (tgt := 106) hx hb dX6_spur_101 (by decide) ?_
              obtain rfl := Option.some.inj hvt21
              exact hJt21 _ _ _ jP jD jS (lv_sub jl [0, 1, 2, 3, 5] rfl)
      exact hL16 1000 _ hT16 _ _ _ jP jD jS (lv_sub jl [3, 4, 5, 2, 1, 0] rfl)
    have hL4 : ∀ (n : Nat) (v4 : (Int32 × Int32)), loopF (fX6_spur_b14 a1 M_x12 M_r11) n v4 = some T4 → ∀ (H : Heap) (locs : List Loc) (ls : Array Slot), va_P D vwCl (mW cI uM aM M_x1 M_x2 M_x3 M_x4 M_x5 M_x6 M_x7 M_x8 M_x12 M_x14 M_x17 M_x18 M_x19 M_x20 M_x23 M_x27 M_x29 M_x33 M_g24 M_g25 M_g26 M_g28 M_r0 M_r9 M_r10 M_r11 M_r13 M_r15 M_r16 M_r21 M_r22 M_r30 M_r31 M_r32) H → va_D A (mW cI uM aM M_x1 M_x2 M_x3 M_x4 M_x5 M_x6 M_x7 M_x8 M_x12 M_x14 M_x17 M_x18 M_x19 M_x20 M_x23 M_x27 M_x29 M_x33 M_g24 M_g25 M_g26 M_g28 M_r0 M_r9 M_r10 M_r11 M_r13 M_r15 M_r16 M_r21 M_r22 M_r30 M_r31 M_r32) → va_S A s.heap H locs → lv_has ls 6 [(0, .ref uM), (1, .int a1), (2, .int v4.1), (3, .int v4.2)] → W p l e R s m ar below meth c H locs 0 0 QQ (F0 m 14 ls []) := by
      clear jP jD jS jl hT4
      intro n
      induction n with
      | zero => intro v4 hq; exact (loop_none hq).elim
      | succ n ih =>
        intro v4 hq H locs ls jP jD jS jl
        obtain ⟨o4, hv4, hq4⟩ := loop_some hq
        clear hq
        unfold fX6_spur_b14 at hv4
        refine lv_iload_n hx hb dX6_spur_14 rfl (lv_at jl 3 rfl) ?_
        refine lv_aload_n hx hb dX6_spur_15 rfl (lv_at jl 0 rfl) ?_
        refine va_get (D := D) (ci := 6) (v := .int M_x12) (C := RX6) (T := TX6) (N := 34) hx hb hts in6 hown jK.1 jP 0 rfl rfl 12 (by decide) (hts _ w_222) (fun _ h9 => h9) rfl dX6_spur_16 ?_
        refine lv_icmp_ge (tgt := 53) hx hb dX6_spur_19 (by decide) (fun c5 => ?_) (fun c5 => ?_)
        · have hv4 := itp c5 hv4
          obtain rfl := Option.some.inj hv4
          obtain rfl := nxt_r hq4
          exact hE4 _ _ _ jP jD jS (lv_sub jl [0, 1, 2] rfl)
        · have hv4 := itn c5 hv4
          refine lv_iload_n hx hb dX6_spur_22 rfl (lv_at jl 2 rfl) ?_
          refine lv_aload_n hx hb dX6_spur_23 rfl (lv_at jl 0 rfl) ?_
          refine lv_iload_n hx hb dX6_spur_24 rfl (lv_at jl 3 rfl) ?_
          refine lv_iconst (v := (2 : Int32)) hx hb dX6_spur_25 (by decide) ?_
          obtain ⟨t6, hc7, hv4⟩ := bd_some hv4
          refine callW (w1 := (mW cI uM aM M_x1 M_x2 M_x3 M_x4 M_x5 M_x6 M_x7 M_x8 M_x12 M_x14 M_x17 M_x18 M_x19 M_x20 M_x23 M_x27 M_x29 M_x33 M_g24 M_g25 M_g26 M_g28 M_r0 M_r9 M_r10 M_r11 M_r13 M_r15 M_r16 M_r21 M_r22 M_r30 M_r31 M_r32)) (As := [.int v4.2, .int (2 : Int32)]) (rest := [.int v4.1]) (st1 := [.int t6, .int v4.1]) 0 F (kX6_its l D cI cB cS uM aM M_x1 M_x2 M_x3 M_x4 M_x5 M_x6 M_x7 M_x8 M_x12 M_x14 M_x17 M_x18 M_x19 M_x20 M_x23 M_x27 M_x29 M_x33 M_g24 M_g25 M_g26 M_g28 M_r0 M_r9 M_r10 M_r11 M_r13 M_r15 M_r16 M_r21 M_r22 M_r30 M_r31 M_r32 v4.2 (2 : Int32) _ hc7 ) okX6_its w_320 (by decide) (by decide) ⟨Nat.zero_le _, Nat.zero_le _⟩ rfl rfl rfl jP jD jS rfl jl.1 rfl rfl (Nat.le_of_ble_eq_true rfl) dX6_spur_26 (fun H locs jP jD jS => ?_)
          refine lv_aload_n hx hb dX6_spur_29 rfl (lv_at jl 0 rfl) ?_
          refine lv_iload_n hx hb dX6_spur_30 rfl (lv_at jl 3 rfl) ?_
          refine lv_iconst (v := (1 : Int32)) hx hb dX6_spur_31 (by decide) ?_
          obtain ⟨t8, hc9, hv4⟩ := bd_some hv4
          refine callW (w1 := (mW cI uM aM M_x1 M_x2 M_x3 M_x4 M_x5 M_x6 M_x7 M_x8 M_x12 M_x14 M_x17 M_x18 M_x19 M_x20 M_x23 M_x27 M_x29 M_x33 M_g24 M_g25 M_g26 M_g28 M_r0 M_r9 M_r10 M_r11 M_r13 M_r15 M_r16 M_r21 M_r22 M_r30 M_r31 M_r32)) (As := [.int v4.2, .int (1 : Int32)]) (rest := [.int t6, .int v4.1]) (st1 := [.int t8, .int t6, .int v4.1]) 0 F (kX6_its l D cI cB cS uM aM M_x1 M_x2 M_x3 M_x4 M_x5 M_x6 M_x7 M_x8 M_x12 M_x14 M_x17 M_x18 M_x19 M_x20 M_x23 M_x27 M_x29 M_x33 M_g24 M_g25 M_g26 M_g28 M_r0 M_r9 M_r10 M_r11 M_r13 M_r15 M_r16 M_r21 M_r22 M_r30 M_r31 M_r32 v4.2 (1 : Int32) _ hc9 ) okX6_its w_320 (by decide) (by decide) ⟨Nat.zero_le _, Nat.zero_le _⟩ rfl rfl rfl jP jD jS rfl jl.1 rfl rfl (Nat.le_of_ble_eq_true rfl) dX6_spur_32 (fun H locs jP jD jS => ?_)
          obtain ⟨t11, hvt11, hv4⟩ := bd_some hv4
          have hJt11 : ∀ (H : Heap) (locs : List Loc) (ls : Array Slot), va_P D vwCl (mW cI uM aM M_x1 M_x2 M_x3 M_x4 M_x5 M_x6 M_x7 M_x8 M_x12 M_x14 M_x17 M_x18 M_x19 M_x20 M_x23 M_x27 M_x29 M_x33 M_g24 M_g25 M_g26 M_g28 M_r0 M_r9 M_r10 M_r11 M_r13 M_r15 M_r16 M_r21 M_r22 M_r30 M_r31 M_r32) H → va_D A (mW cI uM aM M_x1 M_x2 M_x3 M_x4 M_x5 M_x6 M_x7 M_x8 M_x12 M_x14 M_x17 M_x18 M_x19 M_x20 M_x23 M_x27 M_x29 M_x33 M_g24 M_g25 M_g26 M_g28 M_r0 M_r9 M_r10 M_r11 M_r13 M_r15 M_r16 M_r21 M_r22 M_r30 M_r31 M_r32) → va_S A s.heap H locs → lv_has ls 6 [(0, .ref uM), (1, .int a1), (3, .int v4.2)] → W p l e R s m ar below meth c H locs 0 0 QQ (F0 m 45 ls [.int t11, .int v4.1]) := by
            clear jP jD jS jl
            intro H locs ls jP jD jS jl
            refine lv_ior hx hb dX6_spur_45 ?_
            refine lv_istore_n (lv' := [(2, .int (v4.1 ||| t11)), (0, .ref uM), (1, .int a1), (3, .int v4.2)]) hx hb dX6_spur_46 rfl jl (by decide) rfl (fun ls jl => ?_)
            refine lv_iinc (v := (v4.2 + (1 : Int32))) (lv' := [(3, .int (v4.2 + (1 : Int32))), (2, .int (v4.1 ||| t11)), (0, .ref uM), (1, .int a1)]) hx hb dX6_spur_47 jl (k := 3) rfl rfl (by decide) rfl (fun ls jl => ?_)
            refine lv_goto (tgt := 14) hx hb dX6_spur_50 (by decide) ?_
            obtain rfl := Option.some.inj hv4
            exact ih _ (nxt_l hq4) _ _ _ jP jD jS (lv_sub jl [2, 3, 1, 0] rfl)
          clear hv4
          refine lv_icmp_le (tgt := 44) hx hb dX6_spur_35 (by decide) (fun c10 => ?_) (fun c10 => ?_)
          · have hvt11 := itp c10 hvt11
            refine lv_iconst (v := (0 : Int32)) hx hb dX6_spur_44 (by decide) ?_
            obtain rfl := Option.some.inj hvt11
            exact hJt11 _ _ _ jP jD jS (lv_sub jl [0, 1, 3] rfl)
          · have hvt11 := itn c10 hvt11
            refine lv_iconst (v := (1 : Int32)) hx hb dX6_spur_38 (by decide) ?_
            refine lv_iload_n hx hb dX6_spur_39 rfl (lv_at jl 3 rfl) ?_
            refine lv_ishl hx hb dX6_spur_40 ?_
            refine lv_goto (tgt := 45) hx hb dX6_spur_41 (by decide) ?_
            obtain rfl := Option.some.inj hvt11
            exact hJt11 _ _ _ jP jD jS (lv_sub jl [0, 1, 3] rfl)
    exact hL4 1000 _ hT4 _ _ _ jP jD jS (lv_sub jl [2, 3, 1, 0] rfl)
  · have h := itp c3 h
    refine lv_iconst (v := (-1 : Int32)) hx hb dX6_spur_8 (by decide) ?_
    obtain rfl := Option.some.inj h
    exact hRet _ _ _ _ jP jD jS dX6_spur_9
theorem okX6_areLaws : okV yX6_areLaws cX6_areLaws 3 (some .boolean) 1 := ⟨w_712, w_713, w_714, w_5, by decide, by decide, by decide +kernel⟩
def fX6_areLaws (M_x12 : Int32) (a1 : Int32) : Option Int32 :=
  bd (fX6_in a1.toInt64 (0 : Int64) (15 : Int64)) (fun t1 => if t1 = (0 : Int32) then (some (0 : Int32)) else (if (2 : Int32) ≤ (((a1 &&& (1 : Int32)) + ((a1 >>> ((1 : Int32) &&& 31)) &&& (1 : Int32))) + ((a1 >>> ((3 : Int32) &&& 31)) &&& (1 : Int32))) then (some (0 : Int32)) else (if (a1 &&& (4 : Int32)) = (0 : Int32) then (some (1 : Int32)) else (if M_x12 ≤ (0 : Int32) then (some (0 : Int32)) else (some (1 : Int32))))))
set_option maxRecDepth 100000 in
set_option maxHeartbeats 4000000 in
theorem kX6_areLaws (l : Launch) (D : va_G) (cI cB cS : ClassId) (uM : Nat) (aM : Nat → Nat) (M_x1 : Int32) (M_x2 : Int32) (M_x3 : Int32) (M_x4 : Int32) (M_x5 : Int32) (M_x6 : Int32) (M_x7 : Int32) (M_x8 : Int32) (M_x12 : Int32) (M_x14 : Int32) (M_x17 : Int32) (M_x18 : Int32) (M_x19 : Int32) (M_x20 : Int32) (M_x23 : Int32) (M_x27 : Int32) (M_x29 : Int32) (M_x33 : Int32) (M_g24 : Int64) (M_g25 : Int64) (M_g26 : Int64) (M_g28 : Int64) (M_r0 : (Nat → Int32)) (M_r9 : (Nat → Int32)) (M_r10 : (Nat → Int32)) (M_r11 : (Nat → Int32)) (M_r13 : (Nat → Int32)) (M_r15 : (Nat → Int32)) (M_r16 : (Nat → Int32)) (M_r21 : (Nat → Int32)) (M_r22 : (Nat → Int32)) (M_r30 : (Nat → Int32)) (M_r31 : (Nat → Int32)) (M_r32 : (Nat → Int32)) (a1 : Int32) (z : Int32) (h : fX6_areLaws M_x12 a1 = some z) : Mt l yX6_areLaws cX6_areLaws 3 (some .boolean) 1 25 D cI cB cS (mW cI uM aM M_x1 M_x2 M_x3 M_x4 M_x5 M_x6 M_x7 M_x8 M_x12 M_x14 M_x17 M_x18 M_x19 M_x20 M_x23 M_x27 M_x29 M_x33 M_g24 M_g25 M_g26 M_g28 M_r0 M_r9 M_r10 M_r11 M_r13 M_r15 M_r16 M_r21 M_r22 M_r30 M_r31 M_r32) (mW cI uM aM M_x1 M_x2 M_x3 M_x4 M_x5 M_x6 M_x7 M_x8 M_x12 M_x14 M_x17 M_x18 M_x19 M_x20 M_x23 M_x27 M_x29 M_x33 M_g24 M_g25 M_g26 M_g28 M_r0 M_r9 M_r10 M_r11 M_r13 M_r15 M_r16 M_r21 M_r22 M_r30 M_r31 M_r32) [.ref uM, .int a1] (some (.int z)) := by
  refine entryZ (by decide +kernel) rfl (Nat.le_of_ble_eq_true rfl) ?_
  intro p e s m below meth c A ls QQ R ar F hRet jP jD jS jl
  obtain ⟨hx, hb, hml, hown, hts, jK, hA, hf1, hf2⟩ := id F
  have jl : lv_has ls 3 [(0, .ref uM), (1, .int a1)] := jl
  unfold fX6_areLaws at h
  refine lv_iload_n hx hb dX6_areLaws_0 rfl (lv_at jl 1 rfl) ?_
  refine lv_iconst (v := (1 : Int32)) hx hb dX6_areLaws_1 (by decide) ?_
  refine lv_iand hx hb dX6_areLaws_2 ?_
  refine lv_iload_n hx hb dX6_areLaws_3 rfl (lv_at jl 1 rfl) ?_
  refine lv_iconst (v := (1 : Int32)) hx hb dX6_areLaws_4 (by decide) ?_
  refine lv_ishr hx hb dX6_areLaws_5 ?_
  refine lv_iconst (v := (1 : Int32)) hx hb dX6_areLaws_6 (by decide) ?_
  refine lv_iand hx hb dX6_areLaws_7 ?_
  refine lv_iadd hx hb dX6_areLaws_8 ?_
  refine lv_iload_n hx hb dX6_areLaws_9 rfl (lv_at jl 1 rfl) ?_
  refine lv_iconst (v := (3 : Int32)) hx hb dX6_areLaws_10 (by decide) ?_
  refine lv_ishr hx hb dX6_areLaws_11 ?_
  refine lv_iconst (v := (1 : Int32)) hx hb dX6_areLaws_12 (by decide) ?_
  refine lv_iand hx hb dX6_areLaws_13 ?_
  refine lv_iadd hx hb dX6_areLaws_14 ?_
  refine lv_istore_n (lv' := [(2, .int (((a1 &&& (1 : Int32)) + ((a1 >>> ((1 : Int32) &&& 31)) &&& (1 : Int32))) + ((a1 >>> ((3 : Int32) &&& 31)) &&& (1 : Int32)))), (0, .ref uM), (1, .int a1)]) hx hb dX6_areLaws_15 rfl jl (by decide) rfl (fun ls jl => ?_)
  refine lv_iload_n hx hb dX6_areLaws_16 rfl (lv_at jl 2 rfl) ?_
  refine lv_i2l (v := a1.toInt64) hx hb dX6_areLaws_17 rfl ?_
  refine lv_lconst (v := (0 : Int64)) hx hb dX6_areLaws_18 (by decide) ?_
  refine lv_ldc2 (v := (15 : Int64)) hx hb hown (hts _ w_715) dX6_areLaws_19 ?_
  obtain ⟨t1, hc2, h⟩ := bd_some h
  refine call0 (As := [.long a1.toInt64, .long (0 : Int64), .long (15 : Int64)]) (rest := []) (st1 := [.int t1]) F (kX6_in l D cI cB cS  a1.toInt64 (0 : Int64) (15 : Int64) _ hc2 ) okX6_in w_112 (by decide) (by decide) ⟨Nat.zero_le _, Nat.zero_le _⟩ jP jD jS rfl jl.1 rfl rfl (Nat.le_of_ble_eq_true rfl) dX6_areLaws_22 (fun H locs jP jD jS => ?_)
  refine lv_if_eq (tgt := 50) hx hb dX6_areLaws_25 (by decide) (fun c3 => ?_) (fun c3 => ?_)
  · have h := itp c3 h
    refine lv_iconst (v := (0 : Int32)) hx hb dX6_areLaws_50 (by decide) ?_
    obtain rfl := Option.some.inj h
    exact hRet _ _ _ _ (Or.inl rfl) jP jD jS dX6_areLaws_51
  · have h := itn c3 h
    refine lv_iload_n hx hb dX6_areLaws_28 rfl (lv_at jl 0 rfl) ?_
    refine lv_iconst (v := (2 : Int32)) hx hb dX6_areLaws_29 (by decide) ?_
    refine lv_icmp_ge (tgt := 50) hx hb dX6_areLaws_30 (by decide) (fun c4 => ?_) (fun c4 => ?_)
    · have h := itp c4 h
      refine lv_iconst (v := (0 : Int32)) hx hb dX6_areLaws_50 (by decide) ?_
      obtain rfl := Option.some.inj h
      exact hRet _ _ _ _ (Or.inl rfl) jP jD jS dX6_areLaws_51
    · have h := itn c4 h
      refine lv_iload_n hx hb dX6_areLaws_33 rfl (lv_at jl 2 rfl) ?_
      refine lv_iconst (v := (4 : Int32)) hx hb dX6_areLaws_34 (by decide) ?_
      refine lv_iand hx hb dX6_areLaws_35 ?_
      refine lv_if_eq (tgt := 46) hx hb dX6_areLaws_36 (by decide) (fun c5 => ?_) (fun c5 => ?_)
      · have h := itp c5 h
        refine lv_iconst (v := (1 : Int32)) hx hb dX6_areLaws_46 (by decide) ?_
        refine lv_goto (tgt := 51) hx hb dX6_areLaws_47 (by decide) ?_
        obtain rfl := Option.some.inj h
        exact hRet _ _ _ _ (Or.inr rfl) jP jD jS dX6_areLaws_51
      · have h := itn c5 h
        refine lv_aload_n hx hb dX6_areLaws_39 rfl (lv_at jl 1 rfl) ?_
        refine va_get (D := D) (ci := 6) (v := .int M_x12) (C := RX6) (T := TX6) (N := 34) hx hb hts in6 hown jK.1 jP 0 rfl rfl 12 (by decide) (hts _ w_222) (fun _ h9 => h9) rfl dX6_areLaws_40 ?_
        refine lv_if_le (tgt := 50) hx hb dX6_areLaws_43 (by decide) (fun c6 => ?_) (fun c6 => ?_)
        · have h := itp c6 h
          refine lv_iconst (v := (0 : Int32)) hx hb dX6_areLaws_50 (by decide) ?_
          obtain rfl := Option.some.inj h
          exact hRet _ _ _ _ (Or.inl rfl) jP jD jS dX6_areLaws_51
        · have h := itn c6 h
          refine lv_iconst (v := (1 : Int32)) hx hb dX6_areLaws_46 (by decide) ?_
          refine lv_goto (tgt := 51) hx hb dX6_areLaws_47 (by decide) ?_
          obtain rfl := Option.some.inj h
          exact hRet _ _ _ _ (Or.inr rfl) jP jD jS dX6_areLaws_51
theorem okX6_layLaws : okV yX6_layLaws cX6_layLaws 6 none 2 := ⟨w_717, w_718, w_719, w_5, by decide, by decide, by decide +kernel⟩
def fX6_layLaws_b16 (l1 : Int32) (l2 : Int32) (M_x12 : Int32) (M_r11 : (Nat → Int32)) (v1 : (Int32 × Int32)) : Option ((Int32 × Int32) ⊕ Int32) :=
  if M_x12 ≤ v1.1 then (some (.inr v1.2)) else (bd (fX6_its (M_r11) v1.1 (2 : Int32)) (fun t1 => bd (fX6_its (M_r11) v1.2 (2 : Int32)) (fun t2 => bd (if t2 ≤ t1 then some v1.2 else some v1.1) (fun t3 => some (.inl ((v1.1 + (1 : Int32)), t3))))))
def fX6_layLaws (M_g24 : Int64) (M_g25 : Int64) (M_g26 : Int64) (M_r11 : (Nat → Int32)) (M_r15 : (Nat → Int32)) (M_r21 : (Nat → Int32)) (M_r22 : (Nat → Int32)) (M_x12 : Int32) (M_x18 : Int32) (M_x19 : Int32) (M_x20 : Int32) (M_x23 : Int32) (a1 : Int32) (a2 : Int32) : Option (Int64 × Int64 × Int64 × Int64 × (Nat → Int32) × (Nat → Int32) × Int32 × Int32 × Int32 × Int32 × Int32 × Int32) :=
  bd (if (a1 &&& (4 : Int32)) = (0 : Int32) then (some ((0 : Int64), M_x18)) else (bd (loopF (fX6_layLaws_b16 a1 a2 M_x12 M_r11) 1000 ((1 : Int32), (0 : Int32))) (fun T2 => bd (fX6_its (M_r11) T2 (0 : Int32)) (fun t10 => bd (fX6_its (M_r11) T2 (1 : Int32)) (fun t12 => some ((((800 : Int64) * t10.toInt64) * t12.toInt64), T2)))))) (fun t14 => bd (if (a1 &&& (1 : Int32)) = (1 : Int32) then (some (1 : Int32)) else (if (a1 &&& (2 : Int32)) = (0 : Int32) then (if (a1 &&& (8 : Int32)) = (0 : Int32) then (some (0 : Int32)) else (some (4 : Int32))) else (some (2 : Int32)))) (fun t18 => bd (fX6_layBest (M_g24) (M_g25) (M_g26) (M_r11) (M_r15) (M_r21) (M_r22) (M_x12) t14.2 (M_x19) (M_x20) (M_x23) t18 a2) (fun t19 => some (t19.2.1, t19.2.2.1, t19.2.2.2.1, t19.2.2.2.2.1, t19.2.2.2.2.2.1, t19.2.2.2.2.2.2.1, (-4 : Int32), t19.2.2.2.2.2.2.2.1, t19.2.2.2.2.2.2.2.2.1, t19.2.2.2.2.2.2.2.2.2.1, t19.2.2.2.2.2.2.2.2.2.2, (t19.2.2.2.2.1 - t14.1).toInt32))))
set_option maxRecDepth 100000 in
set_option maxHeartbeats 4000000 in
theorem kX6_layLaws (l : Launch) (D : va_G) (cI cB cS : ClassId) (uM : Nat) (aM : Nat → Nat) (M_x1 : Int32) (M_x2 : Int32) (M_x3 : Int32) (M_x4 : Int32) (M_x5 : Int32) (M_x6 : Int32) (M_x7 : Int32) (M_x8 : Int32) (M_x12 : Int32) (M_x14 : Int32) (M_x17 : Int32) (M_x18 : Int32) (M_x19 : Int32) (M_x20 : Int32) (M_x23 : Int32) (M_x27 : Int32) (M_x29 : Int32) (M_x33 : Int32) (M_g24 : Int64) (M_g25 : Int64) (M_g26 : Int64) (M_g28 : Int64) (M_r0 : (Nat → Int32)) (M_r9 : (Nat → Int32)) (M_r10 : (Nat → Int32)) (M_r11 : (Nat → Int32)) (M_r13 : (Nat → Int32)) (M_r15 : (Nat → Int32)) (M_r16 : (Nat → Int32)) (M_r21 : (Nat → Int32)) (M_r22 : (Nat → Int32)) (M_r30 : (Nat → Int32)) (M_r31 : (Nat → Int32)) (M_r32 : (Nat → Int32)) (a1 : Int32) (a2 : Int32) (z : (Int64 × Int64 × Int64 × Int64 × (Nat → Int32) × (Nat → Int32) × Int32 × Int32 × Int32 × Int32 × Int32 × Int32)) (h : fX6_layLaws M_g24 M_g25 M_g26 M_r11 M_r15 M_r21 M_r22 M_x12 M_x18 M_x19 M_x20 M_x23 a1 a2 = some z) : Mt l yX6_layLaws cX6_layLaws 6 none 6 138 D cI cB cS (mW cI uM aM M_x1 M_x2 M_x3 M_x4 M_x5 M_x6 M_x7 M_x8 M_x12 M_x14 M_x17 M_x18 M_x19 M_x20 M_x23 M_x27 M_x29 M_x33 M_g24 M_g25 M_g26 M_g28 M_r0 M_r9 M_r10 M_r11 M_r13 M_r15 M_r16 M_r21 M_r22 M_r30 M_r31 M_r32) (mW cI uM aM M_x1 M_x2 M_x3 M_x4 M_x5 M_x6 M_x7 M_x8 M_x12 M_x14 M_x17 z.2.2.2.2.2.2.1 z.2.2.2.2.2.2.2.1 z.2.2.2.2.2.2.2.2.1 z.2.2.2.2.2.2.2.2.2.1 z.2.2.2.2.2.2.2.2.2.2.1 z.2.2.2.2.2.2.2.2.2.2.2 M_x33 z.1 z.2.1 z.2.2.1 z.2.2.2.1 M_r0 M_r9 M_r10 M_r11 M_r13 M_r15 M_r16 z.2.2.2.2.1 z.2.2.2.2.2.1 M_r30 M_r31 M_r32) [.ref uM, .int a1, .int a2] none := by
  refine entryV (by decide +kernel) rfl (Nat.le_of_ble_eq_true rfl) ?_
  intro p e s m below meth c A ls QQ R ar F hRet jP jD jS jl
  obtain ⟨hx, hb, hml, hown, hts, jK, hA, hf1, hf2⟩ := id F
  have jl : lv_has ls 6 [(0, .ref uM), (1, .int a1), (2, .int a2)] := jl
  unfold fX6_layLaws at h
  refine lv_lconst (v := (0 : Int64)) hx hb dX6_layLaws_0 (by decide) ?_
  refine lv_lstore_n (lv' := [(3, .long (0 : Int64)), (0, .ref uM), (1, .int a1), (2, .int a2)]) hx hb dX6_layLaws_1 rfl jl (by decide) rfl (fun ls jl => ?_)
  refine lv_iload_n hx hb dX6_layLaws_2 rfl (lv_at jl 2 rfl) ?_
  refine lv_iconst (v := (4 : Int32)) hx hb dX6_layLaws_3 (by decide) ?_
  refine lv_iand hx hb dX6_layLaws_4 ?_
  obtain ⟨t14, hvt14, h⟩ := bd_some h
  have hJt14 : ∀ (H : Heap) (locs : List Loc) (ls : Array Slot), va_P D vwCl (mW cI uM aM M_x1 M_x2 M_x3 M_x4 M_x5 M_x6 M_x7 M_x8 M_x12 M_x14 M_x17 t14.2 M_x19 M_x20 M_x23 M_x27 M_x29 M_x33 M_g24 M_g25 M_g26 M_g28 M_r0 M_r9 M_r10 M_r11 M_r13 M_r15 M_r16 M_r21 M_r22 M_r30 M_r31 M_r32) H → va_D A (mW cI uM aM M_x1 M_x2 M_x3 M_x4 M_x5 M_x6 M_x7 M_x8 M_x12 M_x14 M_x17 t14.2 M_x19 M_x20 M_x23 M_x27 M_x29 M_x33 M_g24 M_g25 M_g26 M_g28 M_r0 M_r9 M_r10 M_r11 M_r13 M_r15 M_r16 M_r21 M_r22 M_r30 M_r31 M_r32) → va_S A s.heap H locs → lv_has ls 6 [(0, .ref uM), (1, .int a1), (2, .int a2), (3, .long t14.1)] → W p l e R s m ar below meth c H locs 0 0 QQ (F0 m 89 ls []) := by
    clear jP jD jS jl
    intro H locs ls jP jD jS jl
    refine lv_iload_n hx hb dX6_layLaws_89 rfl (lv_at jl 1 rfl) ?_
    refine lv_iconst (v := (1 : Int32)) hx hb dX6_layLaws_90 (by decide) ?_
    refine lv_iand hx hb dX6_layLaws_91 ?_
    refine lv_iconst (v := (1 : Int32)) hx hb dX6_layLaws_92 (by decide) ?_
    obtain ⟨t18, hvt18, h⟩ := bd_some h
    have hJt18 : ∀ (H : Heap) (locs : List Loc) (ls : Array Slot), va_P D vwCl (mW cI uM aM M_x1 M_x2 M_x3 M_x4 M_x5 M_x6 M_x7 M_x8 M_x12 M_x14 M_x17 t14.2 M_x19 M_x20 M_x23 M_x27 M_x29 M_x33 M_g24 M_g25 M_g26 M_g28 M_r0 M_r9 M_r10 M_r11 M_r13 M_r15 M_r16 M_r21 M_r22 M_r30 M_r31 M_r32) H → va_D A (mW cI uM aM M_x1 M_x2 M_x3 M_x4 M_x5 M_x6 M_x7 M_x8 M_x12 M_x14 M_x17 t14.2 M_x19 M_x20 M_x23 M_x27 M_x29 M_x33 M_g24 M_g25 M_g26 M_g28 M_r0 M_r9 M_r10 M_r11 M_r13 M_r15 M_r16 M_r21 M_r22 M_r30 M_r31 M_r32) → va_S A s.heap H locs → lv_has ls 6 [(0, .ref uM), (2, .int a2), (3, .long t14.1)] → W p l e R s m ar below meth c H locs 0 0 QQ (F0 m 122 ls [.int t18]) := by
      clear jP jD jS jl
      intro H locs ls jP jD jS jl
      refine lv_istore (lv' := [(5, .int t18), (0, .ref uM), (2, .int a2), (3, .long t14.1)]) hx hb dX6_layLaws_122 jl (by decide) rfl (fun ls jl => ?_)
      refine lv_aload_n hx hb dX6_layLaws_124 rfl (lv_at jl 1 rfl) ?_
      refine lv_iload hx hb dX6_layLaws_125 (lv_at jl 0 rfl) ?_
      refine lv_iload_n hx hb dX6_layLaws_127 rfl (lv_at jl 2 rfl) ?_
      obtain ⟨t19, hc20, h⟩ := bd_some h
      refine callW (w1 := (mW cI uM aM M_x1 M_x2 M_x3 M_x4 M_x5 M_x6 M_x7 M_x8 M_x12 M_x14 M_x17 t14.2 t19.2.2.2.2.2.2.2.1 t19.2.2.2.2.2.2.2.2.1 t19.2.2.2.2.2.2.2.2.2.1 t19.2.2.2.2.2.2.2.2.2.2 M_x29 M_x33 t19.2.1 t19.2.2.1 t19.2.2.2.1 t19.2.2.2.2.1 M_r0 M_r9 M_r10 M_r11 M_r13 M_r15 M_r16 t19.2.2.2.2.2.1 t19.2.2.2.2.2.2.1 M_r30 M_r31 M_r32)) (As := [.int t18, .int a2]) (rest := []) (st1 := [.int t19.1]) 0 F (kX6_layBest l D cI cB cS uM aM M_x1 M_x2 M_x3 M_x4 M_x5 M_x6 M_x7 M_x8 M_x12 M_x14 M_x17 t14.2 M_x19 M_x20 M_x23 M_x27 M_x29 M_x33 M_g24 M_g25 M_g26 M_g28 M_r0 M_r9 M_r10 M_r11 M_r13 M_r15 M_r16 M_r21 M_r22 M_r30 M_r31 M_r32 t18 a2 _ hc20 ) okX6_layBest w_561 (by decide) (by decide) ⟨Nat.zero_le _, Nat.zero_le _⟩ rfl rfl rfl jP jD jS rfl jl.1 rfl rfl (Nat.le_of_ble_eq_true rfl) dX6_layLaws_128 (fun H locs jP jD jS => ?_)
      refine lv_pop hx hb dX6_layLaws_131 rfl ?_
      refine lv_aload_n hx hb dX6_layLaws_132 rfl (lv_at jl 1 rfl) ?_
      refine lv_bipush (v := (-4 : Int32)) hx hb dX6_layLaws_133 (by decide) ?_
      refine va_put (D := D) (ci := 6) (v := .int (-4 : Int32)) (ty := .int) (C := RX6) (T := TX6) (N := 34) hx hb hts in6 tyX6 tyX6_ok nmX6 hown jK.1 jP jD jS 0 rfl rfl 18 (by decide) (hts _ w_84) (fun _ h9 => h9) rfl (by decide +kernel) rfl rfl (Nat.le_of_ble_eq_true rfl) dX6_layLaws_135 (fun H locs jP jD jS => ?_)
      have jP : va_P D vwCl (mW cI uM aM M_x1 M_x2 M_x3 M_x4 M_x5 M_x6 M_x7 M_x8 M_x12 M_x14 M_x17 (-4 : Int32) t19.2.2.2.2.2.2.2.1 t19.2.2.2.2.2.2.2.2.1 t19.2.2.2.2.2.2.2.2.2.1 t19.2.2.2.2.2.2.2.2.2.2 M_x29 M_x33 t19.2.1 t19.2.2.1 t19.2.2.2.1 t19.2.2.2.2.1 M_r0 M_r9 M_r10 M_r11 M_r13 M_r15 M_r16 t19.2.2.2.2.2.1 t19.2.2.2.2.2.2.1 M_r30 M_r31 M_r32) H := jP
      have jD : va_D A (mW cI uM aM M_x1 M_x2 M_x3 M_x4 M_x5 M_x6 M_x7 M_x8 M_x12 M_x14 M_x17 (-4 : Int32) t19.2.2.2.2.2.2.2.1 t19.2.2.2.2.2.2.2.2.1 t19.2.2.2.2.2.2.2.2.2.1 t19.2.2.2.2.2.2.2.2.2.2 M_x29 M_x33 t19.2.1 t19.2.2.1 t19.2.2.2.1 t19.2.2.2.2.1 M_r0 M_r9 M_r10 M_r11 M_r13 M_r15 M_r16 t19.2.2.2.2.2.1 t19.2.2.2.2.2.2.1 M_r30 M_r31 M_r32) := jD
      refine lv_aload_n hx hb dX6_layLaws_138 rfl (lv_at jl 1 rfl) ?_
      refine lv_aload_n hx hb dX6_layLaws_139 rfl (lv_at jl 1 rfl) ?_
      refine va_get (D := D) (ci := 6) (v := .long t19.2.2.2.2.1) (C := RX6) (T := TX6) (N := 34) hx hb hts in6 hown jK.1 jP 0 rfl rfl 28 (by decide) (hts _ w_560) (fun _ h9 => h9) rfl dX6_layLaws_140 ?_
      refine lv_lload_n hx hb dX6_layLaws_143 rfl (lv_at jl 3 rfl) ?_
      refine lv_lsub hx hb dX6_layLaws_144 ?_
      refine lv_l2i (v := (t19.2.2.2.2.1 - t14.1).toInt32) hx hb dX6_layLaws_145 rfl ?_
      refine va_put (D := D) (ci := 6) (v := .int ((t19.2.2.2.2.1 - t14.1).toInt32)) (ty := .int) (C := RX6) (T := TX6) (N := 34) hx hb hts in6 tyX6 tyX6_ok nmX6 hown jK.1 jP jD jS 0 rfl rfl 29 (by decide) (hts _ w_710) (fun _ h9 => h9) rfl (by decide +kernel) rfl rfl (Nat.le_of_ble_eq_true rfl) dX6_layLaws_146 (fun H locs jP jD jS => ?_)
      have jP : va_P D vwCl (mW cI uM aM M_x1 M_x2 M_x3 M_x4 M_x5 M_x6 M_x7 M_x8 M_x12 M_x14 M_x17 (-4 : Int32) t19.2.2.2.2.2.2.2.1 t19.2.2.2.2.2.2.2.2.1 t19.2.2.2.2.2.2.2.2.2.1 t19.2.2.2.2.2.2.2.2.2.2 ((t19.2.2.2.2.1 - t14.1).toInt32) M_x33 t19.2.1 t19.2.2.1 t19.2.2.2.1 t19.2.2.2.2.1 M_r0 M_r9 M_r10 M_r11 M_r13 M_r15 M_r16 t19.2.2.2.2.2.1 t19.2.2.2.2.2.2.1 M_r30 M_r31 M_r32) H := jP
      have jD : va_D A (mW cI uM aM M_x1 M_x2 M_x3 M_x4 M_x5 M_x6 M_x7 M_x8 M_x12 M_x14 M_x17 (-4 : Int32) t19.2.2.2.2.2.2.2.1 t19.2.2.2.2.2.2.2.2.1 t19.2.2.2.2.2.2.2.2.2.1 t19.2.2.2.2.2.2.2.2.2.2 ((t19.2.2.2.2.1 - t14.1).toInt32) M_x33 t19.2.1 t19.2.2.1 t19.2.2.2.1 t19.2.2.2.2.1 M_r0 M_r9 M_r10 M_r11 M_r13 M_r15 M_r16 t19.2.2.2.2.2.1 t19.2.2.2.2.2.2.1 M_r30 M_r31 M_r32) := jD
      obtain rfl := Option.some.inj h
      exact hRet _ _ _ _ jP jD jS dX6_layLaws_149
    clear h
    refine lv_icmp_ne (tgt := 100) hx hb dX6_layLaws_93 (by decide) (fun c15 => ?_) (fun c15 => ?_)
    · have hvt18 := itn c15 hvt18
      refine lv_iload_n hx hb dX6_layLaws_100 rfl (lv_at jl 1 rfl) ?_
      refine lv_iconst (v := (2 : Int32)) hx hb dX6_layLaws_101 (by decide) ?_
      refine lv_iand hx hb dX6_layLaws_102 ?_
      refine lv_if_eq (tgt := 110) hx hb dX6_layLaws_103 (by decide) (fun c16 => ?_) (fun c16 => ?_)
      · have hvt18 := itp c16 hvt18
        refine lv_iload_n hx hb dX6_layLaws_110 rfl (lv_at jl 1 rfl) ?_
        refine lv_bipush (v := (8 : Int32)) hx hb dX6_layLaws_111 (by decide) ?_
        refine lv_iand hx hb dX6_layLaws_113 ?_
        refine lv_if_eq (tgt := 121) hx hb dX6_layLaws_114 (by decide) (fun c17 => ?_) (fun c17 => ?_)
        · have hvt18 := itp c17 hvt18
          refine lv_iconst (v := (0 : Int32)) hx hb dX6_layLaws_121 (by decide) ?_
          obtain rfl := Option.some.inj hvt18
          exact hJt18 _ _ _ jP jD jS (lv_sub jl [0, 2, 3] rfl)
        · have hvt18 := itn c17 hvt18
          refine lv_iconst (v := (4 : Int32)) hx hb dX6_layLaws_117 (by decide) ?_
          refine lv_goto (tgt := 122) hx hb dX6_layLaws_118 (by decide) ?_
          obtain rfl := Option.some.inj hvt18
          exact hJt18 _ _ _ jP jD jS (lv_sub jl [0, 2, 3] rfl)
      · have hvt18 := itn c16 hvt18
        refine lv_iconst (v := (2 : Int32)) hx hb dX6_layLaws_106 (by decide) ?_
        refine lv_goto (tgt := 122) hx hb dX6_layLaws_107 (by decide) ?_
        obtain rfl := Option.some.inj hvt18
        exact hJt18 _ _ _ jP jD jS (lv_sub jl [0, 2, 3] rfl)
    · have hvt18 := itp c15 hvt18
      refine lv_iconst (v := (1 : Int32)) hx hb dX6_layLaws_96 (by decide) ?_
      refine lv_goto (tgt := 122) hx hb dX6_layLaws_97 (by decide) ?_
      obtain rfl := Option.some.inj hvt18
      exact hJt18 _ _ _ jP jD jS (lv_sub jl [0, 2, 3] rfl)
  clear h
  refine lv_if_eq (tgt := 89) hx hb dX6_layLaws_5 (by decide) (fun c1 => ?_) (fun c1 => ?_)
  · have hvt14 := itp c1 hvt14
    obtain rfl := Option.some.inj hvt14
    exact hJt14 _ _ _ jP jD jS (lv_sub jl [1, 2, 3, 0] rfl)
  · have hvt14 := itn c1 hvt14
    refine lv_aload_n hx hb dX6_layLaws_8 rfl (lv_at jl 1 rfl) ?_
    refine lv_iconst (v := (0 : Int32)) hx hb dX6_layLaws_9 (by decide) ?_
    refine va_put (D := D) (ci := 6) (v := .int (0 : Int32)) (ty := .int) (C := RX6) (T := TX6) (N := 34) hx hb hts in6 tyX6 tyX6_ok nmX6 hown jK.1 jP jD jS 0 rfl rfl 18 (by decide) (hts _ w_84) (fun _ h9 => h9) rfl (by decide +kernel) rfl rfl (Nat.le_of_ble_eq_true rfl) dX6_layLaws_10 (fun H locs jP jD jS => ?_)
    have jP : va_P D vwCl (mW cI uM aM M_x1 M_x2 M_x3 M_x4 M_x5 M_x6 M_x7 M_x8 M_x12 M_x14 M_x17 (0 : Int32) M_x19 M_x20 M_x23 M_x27 M_x29 M_x33 M_g24 M_g25 M_g26 M_g28 M_r0 M_r9 M_r10 M_r11 M_r13 M_r15 M_r16 M_r21 M_r22 M_r30 M_r31 M_r32) H := jP
    have jD : va_D A (mW cI uM aM M_x1 M_x2 M_x3 M_x4 M_x5 M_x6 M_x7 M_x8 M_x12 M_x14 M_x17 (0 : Int32) M_x19 M_x20 M_x23 M_x27 M_x29 M_x33 M_g24 M_g25 M_g26 M_g28 M_r0 M_r9 M_r10 M_r11 M_r13 M_r15 M_r16 M_r21 M_r22 M_r30 M_r31 M_r32) := jD
    refine lv_iconst (v := (1 : Int32)) hx hb dX6_layLaws_13 (by decide) ?_
    refine lv_istore (lv' := [(5, .int (1 : Int32)), (3, .long (0 : Int64)), (0, .ref uM), (1, .int a1), (2, .int a2)]) hx hb dX6_layLaws_14 jl (by decide) rfl (fun ls jl => ?_)
    obtain ⟨T2, hT2, hz2⟩ := bd_some hvt14
    clear hvt14
    have hE2 : ∀ (H : Heap) (locs : List Loc) (ls : Array Slot), va_P D vwCl (mW cI uM aM M_x1 M_x2 M_x3 M_x4 M_x5 M_x6 M_x7 M_x8 M_x12 M_x14 M_x17 T2 M_x19 M_x20 M_x23 M_x27 M_x29 M_x33 M_g24 M_g25 M_g26 M_g28 M_r0 M_r9 M_r10 M_r11 M_r13 M_r15 M_r16 M_r21 M_r22 M_r30 M_r31 M_r32) H → va_D A (mW cI uM aM M_x1 M_x2 M_x3 M_x4 M_x5 M_x6 M_x7 M_x8 M_x12 M_x14 M_x17 T2 M_x19 M_x20 M_x23 M_x27 M_x29 M_x33 M_g24 M_g25 M_g26 M_g28 M_r0 M_r9 M_r10 M_r11 M_r13 M_r15 M_r16 M_r21 M_r22 M_r30 M_r31 M_r32) → va_S A s.heap H locs → lv_has ls 6 [(0, .ref uM), (1, .int a1), (2, .int a2)] → W p l e R s m ar below meth c H locs 0 0 QQ (F0 m 63 ls []) := by
      clear jP jD jS jl
      intro H locs ls jP jD jS jl
      refine lv_ldc2 (v := (800 : Int64)) hx hb hown (hts _ w_429) dX6_layLaws_63 ?_
      refine lv_aload_n hx hb dX6_layLaws_66 rfl (lv_at jl 0 rfl) ?_
      refine lv_aload_n hx hb dX6_layLaws_67 rfl (lv_at jl 0 rfl) ?_
      refine va_get (D := D) (ci := 6) (v := .int T2) (C := RX6) (T := TX6) (N := 34) hx hb hts in6 hown jK.1 jP 0 rfl rfl 18 (by decide) (hts _ w_84) (fun _ h9 => h9) rfl dX6_layLaws_68 ?_
      refine lv_iconst (v := (0 : Int32)) hx hb dX6_layLaws_71 (by decide) ?_
      obtain ⟨t10, hc11, hz2⟩ := bd_some hz2
      refine callW (w1 := (mW cI uM aM M_x1 M_x2 M_x3 M_x4 M_x5 M_x6 M_x7 M_x8 M_x12 M_x14 M_x17 T2 M_x19 M_x20 M_x23 M_x27 M_x29 M_x33 M_g24 M_g25 M_g26 M_g28 M_r0 M_r9 M_r10 M_r11 M_r13 M_r15 M_r16 M_r21 M_r22 M_r30 M_r31 M_r32)) (As := [.int T2, .int (0 : Int32)]) (rest := [.long (800 : Int64)]) (st1 := [.int t10, .long (800 : Int64)]) 0 F (kX6_its l D cI cB cS uM aM M_x1 M_x2 M_x3 M_x4 M_x5 M_x6 M_x7 M_x8 M_x12 M_x14 M_x17 T2 M_x19 M_x20 M_x23 M_x27 M_x29 M_x33 M_g24 M_g25 M_g26 M_g28 M_r0 M_r9 M_r10 M_r11 M_r13 M_r15 M_r16 M_r21 M_r22 M_r30 M_r31 M_r32 T2 (0 : Int32) _ hc11 ) okX6_its w_320 (by decide) (by decide) ⟨Nat.zero_le _, Nat.zero_le _⟩ rfl rfl rfl jP jD jS rfl jl.1 rfl rfl (Nat.le_of_ble_eq_true rfl) dX6_layLaws_72 (fun H locs jP jD jS => ?_)
      refine lv_i2l (v := t10.toInt64) hx hb dX6_layLaws_75 rfl ?_
      refine lv_lmul hx hb dX6_layLaws_76 ?_
      refine lv_aload_n hx hb dX6_layLaws_77 rfl (lv_at jl 0 rfl) ?_
      refine lv_aload_n hx hb dX6_layLaws_78 rfl (lv_at jl 0 rfl) ?_
      refine va_get (D := D) (ci := 6) (v := .int T2) (C := RX6) (T := TX6) (N := 34) hx hb hts in6 hown jK.1 jP 0 rfl rfl 18 (by decide) (hts _ w_84) (fun _ h9 => h9) rfl dX6_layLaws_79 ?_
      refine lv_iconst (v := (1 : Int32)) hx hb dX6_layLaws_82 (by decide) ?_
      obtain ⟨t12, hc13, hz2⟩ := bd_some hz2
      refine callW (w1 := (mW cI uM aM M_x1 M_x2 M_x3 M_x4 M_x5 M_x6 M_x7 M_x8 M_x12 M_x14 M_x17 T2 M_x19 M_x20 M_x23 M_x27 M_x29 M_x33 M_g24 M_g25 M_g26 M_g28 M_r0 M_r9 M_r10 M_r11 M_r13 M_r15 M_r16 M_r21 M_r22 M_r30 M_r31 M_r32)) (As := [.int T2, .int (1 : Int32)]) (rest := [.long ((800 : Int64) * t10.toInt64)]) (st1 := [.int t12, .long ((800 : Int64) * t10.toInt64)]) 0 F (kX6_its l D cI cB cS uM aM M_x1 M_x2 M_x3 M_x4 M_x5 M_x6 M_x7 M_x8 M_x12 M_x14 M_x17 T2 M_x19 M_x20 M_x23 M_x27 M_x29 M_x33 M_g24 M_g25 M_g26 M_g28 M_r0 M_r9 M_r10 M_r11 M_r13 M_r15 M_r16 M_r21 M_r22 M_r30 M_r31 M_r32 T2 (1 : Int32) _ hc13 ) okX6_its w_320 (by decide) (by decide) ⟨Nat.zero_le _, Nat.zero_le _⟩ rfl rfl rfl jP jD jS rfl jl.1 rfl rfl (Nat.le_of_ble_eq_true rfl) dX6_layLaws_83 (fun H locs jP jD jS => ?_)
      refine lv_i2l (v := t12.toInt64) hx hb dX6_layLaws_86 rfl ?_
      refine lv_lmul hx hb dX6_layLaws_87 ?_
      refine lv_lstore_n (lv' := [(3, .long (((800 : Int64) * t10.toInt64) * t12.toInt64)), (0, .ref uM), (1, .int a1), (2, .int a2)]) hx hb dX6_layLaws_88 rfl jl (by decide) rfl (fun ls jl => ?_)
      obtain rfl := Option.some.inj hz2
      exact hJt14 _ _ _ jP jD jS (lv_sub jl [1, 2, 3, 0] rfl)
    have hL2 : ∀ (n : Nat) (v2 : (Int32 × Int32)), loopF (fX6_layLaws_b16 a1 a2 M_x12 M_r11) n v2 = some T2 → ∀ (H : Heap) (locs : List Loc) (ls : Array Slot), va_P D vwCl (mW cI uM aM M_x1 M_x2 M_x3 M_x4 M_x5 M_x6 M_x7 M_x8 M_x12 M_x14 M_x17 v2.2 M_x19 M_x20 M_x23 M_x27 M_x29 M_x33 M_g24 M_g25 M_g26 M_g28 M_r0 M_r9 M_r10 M_r11 M_r13 M_r15 M_r16 M_r21 M_r22 M_r30 M_r31 M_r32) H → va_D A (mW cI uM aM M_x1 M_x2 M_x3 M_x4 M_x5 M_x6 M_x7 M_x8 M_x12 M_x14 M_x17 v2.2 M_x19 M_x20 M_x23 M_x27 M_x29 M_x33 M_g24 M_g25 M_g26 M_g28 M_r0 M_r9 M_r10 M_r11 M_r13 M_r15 M_r16 M_r21 M_r22 M_r30 M_r31 M_r32) → va_S A s.heap H locs → lv_has ls 6 [(0, .ref uM), (1, .int a1), (2, .int a2), (5, .int v2.1)] → W p l e R s m ar below meth c H locs 0 0 QQ (F0 m 16 ls []) := by
      clear jP jD jS jl hT2
      intro n
      induction n with
      | zero => intro v2 hq; exact (loop_none hq).elim
      | succ n ih =>
        intro v2 hq H locs ls jP jD jS jl
        obtain ⟨o2, hv2, hq2⟩ := loop_some hq
        clear hq
        unfold fX6_layLaws_b16 at hv2
        refine lv_iload hx hb dX6_layLaws_16 (lv_at jl 3 rfl) ?_
        refine lv_aload_n hx hb dX6_layLaws_18 rfl (lv_at jl 0 rfl) ?_
        refine va_get (D := D) (ci := 6) (v := .int M_x12) (C := RX6) (T := TX6) (N := 34) hx hb hts in6 hown jK.1 jP 0 rfl rfl 12 (by decide) (hts _ w_222) (fun _ h9 => h9) rfl dX6_layLaws_19 ?_
        refine lv_icmp_ge (tgt := 63) hx hb dX6_layLaws_22 (by decide) (fun c3 => ?_) (fun c3 => ?_)
        · have hv2 := itp c3 hv2
          obtain rfl := Option.some.inj hv2
          obtain rfl := nxt_r hq2
          exact hE2 _ _ _ jP jD jS (lv_sub jl [0, 1, 2] rfl)
        · have hv2 := itn c3 hv2
          refine lv_aload_n hx hb dX6_layLaws_25 rfl (lv_at jl 0 rfl) ?_
          refine lv_aload_n hx hb dX6_layLaws_26 rfl (lv_at jl 0 rfl) ?_
          refine lv_iload hx hb dX6_layLaws_27 (lv_at jl 3 rfl) ?_
          refine lv_iconst (v := (2 : Int32)) hx hb dX6_layLaws_29 (by decide) ?_
          obtain ⟨t4, hc5, hv2⟩ := bd_some hv2
          refine callW (w1 := (mW cI uM aM M_x1 M_x2 M_x3 M_x4 M_x5 M_x6 M_x7 M_x8 M_x12 M_x14 M_x17 v2.2 M_x19 M_x20 M_x23 M_x27 M_x29 M_x33 M_g24 M_g25 M_g26 M_g28 M_r0 M_r9 M_r10 M_r11 M_r13 M_r15 M_r16 M_r21 M_r22 M_r30 M_r31 M_r32)) (As := [.int v2.1, .int (2 : Int32)]) (rest := [.ref uM]) (st1 := [.int t4, .ref uM]) 0 F (kX6_its l D cI cB cS uM aM M_x1 M_x2 M_x3 M_x4 M_x5 M_x6 M_x7 M_x8 M_x12 M_x14 M_x17 v2.2 M_x19 M_x20 M_x23 M_x27 M_x29 M_x33 M_g24 M_g25 M_g26 M_g28 M_r0 M_r9 M_r10 M_r11 M_r13 M_r15 M_r16 M_r21 M_r22 M_r30 M_r31 M_r32 v2.1 (2 : Int32) _ hc5 ) okX6_its w_320 (by decide) (by decide) ⟨Nat.zero_le _, Nat.zero_le _⟩ rfl rfl rfl jP jD jS rfl jl.1 rfl rfl (Nat.le_of_ble_eq_true rfl) dX6_layLaws_30 (fun H locs jP jD jS => ?_)
          refine lv_aload_n hx hb dX6_layLaws_33 rfl (lv_at jl 0 rfl) ?_
          refine lv_aload_n hx hb dX6_layLaws_34 rfl (lv_at jl 0 rfl) ?_
          refine va_get (D := D) (ci := 6) (v := .int v2.2) (C := RX6) (T := TX6) (N := 34) hx hb hts in6 hown jK.1 jP 0 rfl rfl 18 (by decide) (hts _ w_84) (fun _ h9 => h9) rfl dX6_layLaws_35 ?_
          refine lv_iconst (v := (2 : Int32)) hx hb dX6_layLaws_38 (by decide) ?_
          obtain ⟨t6, hc7, hv2⟩ := bd_some hv2
          refine callW (w1 := (mW cI uM aM M_x1 M_x2 M_x3 M_x4 M_x5 M_x6 M_x7 M_x8 M_x12 M_x14 M_x17 v2.2 M_x19 M_x20 M_x23 M_x27 M_x29 M_x33 M_g24 M_g25 M_g26 M_g28 M_r0 M_r9 M_r10 M_r11 M_r13 M_r15 M_r16 M_r21 M_r22 M_r30 M_r31 M_r32)) (As := [.int v2.2, .int (2 : Int32)]) (rest := [.int t4, .ref uM]) (st1 := [.int t6, .int t4, .ref uM]) 0 F (kX6_its l D cI cB cS uM aM M_x1 M_x2 M_x3 M_x4 M_x5 M_x6 M_x7 M_x8 M_x12 M_x14 M_x17 v2.2 M_x19 M_x20 M_x23 M_x27 M_x29 M_x33 M_g24 M_g25 M_g26 M_g28 M_r0 M_r9 M_r10 M_r11 M_r13 M_r15 M_r16 M_r21 M_r22 M_r30 M_r31 M_r32 v2.2 (2 : Int32) _ hc7 ) okX6_its w_320 (by decide) (by decide) ⟨Nat.zero_le _, Nat.zero_le _⟩ rfl rfl rfl jP jD jS rfl jl.1 rfl rfl (Nat.le_of_ble_eq_true rfl) dX6_layLaws_39 (fun H locs jP jD jS => ?_)
          obtain ⟨t9, hvt9, hv2⟩ := bd_some hv2
          have hJt9 : ∀ (H : Heap) (locs : List Loc) (ls : Array Slot), va_P D vwCl (mW cI uM aM M_x1 M_x2 M_x3 M_x4 M_x5 M_x6 M_x7 M_x8 M_x12 M_x14 M_x17 v2.2 M_x19 M_x20 M_x23 M_x27 M_x29 M_x33 M_g24 M_g25 M_g26 M_g28 M_r0 M_r9 M_r10 M_r11 M_r13 M_r15 M_r16 M_r21 M_r22 M_r30 M_r31 M_r32) H → va_D A (mW cI uM aM M_x1 M_x2 M_x3 M_x4 M_x5 M_x6 M_x7 M_x8 M_x12 M_x14 M_x17 v2.2 M_x19 M_x20 M_x23 M_x27 M_x29 M_x33 M_g24 M_g25 M_g26 M_g28 M_r0 M_r9 M_r10 M_r11 M_r13 M_r15 M_r16 M_r21 M_r22 M_r30 M_r31 M_r32) → va_S A s.heap H locs → lv_has ls 6 [(0, .ref uM), (1, .int a1), (2, .int a2), (5, .int v2.1)] → W p l e R s m ar below meth c H locs 0 0 QQ (F0 m 54 ls [.int t9, .ref uM]) := by
            clear jP jD jS jl
            intro H locs ls jP jD jS jl
            refine va_put (D := D) (ci := 6) (v := .int t9) (ty := .int) (C := RX6) (T := TX6) (N := 34) hx hb hts in6 tyX6 tyX6_ok nmX6 hown jK.1 jP jD jS 0 rfl rfl 18 (by decide) (hts _ w_84) (fun _ h9 => h9) rfl (by decide +kernel) rfl rfl (Nat.le_of_ble_eq_true rfl) dX6_layLaws_54 (fun H locs jP jD jS => ?_)
            have jP : va_P D vwCl (mW cI uM aM M_x1 M_x2 M_x3 M_x4 M_x5 M_x6 M_x7 M_x8 M_x12 M_x14 M_x17 t9 M_x19 M_x20 M_x23 M_x27 M_x29 M_x33 M_g24 M_g25 M_g26 M_g28 M_r0 M_r9 M_r10 M_r11 M_r13 M_r15 M_r16 M_r21 M_r22 M_r30 M_r31 M_r32) H := jP
            have jD : va_D A (mW cI uM aM M_x1 M_x2 M_x3 M_x4 M_x5 M_x6 M_x7 M_x8 M_x12 M_x14 M_x17 t9 M_x19 M_x20 M_x23 M_x27 M_x29 M_x33 M_g24 M_g25 M_g26 M_g28 M_r0 M_r9 M_r10 M_r11 M_r13 M_r15 M_r16 M_r21 M_r22 M_r30 M_r31 M_r32) := jD
            refine lv_iinc (v := (v2.1 + (1 : Int32))) (lv' := [(5, .int (v2.1 + (1 : Int32))), (0, .ref uM), (1, .int a1), (2, .int a2)]) hx hb dX6_layLaws_57 jl (k := 3) rfl rfl (by decide) rfl (fun ls jl => ?_)
            refine lv_goto (tgt := 16) hx hb dX6_layLaws_60 (by decide) ?_
            obtain rfl := Option.some.inj hv2
            exact ih _ (nxt_l hq2) _ _ _ jP jD jS (lv_sub jl [1, 2, 3, 0] rfl)
          clear hv2
          refine lv_icmp_ge (tgt := 50) hx hb dX6_layLaws_42 (by decide) (fun c8 => ?_) (fun c8 => ?_)
          · have hvt9 := itp c8 hvt9
            refine lv_aload_n hx hb dX6_layLaws_50 rfl (lv_at jl 0 rfl) ?_
            refine va_get (D := D) (ci := 6) (v := .int v2.2) (C := RX6) (T := TX6) (N := 34) hx hb hts in6 hown jK.1 jP 0 rfl rfl 18 (by decide) (hts _ w_84) (fun _ h9 => h9) rfl dX6_layLaws_51 ?_
            obtain rfl := Option.some.inj hvt9
            exact hJt9 _ _ _ jP jD jS (lv_sub jl [0, 1, 2, 3] rfl)
          · have hvt9 := itn c8 hvt9
            refine lv_iload hx hb dX6_layLaws_45 (lv_at jl 3 rfl) ?_
            refine lv_goto (tgt := 54) hx hb dX6_layLaws_47 (by decide) ?_
            obtain rfl := Option.some.inj hvt9
            exact hJt9 _ _ _ jP jD jS (lv_sub jl [0, 1, 2, 3] rfl)
    exact hL2 1000 _ hT2 _ _ _ jP jD jS (lv_sub jl [2, 3, 4, 0] rfl)
theorem okX6_laws : okV yX6_laws cX6_laws 4 (some .int) 3 := ⟨w_707, w_708, w_709, w_5, by decide, by decide, by decide +kernel⟩
def fX6_laws (M_g24 : Int64) (M_g25 : Int64) (M_g26 : Int64) (M_g28 : Int64) (M_r11 : (Nat → Int32)) (M_r15 : (Nat → Int32)) (M_r21 : (Nat → Int32)) (M_r22 : (Nat → Int32)) (M_x12 : Int32) (M_x18 : Int32) (M_x19 : Int32) (M_x20 : Int32) (M_x23 : Int32) (M_x27 : Int32) (M_x29 : Int32) (a1 : Int32) (a2 : Int32) (a3 : Int32) : Option (Int32 × Int64 × Int64 × Int64 × Int64 × (Nat → Int32) × (Nat → Int32) × Int32 × Int32 × Int32 × Int32 × Int32 × Int32) :=
  bd (fX6_areLaws (M_x12) a1) (fun t1 => if t1 = (0 : Int32) then (some ((-1000000000 : Int32), M_g24, M_g25, M_g26, M_g28, M_r21, M_r22, M_x18, M_x19, M_x20, M_x23, M_x27, M_x29)) else (bd (fX6_in a2.toInt64 (0 : Int64) (99 : Int64)) (fun t4 => if t4 = (0 : Int32) then (some ((-1000000000 : Int32), M_g24, M_g25, M_g26, M_g28, M_r21, M_r22, M_x18, M_x19, M_x20, M_x23, M_x27, M_x29)) else (bd (fX6_in a3.toInt64 (0 : Int64) (1 : Int64)) (fun t7 => if t7 = (0 : Int32) then (some ((-1000000000 : Int32), M_g24, M_g25, M_g26, M_g28, M_r21, M_r22, M_x18, M_x19, M_x20, M_x23, M_x27, M_x29)) else (bd (fX6_layLaws (M_g24) (M_g25) (M_g26) (M_r11) (M_r15) (M_r21) (M_r22) (M_x12) (M_x18) (M_x19) (M_x20) (M_x23) a1 a2) (fun t10 => if a3 = (0 : Int32) then (some (t10.2.2.2.2.2.2.2.2.2.2.2, t10.1, t10.2.1, t10.2.2.1, t10.2.2.2.1, t10.2.2.2.2.1, t10.2.2.2.2.2.1, t10.2.2.2.2.2.2.1, t10.2.2.2.2.2.2.2.1, t10.2.2.2.2.2.2.2.2.1, t10.2.2.2.2.2.2.2.2.2.1, t10.2.2.2.2.2.2.2.2.2.2.1, t10.2.2.2.2.2.2.2.2.2.2.2)) else (if t10.2.2.2.2.2.2.2.2.2.2.1 = (-4 : Int32) then (some ((-1000000004 : Int32), t10.1, t10.2.1, t10.2.2.1, t10.2.2.2.1, t10.2.2.2.2.1, t10.2.2.2.2.2.1, t10.2.2.2.2.2.2.1, t10.2.2.2.2.2.2.2.1, t10.2.2.2.2.2.2.2.2.1, t10.2.2.2.2.2.2.2.2.2.1, t10.2.2.2.2.2.2.2.2.2.2.1, t10.2.2.2.2.2.2.2.2.2.2.2)) else (some (t10.2.2.2.2.2.2.2.2.2.2.1, t10.1, t10.2.1, t10.2.2.1, t10.2.2.2.1, t10.2.2.2.2.1, t10.2.2.2.2.2.1, t10.2.2.2.2.2.2.1, t10.2.2.2.2.2.2.2.1, t10.2.2.2.2.2.2.2.2.1, t10.2.2.2.2.2.2.2.2.2.1, t10.2.2.2.2.2.2.2.2.2.2.1, t10.2.2.2.2.2.2.2.2.2.2.2))))))))))
set_option maxRecDepth 100000 in
set_option maxHeartbeats 4000000 in
theorem kX6_laws (l : Launch) (D : va_G) (cI cB cS : ClassId) (uM : Nat) (aM : Nat → Nat) (M_x1 : Int32) (M_x2 : Int32) (M_x3 : Int32) (M_x4 : Int32) (M_x5 : Int32) (M_x6 : Int32) (M_x7 : Int32) (M_x8 : Int32) (M_x12 : Int32) (M_x14 : Int32) (M_x17 : Int32) (M_x18 : Int32) (M_x19 : Int32) (M_x20 : Int32) (M_x23 : Int32) (M_x27 : Int32) (M_x29 : Int32) (M_x33 : Int32) (M_g24 : Int64) (M_g25 : Int64) (M_g26 : Int64) (M_g28 : Int64) (M_r0 : (Nat → Int32)) (M_r9 : (Nat → Int32)) (M_r10 : (Nat → Int32)) (M_r11 : (Nat → Int32)) (M_r13 : (Nat → Int32)) (M_r15 : (Nat → Int32)) (M_r16 : (Nat → Int32)) (M_r21 : (Nat → Int32)) (M_r22 : (Nat → Int32)) (M_r30 : (Nat → Int32)) (M_r31 : (Nat → Int32)) (M_r32 : (Nat → Int32)) (a1 : Int32) (a2 : Int32) (a3 : Int32) (z : (Int32 × Int64 × Int64 × Int64 × Int64 × (Nat → Int32) × (Nat → Int32) × Int32 × Int32 × Int32 × Int32 × Int32 × Int32)) (h : fX6_laws M_g24 M_g25 M_g26 M_g28 M_r11 M_r15 M_r21 M_r22 M_x12 M_x18 M_x19 M_x20 M_x23 M_x27 M_x29 a1 a2 a3 = some z) : Mt l yX6_laws cX6_laws 4 (some .int) 7 163 D cI cB cS (mW cI uM aM M_x1 M_x2 M_x3 M_x4 M_x5 M_x6 M_x7 M_x8 M_x12 M_x14 M_x17 M_x18 M_x19 M_x20 M_x23 M_x27 M_x29 M_x33 M_g24 M_g25 M_g26 M_g28 M_r0 M_r9 M_r10 M_r11 M_r13 M_r15 M_r16 M_r21 M_r22 M_r30 M_r31 M_r32) (mW cI uM aM M_x1 M_x2 M_x3 M_x4 M_x5 M_x6 M_x7 M_x8 M_x12 M_x14 M_x17 z.2.2.2.2.2.2.2.1 z.2.2.2.2.2.2.2.2.1 z.2.2.2.2.2.2.2.2.2.1 z.2.2.2.2.2.2.2.2.2.2.1 z.2.2.2.2.2.2.2.2.2.2.2.1 z.2.2.2.2.2.2.2.2.2.2.2.2 M_x33 z.2.1 z.2.2.1 z.2.2.2.1 z.2.2.2.2.1 M_r0 M_r9 M_r10 M_r11 M_r13 M_r15 M_r16 z.2.2.2.2.2.1 z.2.2.2.2.2.2.1 M_r30 M_r31 M_r32) [.ref uM, .int a1, .int a2, .int a3] (some (.int z.1)) := by
  refine entryI (by decide +kernel) rfl (Nat.le_of_ble_eq_true rfl) ?_
  intro p e s m below meth c A ls QQ R ar F hRet jP jD jS jl
  obtain ⟨hx, hb, hml, hown, hts, jK, hA, hf1, hf2⟩ := id F
  have jl : lv_has ls 4 [(0, .ref uM), (1, .int a1), (2, .int a2), (3, .int a3)] := jl
  unfold fX6_laws at h
  refine lv_aload_n hx hb dX6_laws_0 rfl (lv_at jl 0 rfl) ?_
  refine lv_iload_n hx hb dX6_laws_1 rfl (lv_at jl 1 rfl) ?_
  obtain ⟨t1, hc2, h⟩ := bd_some h
  refine callW (w1 := (mW cI uM aM M_x1 M_x2 M_x3 M_x4 M_x5 M_x6 M_x7 M_x8 M_x12 M_x14 M_x17 M_x18 M_x19 M_x20 M_x23 M_x27 M_x29 M_x33 M_g24 M_g25 M_g26 M_g28 M_r0 M_r9 M_r10 M_r11 M_r13 M_r15 M_r16 M_r21 M_r22 M_r30 M_r31 M_r32)) (As := [.int a1]) (rest := []) (st1 := [.int t1]) 0 F (kX6_areLaws l D cI cB cS uM aM M_x1 M_x2 M_x3 M_x4 M_x5 M_x6 M_x7 M_x8 M_x12 M_x14 M_x17 M_x18 M_x19 M_x20 M_x23 M_x27 M_x29 M_x33 M_g24 M_g25 M_g26 M_g28 M_r0 M_r9 M_r10 M_r11 M_r13 M_r15 M_r16 M_r21 M_r22 M_r30 M_r31 M_r32 a1 _ hc2 ) okX6_areLaws w_711 (by decide) (by decide) ⟨Nat.zero_le _, Nat.zero_le _⟩ rfl rfl rfl jP jD jS rfl jl.1 rfl rfl (Nat.le_of_ble_eq_true rfl) dX6_laws_2 (fun H locs jP jD jS => ?_)
  refine lv_if_eq (tgt := 30) hx hb dX6_laws_5 (by decide) (fun c3 => ?_) (fun c3 => ?_)
  · have h := itp c3 h
    refine lv_ldc (v := (-1000000000 : Int32)) hx hb hown (hts _ w_478) dX6_laws_30 ?_
    obtain rfl := Option.some.inj h
    exact hRet _ _ _ _ jP jD jS dX6_laws_32
  · have h := itn c3 h
    refine lv_iload_n hx hb dX6_laws_8 rfl (lv_at jl 2 rfl) ?_
    refine lv_i2l (v := a2.toInt64) hx hb dX6_laws_9 rfl ?_
    refine lv_lconst (v := (0 : Int64)) hx hb dX6_laws_10 (by decide) ?_
    refine lv_ldc2 (v := (99 : Int64)) hx hb hown (hts _ w_289) dX6_laws_11 ?_
    obtain ⟨t4, hc5, h⟩ := bd_some h
    refine call0 (As := [.long a2.toInt64, .long (0 : Int64), .long (99 : Int64)]) (rest := []) (st1 := [.int t4]) F (kX6_in l D cI cB cS  a2.toInt64 (0 : Int64) (99 : Int64) _ hc5 ) okX6_in w_112 (by decide) (by decide) ⟨Nat.zero_le _, Nat.zero_le _⟩ jP jD jS rfl jl.1 rfl rfl (Nat.le_of_ble_eq_true rfl) dX6_laws_14 (fun H locs jP jD jS => ?_)
    refine lv_if_eq (tgt := 30) hx hb dX6_laws_17 (by decide) (fun c6 => ?_) (fun c6 => ?_)
    · have h := itp c6 h
      refine lv_ldc (v := (-1000000000 : Int32)) hx hb hown (hts _ w_478) dX6_laws_30 ?_
      obtain rfl := Option.some.inj h
      exact hRet _ _ _ _ jP jD jS dX6_laws_32
    · have h := itn c6 h
      refine lv_iload_n hx hb dX6_laws_20 rfl (lv_at jl 3 rfl) ?_
      refine lv_i2l (v := a3.toInt64) hx hb dX6_laws_21 rfl ?_
      refine lv_lconst (v := (0 : Int64)) hx hb dX6_laws_22 (by decide) ?_
      refine lv_lconst (v := (1 : Int64)) hx hb dX6_laws_23 (by decide) ?_
      obtain ⟨t7, hc8, h⟩ := bd_some h
      refine call0 (As := [.long a3.toInt64, .long (0 : Int64), .long (1 : Int64)]) (rest := []) (st1 := [.int t7]) F (kX6_in l D cI cB cS  a3.toInt64 (0 : Int64) (1 : Int64) _ hc8 ) okX6_in w_112 (by decide) (by decide) ⟨Nat.zero_le _, Nat.zero_le _⟩ jP jD jS rfl jl.1 rfl rfl (Nat.le_of_ble_eq_true rfl) dX6_laws_24 (fun H locs jP jD jS => ?_)
      refine lv_if_ne (tgt := 33) hx hb dX6_laws_27 (by decide) (fun c9 => ?_) (fun c9 => ?_)
      · have h := itn c9 h
        refine lv_aload_n hx hb dX6_laws_33 rfl (lv_at jl 0 rfl) ?_
        refine lv_iload_n hx hb dX6_laws_34 rfl (lv_at jl 1 rfl) ?_
        refine lv_iload_n hx hb dX6_laws_35 rfl (lv_at jl 2 rfl) ?_
        obtain ⟨t10, hc11, h⟩ := bd_some h
        refine callW (w1 := (mW cI uM aM M_x1 M_x2 M_x3 M_x4 M_x5 M_x6 M_x7 M_x8 M_x12 M_x14 M_x17 t10.2.2.2.2.2.2.1 t10.2.2.2.2.2.2.2.1 t10.2.2.2.2.2.2.2.2.1 t10.2.2.2.2.2.2.2.2.2.1 t10.2.2.2.2.2.2.2.2.2.2.1 t10.2.2.2.2.2.2.2.2.2.2.2 M_x33 t10.1 t10.2.1 t10.2.2.1 t10.2.2.2.1 M_r0 M_r9 M_r10 M_r11 M_r13 M_r15 M_r16 t10.2.2.2.2.1 t10.2.2.2.2.2.1 M_r30 M_r31 M_r32)) (As := [.int a1, .int a2]) (rest := []) (st1 := []) 0 F (kX6_layLaws l D cI cB cS uM aM M_x1 M_x2 M_x3 M_x4 M_x5 M_x6 M_x7 M_x8 M_x12 M_x14 M_x17 M_x18 M_x19 M_x20 M_x23 M_x27 M_x29 M_x33 M_g24 M_g25 M_g26 M_g28 M_r0 M_r9 M_r10 M_r11 M_r13 M_r15 M_r16 M_r21 M_r22 M_r30 M_r31 M_r32 a1 a2 _ hc11 ) okX6_layLaws w_716 (by decide) (by decide) ⟨Nat.zero_le _, Nat.zero_le _⟩ rfl rfl rfl jP jD jS rfl jl.1 rfl rfl (Nat.le_of_ble_eq_true rfl) dX6_laws_36 (fun H locs jP jD jS => ?_)
        refine lv_iload_n hx hb dX6_laws_39 rfl (lv_at jl 3 rfl) ?_
        refine lv_if_ne (tgt := 50) hx hb dX6_laws_40 (by decide) (fun c12 => ?_) (fun c12 => ?_)
        · have h := itn c12 h
          refine lv_aload_n hx hb dX6_laws_50 rfl (lv_at jl 0 rfl) ?_
          refine va_get (D := D) (ci := 6) (v := .int t10.2.2.2.2.2.2.2.2.2.2.1) (C := RX6) (T := TX6) (N := 34) hx hb hts in6 hown jK.1 jP 0 rfl rfl 27 (by decide) (hts _ w_559) (fun _ h9 => h9) rfl dX6_laws_51 ?_
          refine lv_bipush (v := (-4 : Int32)) hx hb dX6_laws_54 (by decide) ?_
          refine lv_icmp_ne (tgt := 64) hx hb dX6_laws_56 (by decide) (fun c13 => ?_) (fun c13 => ?_)
          · have h := itn c13 h
            refine lv_aload_n hx hb dX6_laws_64 rfl (lv_at jl 0 rfl) ?_
            refine va_get (D := D) (ci := 6) (v := .int t10.2.2.2.2.2.2.2.2.2.2.1) (C := RX6) (T := TX6) (N := 34) hx hb hts in6 hown jK.1 jP 0 rfl rfl 27 (by decide) (hts _ w_559) (fun _ h9 => h9) rfl dX6_laws_65 ?_
            obtain rfl := Option.some.inj h
            exact hRet _ _ _ _ jP jD jS dX6_laws_68
          · have h := itp c13 h
            refine lv_ldc (v := (-1000000004 : Int32)) hx hb hown (hts _ w_479) dX6_laws_59 ?_
            refine lv_goto (tgt := 68) hx hb dX6_laws_61 (by decide) ?_
            obtain rfl := Option.some.inj h
            exact hRet _ _ _ _ jP jD jS dX6_laws_68
        · have h := itp c12 h
          refine lv_aload_n hx hb dX6_laws_43 rfl (lv_at jl 0 rfl) ?_
          refine va_get (D := D) (ci := 6) (v := .int t10.2.2.2.2.2.2.2.2.2.2.2) (C := RX6) (T := TX6) (N := 34) hx hb hts in6 hown jK.1 jP 0 rfl rfl 29 (by decide) (hts _ w_710) (fun _ h9 => h9) rfl dX6_laws_44 ?_
          refine lv_goto (tgt := 68) hx hb dX6_laws_47 (by decide) ?_
          obtain rfl := Option.some.inj h
          exact hRet _ _ _ _ jP jD jS dX6_laws_68
      · have h := itp c9 h
        refine lv_ldc (v := (-1000000000 : Int32)) hx hb hown (hts _ w_478) dX6_laws_30 ?_
        obtain rfl := Option.some.inj h
        exact hRet _ _ _ _ jP jD jS dX6_laws_32
theorem okX6_bestLaws : okV yX6_bestLaws cX6_bestLaws 6 (some .int) 2 := ⟨w_725, w_726, w_727, w_5, by decide, by decide, by decide +kernel⟩
def fX6_bestLaws_b34 (l1 : Int32) (l2 : Int32) (M_x12 : Int32) (M_r11 : (Nat → Int32)) (M_r15 : (Nat → Int32)) (v1 : (Int32 × Int32 × Int32 × Int64 × Int64 × Int64 × Int64 × (Nat → Int32) × (Nat → Int32) × Int32 × Int32 × Int32 × Int32 × Int32 × Int32)) : Option ((Int32 × Int32 × Int32 × Int64 × Int64 × Int64 × Int64 × (Nat → Int32) × (Nat → Int32) × Int32 × Int32 × Int32 × Int32 × Int32 × Int32) ⊕ (Int32 × Int32 × Int64 × Int64 × Int64 × Int64 × (Nat → Int32) × (Nat → Int32) × Int32 × Int32 × Int32 × Int32 × Int32 × Int32)) :=
  if (16 : Int32) ≤ v1.2.2.1 then (some (.inr (v1.1, v1.2.1, v1.2.2.2.1, v1.2.2.2.2.1, v1.2.2.2.2.2.1, v1.2.2.2.2.2.2.1, v1.2.2.2.2.2.2.2.1, v1.2.2.2.2.2.2.2.2.1, v1.2.2.2.2.2.2.2.2.2.1, v1.2.2.2.2.2.2.2.2.2.2.1, v1.2.2.2.2.2.2.2.2.2.2.2.1, v1.2.2.2.2.2.2.2.2.2.2.2.2.1, v1.2.2.2.2.2.2.2.2.2.2.2.2.2.1, v1.2.2.2.2.2.2.2.2.2.2.2.2.2.2))) else (bd (fX6_areLaws (M_x12) v1.2.2.1) (fun t1 => bd (if t1 = (0 : Int32) then (some (v1.1, v1.2.1, v1.2.2.2.1, v1.2.2.2.2.1, v1.2.2.2.2.2.1, v1.2.2.2.2.2.2.1, v1.2.2.2.2.2.2.2.1, v1.2.2.2.2.2.2.2.2.1, v1.2.2.2.2.2.2.2.2.2.1, v1.2.2.2.2.2.2.2.2.2.2.1, v1.2.2.2.2.2.2.2.2.2.2.2.1, v1.2.2.2.2.2.2.2.2.2.2.2.2.1, v1.2.2.2.2.2.2.2.2.2.2.2.2.2.1, v1.2.2.2.2.2.2.2.2.2.2.2.2.2.2)) else (bd (fX6_layLaws v1.2.2.2.1 v1.2.2.2.2.1 v1.2.2.2.2.2.1 (M_r11) (M_r15) v1.2.2.2.2.2.2.2.1 v1.2.2.2.2.2.2.2.2.1 (M_x12) v1.2.2.2.2.2.2.2.2.2.1 v1.2.2.2.2.2.2.2.2.2.2.1 v1.2.2.2.2.2.2.2.2.2.2.2.1 v1.2.2.2.2.2.2.2.2.2.2.2.2.1 v1.2.2.1 (l1)) (fun t2 => if v1.1 = (-4 : Int32) then (some (v1.2.2.1, t2.2.2.2.2.2.2.2.2.2.2.2, t2.1, t2.2.1, t2.2.2.1, t2.2.2.2.1, t2.2.2.2.2.1, t2.2.2.2.2.2.1, t2.2.2.2.2.2.2.1, t2.2.2.2.2.2.2.2.1, t2.2.2.2.2.2.2.2.2.1, t2.2.2.2.2.2.2.2.2.2.1, t2.2.2.2.2.2.2.2.2.2.2.1, t2.2.2.2.2.2.2.2.2.2.2.2)) else (if t2.2.2.2.2.2.2.2.2.2.2.2 ≤ v1.2.1 then (some (v1.1, v1.2.1, t2.1, t2.2.1, t2.2.2.1, t2.2.2.2.1, t2.2.2.2.2.1, t2.2.2.2.2.2.1, t2.2.2.2.2.2.2.1, t2.2.2.2.2.2.2.2.1, t2.2.2.2.2.2.2.2.2.1, t2.2.2.2.2.2.2.2.2.2.1, t2.2.2.2.2.2.2.2.2.2.2.1, t2.2.2.2.2.2.2.2.2.2.2.2)) else (some (v1.2.2.1, t2.2.2.2.2.2.2.2.2.2.2.2, t2.1, t2.2.1, t2.2.2.1, t2.2.2.2.1, t2.2.2.2.2.1, t2.2.2.2.2.2.1, t2.2.2.2.2.2.2.1, t2.2.2.2.2.2.2.2.1, t2.2.2.2.2.2.2.2.2.1, t2.2.2.2.2.2.2.2.2.2.1, t2.2.2.2.2.2.2.2.2.2.2.1, t2.2.2.2.2.2.2.2.2.2.2.2)))))) (fun t3 => some (.inl (t3.1, t3.2.1, (v1.2.2.1 + (1 : Int32)), t3.2.2.1, t3.2.2.2.1, t3.2.2.2.2.1, t3.2.2.2.2.2.1, t3.2.2.2.2.2.2.1, t3.2.2.2.2.2.2.2.1, t3.2.2.2.2.2.2.2.2.1, t3.2.2.2.2.2.2.2.2.2.1, t3.2.2.2.2.2.2.2.2.2.2.1, t3.2.2.2.2.2.2.2.2.2.2.2.1, t3.2.2.2.2.2.2.2.2.2.2.2.2.1, t3.2.2.2.2.2.2.2.2.2.2.2.2.2)))))
def fX6_bestLaws (M_g24 : Int64) (M_g25 : Int64) (M_g26 : Int64) (M_g28 : Int64) (M_r11 : (Nat → Int32)) (M_r15 : (Nat → Int32)) (M_r21 : (Nat → Int32)) (M_r22 : (Nat → Int32)) (M_x12 : Int32) (M_x18 : Int32) (M_x19 : Int32) (M_x20 : Int32) (M_x23 : Int32) (M_x27 : Int32) (M_x29 : Int32) (a1 : Int32) (a2 : Int32) : Option (Int32 × Int64 × Int64 × Int64 × Int64 × (Nat → Int32) × (Nat → Int32) × Int32 × Int32 × Int32 × Int32 × Int32 × Int32) :=
  bd (fX6_in a1.toInt64 (0 : Int64) (99 : Int64)) (fun t1 => if t1 = (0 : Int32) then (some ((-1000000000 : Int32), M_g24, M_g25, M_g26, M_g28, M_r21, M_r22, M_x18, M_x19, M_x20, M_x23, M_x27, M_x29)) else (bd (fX6_in a2.toInt64 (0 : Int64) (1 : Int64)) (fun t4 => if t4 = (0 : Int32) then (some ((-1000000000 : Int32), M_g24, M_g25, M_g26, M_g28, M_r21, M_r22, M_x18, M_x19, M_x20, M_x23, M_x27, M_x29)) else (bd (loopF (fX6_bestLaws_b34 a1 a2 M_x12 M_r11 M_r15) 1000 ((-4 : Int32), (0 : Int32), (0 : Int32), M_g24, M_g25, M_g26, M_g28, M_r21, M_r22, M_x18, M_x19, M_x20, M_x23, M_x27, M_x29)) (fun T7 => if a2 = (0 : Int32) then (some (T7.1, T7.2.2.1, T7.2.2.2.1, T7.2.2.2.2.1, T7.2.2.2.2.2.1, T7.2.2.2.2.2.2.1, T7.2.2.2.2.2.2.2.1, T7.2.2.2.2.2.2.2.2.1, T7.2.2.2.2.2.2.2.2.2.1, T7.2.2.2.2.2.2.2.2.2.2.1, T7.2.2.2.2.2.2.2.2.2.2.2.1, T7.2.2.2.2.2.2.2.2.2.2.2.2.1, T7.2.2.2.2.2.2.2.2.2.2.2.2.2)) else (some (T7.2.1, T7.2.2.1, T7.2.2.2.1, T7.2.2.2.2.1, T7.2.2.2.2.2.1, T7.2.2.2.2.2.2.1, T7.2.2.2.2.2.2.2.1, T7.2.2.2.2.2.2.2.2.1, T7.2.2.2.2.2.2.2.2.2.1, T7.2.2.2.2.2.2.2.2.2.2.1, T7.2.2.2.2.2.2.2.2.2.2.2.1, T7.2.2.2.2.2.2.2.2.2.2.2.2.1, T7.2.2.2.2.2.2.2.2.2.2.2.2.2)))))))
set_option maxRecDepth 100000 in
set_option maxHeartbeats 4000000 in
theorem kX6_bestLaws (l : Launch) (D : va_G) (cI cB cS : ClassId) (uM : Nat) (aM : Nat → Nat) (M_x1 : Int32) (M_x2 : Int32) (M_x3 : Int32) (M_x4 : Int32) (M_x5 : Int32) (M_x6 : Int32) (M_x7 : Int32) (M_x8 : Int32) (M_x12 : Int32) (M_x14 : Int32) (M_x17 : Int32) (M_x18 : Int32) (M_x19 : Int32) (M_x20 : Int32) (M_x23 : Int32) (M_x27 : Int32) (M_x29 : Int32) (M_x33 : Int32) (M_g24 : Int64) (M_g25 : Int64) (M_g26 : Int64) (M_g28 : Int64) (M_r0 : (Nat → Int32)) (M_r9 : (Nat → Int32)) (M_r10 : (Nat → Int32)) (M_r11 : (Nat → Int32)) (M_r13 : (Nat → Int32)) (M_r15 : (Nat → Int32)) (M_r16 : (Nat → Int32)) (M_r21 : (Nat → Int32)) (M_r22 : (Nat → Int32)) (M_r30 : (Nat → Int32)) (M_r31 : (Nat → Int32)) (M_r32 : (Nat → Int32)) (a1 : Int32) (a2 : Int32) (z : (Int32 × Int64 × Int64 × Int64 × Int64 × (Nat → Int32) × (Nat → Int32) × Int32 × Int32 × Int32 × Int32 × Int32 × Int32)) (h : fX6_bestLaws M_g24 M_g25 M_g26 M_g28 M_r11 M_r15 M_r21 M_r22 M_x12 M_x18 M_x19 M_x20 M_x23 M_x27 M_x29 a1 a2 = some z) : Mt l yX6_bestLaws cX6_bestLaws 6 (some .int) 7 163 D cI cB cS (mW cI uM aM M_x1 M_x2 M_x3 M_x4 M_x5 M_x6 M_x7 M_x8 M_x12 M_x14 M_x17 M_x18 M_x19 M_x20 M_x23 M_x27 M_x29 M_x33 M_g24 M_g25 M_g26 M_g28 M_r0 M_r9 M_r10 M_r11 M_r13 M_r15 M_r16 M_r21 M_r22 M_r30 M_r31 M_r32) (mW cI uM aM M_x1 M_x2 M_x3 M_x4 M_x5 M_x6 M_x7 M_x8 M_x12 M_x14 M_x17 z.2.2.2.2.2.2.2.1 z.2.2.2.2.2.2.2.2.1 z.2.2.2.2.2.2.2.2.2.1 z.2.2.2.2.2.2.2.2.2.2.1 z.2.2.2.2.2.2.2.2.2.2.2.1 z.2.2.2.2.2.2.2.2.2.2.2.2 M_x33 z.2.1 z.2.2.1 z.2.2.2.1 z.2.2.2.2.1 M_r0 M_r9 M_r10 M_r11 M_r13 M_r15 M_r16 z.2.2.2.2.2.1 z.2.2.2.2.2.2.1 M_r30 M_r31 M_r32) [.ref uM, .int a1, .int a2] (some (.int z.1)) := by
  refine entryI (by decide +kernel) rfl (Nat.le_of_ble_eq_true rfl) ?_
  intro p e s m below meth c A ls QQ R ar F hRet jP jD jS jl
  obtain ⟨hx, hb, hml, hown, hts, jK, hA, hf1, hf2⟩ := id F
  have jl : lv_has ls 6 [(0, .ref uM), (1, .int a1), (2, .int a2)] := jl
  unfold fX6_bestLaws at h
  refine lv_iload_n hx hb dX6_bestLaws_0 rfl (lv_at jl 1 rfl) ?_
  refine lv_i2l (v := a1.toInt64) hx hb dX6_bestLaws_1 rfl ?_
  refine lv_lconst (v := (0 : Int64)) hx hb dX6_bestLaws_2 (by decide) ?_
  refine lv_ldc2 (v := (99 : Int64)) hx hb hown (hts _ w_289) dX6_bestLaws_3 ?_
  obtain ⟨t1, hc2, h⟩ := bd_some h
  refine call0 (As := [.long a1.toInt64, .long (0 : Int64), .long (99 : Int64)]) (rest := []) (st1 := [.int t1]) F (kX6_in l D cI cB cS  a1.toInt64 (0 : Int64) (99 : Int64) _ hc2 ) okX6_in w_112 (by decide) (by decide) ⟨Nat.zero_le _, Nat.zero_le _⟩ jP jD jS rfl jl.1 rfl rfl (Nat.le_of_ble_eq_true rfl) dX6_bestLaws_6 (fun H locs jP jD jS => ?_)
  refine lv_if_eq (tgt := 22) hx hb dX6_bestLaws_9 (by decide) (fun c3 => ?_) (fun c3 => ?_)
  · have h := itp c3 h
    refine lv_ldc (v := (-1000000000 : Int32)) hx hb hown (hts _ w_478) dX6_bestLaws_22 ?_
    obtain rfl := Option.some.inj h
    exact hRet _ _ _ _ jP jD jS dX6_bestLaws_24
  · have h := itn c3 h
    refine lv_iload_n hx hb dX6_bestLaws_12 rfl (lv_at jl 2 rfl) ?_
    refine lv_i2l (v := a2.toInt64) hx hb dX6_bestLaws_13 rfl ?_
    refine lv_lconst (v := (0 : Int64)) hx hb dX6_bestLaws_14 (by decide) ?_
    refine lv_lconst (v := (1 : Int64)) hx hb dX6_bestLaws_15 (by decide) ?_
    obtain ⟨t4, hc5, h⟩ := bd_some h
    refine call0 (As := [.long a2.toInt64, .long (0 : Int64), .long (1 : Int64)]) (rest := []) (st1 := [.int t4]) F (kX6_in l D cI cB cS  a2.toInt64 (0 : Int64) (1 : Int64) _ hc5 ) okX6_in w_112 (by decide) (by decide) ⟨Nat.zero_le _, Nat.zero_le _⟩ jP jD jS rfl jl.1 rfl rfl (Nat.le_of_ble_eq_true rfl) dX6_bestLaws_16 (fun H locs jP jD jS => ?_)
    refine lv_if_ne (tgt := 25) hx hb dX6_bestLaws_19 (by decide) (fun c6 => ?_) (fun c6 => ?_)
    · have h := itn c6 h
      refine lv_bipush (v := (-4 : Int32)) hx hb dX6_bestLaws_25 (by decide) ?_
      refine lv_istore_n (lv' := [(3, .int (-4 : Int32)), (0, .ref uM), (1, .int a1), (2, .int a2)]) hx hb dX6_bestLaws_27 rfl jl (by decide) rfl (fun ls jl => ?_)
      refine lv_iconst (v := (0 : Int32)) hx hb dX6_bestLaws_28 (by decide) ?_
      refine lv_istore (lv' := [(4, .int (0 : Int32)), (3, .int (-4 : Int32)), (0, .ref uM), (1, .int a1), (2, .int a2)]) hx hb dX6_bestLaws_29 jl (by decide) rfl (fun ls jl => ?_)
      refine lv_iconst (v := (0 : Int32)) hx hb dX6_bestLaws_31 (by decide) ?_
      refine lv_istore (lv' := [(5, .int (0 : Int32)), (4, .int (0 : Int32)), (3, .int (-4 : Int32)), (0, .ref uM), (1, .int a1), (2, .int a2)]) hx hb dX6_bestLaws_32 jl (by decide) rfl (fun ls jl => ?_)
      obtain ⟨T7, hT7, hz7⟩ := bd_some h
      clear h
      have hE7 : ∀ (H : Heap) (locs : List Loc) (ls : Array Slot), va_P D vwCl (mW cI uM aM M_x1 M_x2 M_x3 M_x4 M_x5 M_x6 M_x7 M_x8 M_x12 M_x14 M_x17 T7.2.2.2.2.2.2.2.2.1 T7.2.2.2.2.2.2.2.2.2.1 T7.2.2.2.2.2.2.2.2.2.2.1 T7.2.2.2.2.2.2.2.2.2.2.2.1 T7.2.2.2.2.2.2.2.2.2.2.2.2.1 T7.2.2.2.2.2.2.2.2.2.2.2.2.2 M_x33 T7.2.2.1 T7.2.2.2.1 T7.2.2.2.2.1 T7.2.2.2.2.2.1 M_r0 M_r9 M_r10 M_r11 M_r13 M_r15 M_r16 T7.2.2.2.2.2.2.1 T7.2.2.2.2.2.2.2.1 M_r30 M_r31 M_r32) H → va_D A (mW cI uM aM M_x1 M_x2 M_x3 M_x4 M_x5 M_x6 M_x7 M_x8 M_x12 M_x14 M_x17 T7.2.2.2.2.2.2.2.2.1 T7.2.2.2.2.2.2.2.2.2.1 T7.2.2.2.2.2.2.2.2.2.2.1 T7.2.2.2.2.2.2.2.2.2.2.2.1 T7.2.2.2.2.2.2.2.2.2.2.2.2.1 T7.2.2.2.2.2.2.2.2.2.2.2.2.2 M_x33 T7.2.2.1 T7.2.2.2.1 T7.2.2.2.2.1 T7.2.2.2.2.2.1 M_r0 M_r9 M_r10 M_r11 M_r13 M_r15 M_r16 T7.2.2.2.2.2.2.1 T7.2.2.2.2.2.2.2.1 M_r30 M_r31 M_r32) → va_S A s.heap H locs → lv_has ls 6 [(2, .int a2), (3, .int T7.1), (4, .int T7.2.1)] → W p l e R s m ar below meth c H locs 0 0 QQ (F0 m 87 ls []) := by
        clear jP jD jS jl
        intro H locs ls jP jD jS jl
        refine lv_iload_n hx hb dX6_bestLaws_87 rfl (lv_at jl 0 rfl) ?_
        refine lv_if_ne (tgt := 95) hx hb dX6_bestLaws_88 (by decide) (fun c17 => ?_) (fun c17 => ?_)
        · have hz7 := itn c17 hz7
          refine lv_iload hx hb dX6_bestLaws_95 (lv_at jl 2 rfl) ?_
          obtain rfl := Option.some.inj hz7
          exact hRet _ _ _ _ jP jD jS dX6_bestLaws_97
        · have hz7 := itp c17 hz7
          refine lv_iload_n hx hb dX6_bestLaws_91 rfl (lv_at jl 1 rfl) ?_
          refine lv_goto (tgt := 97) hx hb dX6_bestLaws_92 (by decide) ?_
          obtain rfl := Option.some.inj hz7
          exact hRet _ _ _ _ jP jD jS dX6_bestLaws_97
      have hL7 : ∀ (n : Nat) (v7 : (Int32 × Int32 × Int32 × Int64 × Int64 × Int64 × Int64 × (Nat → Int32) × (Nat → Int32) × Int32 × Int32 × Int32 × Int32 × Int32 × Int32)), loopF (fX6_bestLaws_b34 a1 a2 M_x12 M_r11 M_r15) n v7 = some T7 → ∀ (H : Heap) (locs : List Loc) (ls : Array Slot), va_P D vwCl (mW cI uM aM M_x1 M_x2 M_x3 M_x4 M_x5 M_x6 M_x7 M_x8 M_x12 M_x14 M_x17 v7.2.2.2.2.2.2.2.2.2.1 v7.2.2.2.2.2.2.2.2.2.2.1 v7.2.2.2.2.2.2.2.2.2.2.2.1 v7.2.2.2.2.2.2.2.2.2.2.2.2.1 v7.2.2.2.2.2.2.2.2.2.2.2.2.2.1 v7.2.2.2.2.2.2.2.2.2.2.2.2.2.2 M_x33 v7.2.2.2.1 v7.2.2.2.2.1 v7.2.2.2.2.2.1 v7.2.2.2.2.2.2.1 M_r0 M_r9 M_r10 M_r11 M_r13 M_r15 M_r16 v7.2.2.2.2.2.2.2.1 v7.2.2.2.2.2.2.2.2.1 M_r30 M_r31 M_r32) H → va_D A (mW cI uM aM M_x1 M_x2 M_x3 M_x4 M_x5 M_x6 M_x7 M_x8 M_x12 M_x14 M_x17 v7.2.2.2.2.2.2.2.2.2.1 v7.2.2.2.2.2.2.2.2.2.2.1 v7.2.2.2.2.2.2.2.2.2.2.2.1 v7.2.2.2.2.2.2.2.2.2.2.2.2.1 v7.2.2.2.2.2.2.2.2.2.2.2.2.2.1 v7.2.2.2.2.2.2.2.2.2.2.2.2.2.2 M_x33 v7.2.2.2.1 v7.2.2.2.2.1 v7.2.2.2.2.2.1 v7.2.2.2.2.2.2.1 M_r0 M_r9 M_r10 M_r11 M_r13 M_r15 M_r16 v7.2.2.2.2.2.2.2.1 v7.2.2.2.2.2.2.2.2.1 M_r30 M_r31 M_r32) → va_S A s.heap H locs → lv_has ls 6 [(0, .ref uM), (1, .int a1), (2, .int a2), (3, .int v7.1), (4, .int v7.2.1), (5, .int v7.2.2.1)] → W p l e R s m ar below meth c H locs 0 0 QQ (F0 m 34 ls []) := by
        clear jP jD jS jl hT7
        intro n
        induction n with
        | zero => intro v7 hq; exact (loop_none hq).elim
        | succ n ih =>
          intro v7 hq H locs ls jP jD jS jl
          obtain ⟨o7, hv7, hq7⟩ := loop_some hq
          clear hq
          unfold fX6_bestLaws_b34 at hv7
          refine lv_iload hx hb dX6_bestLaws_34 (lv_at jl 5 rfl) ?_
          refine lv_bipush (v := (16 : Int32)) hx hb dX6_bestLaws_36 (by decide) ?_
          refine lv_icmp_ge (tgt := 87) hx hb dX6_bestLaws_38 (by decide) (fun c8 => ?_) (fun c8 => ?_)
          · have hv7 := itp c8 hv7
            obtain rfl := Option.some.inj hv7
            obtain rfl := nxt_r hq7
            exact hE7 _ _ _ jP jD jS (lv_sub jl [2, 3, 4] rfl)
          · have hv7 := itn c8 hv7
            refine lv_aload_n hx hb dX6_bestLaws_41 rfl (lv_at jl 0 rfl) ?_
            refine lv_iload hx hb dX6_bestLaws_42 (lv_at jl 5 rfl) ?_
            obtain ⟨t9, hc10, hv7⟩ := bd_some hv7
            refine callW (w1 := (mW cI uM aM M_x1 M_x2 M_x3 M_x4 M_x5 M_x6 M_x7 M_x8 M_x12 M_x14 M_x17 v7.2.2.2.2.2.2.2.2.2.1 v7.2.2.2.2.2.2.2.2.2.2.1 v7.2.2.2.2.2.2.2.2.2.2.2.1 v7.2.2.2.2.2.2.2.2.2.2.2.2.1 v7.2.2.2.2.2.2.2.2.2.2.2.2.2.1 v7.2.2.2.2.2.2.2.2.2.2.2.2.2.2 M_x33 v7.2.2.2.1 v7.2.2.2.2.1 v7.2.2.2.2.2.1 v7.2.2.2.2.2.2.1 M_r0 M_r9 M_r10 M_r11 M_r13 M_r15 M_r16 v7.2.2.2.2.2.2.2.1 v7.2.2.2.2.2.2.2.2.1 M_r30 M_r31 M_r32)) (As := [.int v7.2.2.1]) (rest := []) (st1 := [.int t9]) 0 F (kX6_areLaws l D cI cB cS uM aM M_x1 M_x2 M_x3 M_x4 M_x5 M_x6 M_x7 M_x8 M_x12 M_x14 M_x17 v7.2.2.2.2.2.2.2.2.2.1 v7.2.2.2.2.2.2.2.2.2.2.1 v7.2.2.2.2.2.2.2.2.2.2.2.1 v7.2.2.2.2.2.2.2.2.2.2.2.2.1 v7.2.2.2.2.2.2.2.2.2.2.2.2.2.1 v7.2.2.2.2.2.2.2.2.2.2.2.2.2.2 M_x33 v7.2.2.2.1 v7.2.2.2.2.1 v7.2.2.2.2.2.1 v7.2.2.2.2.2.2.1 M_r0 M_r9 M_r10 M_r11 M_r13 M_r15 M_r16 v7.2.2.2.2.2.2.2.1 v7.2.2.2.2.2.2.2.2.1 M_r30 M_r31 M_r32 v7.2.2.1 _ hc10 ) okX6_areLaws w_711 (by decide) (by decide) ⟨Nat.zero_le _, Nat.zero_le _⟩ rfl rfl rfl jP jD jS rfl jl.1 rfl rfl (Nat.le_of_ble_eq_true rfl) dX6_bestLaws_44 (fun H locs jP jD jS => ?_)
            obtain ⟨t16, hvt16, hv7⟩ := bd_some hv7
            have hJt16 : ∀ (H : Heap) (locs : List Loc) (ls : Array Slot), va_P D vwCl (mW cI uM aM M_x1 M_x2 M_x3 M_x4 M_x5 M_x6 M_x7 M_x8 M_x12 M_x14 M_x17 t16.2.2.2.2.2.2.2.2.1 t16.2.2.2.2.2.2.2.2.2.1 t16.2.2.2.2.2.2.2.2.2.2.1 t16.2.2.2.2.2.2.2.2.2.2.2.1 t16.2.2.2.2.2.2.2.2.2.2.2.2.1 t16.2.2.2.2.2.2.2.2.2.2.2.2.2 M_x33 t16.2.2.1 t16.2.2.2.1 t16.2.2.2.2.1 t16.2.2.2.2.2.1 M_r0 M_r9 M_r10 M_r11 M_r13 M_r15 M_r16 t16.2.2.2.2.2.2.1 t16.2.2.2.2.2.2.2.1 M_r30 M_r31 M_r32) H → va_D A (mW cI uM aM M_x1 M_x2 M_x3 M_x4 M_x5 M_x6 M_x7 M_x8 M_x12 M_x14 M_x17 t16.2.2.2.2.2.2.2.2.1 t16.2.2.2.2.2.2.2.2.2.1 t16.2.2.2.2.2.2.2.2.2.2.1 t16.2.2.2.2.2.2.2.2.2.2.2.1 t16.2.2.2.2.2.2.2.2.2.2.2.2.1 t16.2.2.2.2.2.2.2.2.2.2.2.2.2 M_x33 t16.2.2.1 t16.2.2.2.1 t16.2.2.2.2.1 t16.2.2.2.2.2.1 M_r0 M_r9 M_r10 M_r11 M_r13 M_r15 M_r16 t16.2.2.2.2.2.2.1 t16.2.2.2.2.2.2.2.1 M_r30 M_r31 M_r32) → va_S A s.heap H locs → lv_has ls 6 [(0, .ref uM), (1, .int a1), (2, .int a2), (3, .int t16.1), (4, .int t16.2.1), (5, .int v7.2.2.1)] → W p l e R s m ar below meth c H locs 0 0 QQ (F0 m 81 ls []) := by
              clear jP jD jS jl
              intro H locs ls jP jD jS jl
              refine lv_iinc (v := (v7.2.2.1 + (1 : Int32))) (lv' := [(5, .int (v7.2.2.1 + (1 : Int32))), (0, .ref uM), (1, .int a1), (2, .int a2), (3, .int t16.1), (4, .int t16.2.1)]) hx hb dX6_bestLaws_81 jl (k := 5) rfl rfl (by decide) rfl (fun ls jl => ?_)
              refine lv_goto (tgt := 34) hx hb dX6_bestLaws_84 (by decide) ?_
              obtain rfl := Option.some.inj hv7
              exact ih _ (nxt_l hq7) _ _ _ jP jD jS (lv_sub jl [1, 2, 3, 4, 5, 0] rfl)
            clear hv7
            refine lv_if_eq (tgt := 81) hx hb dX6_bestLaws_47 (by decide) (fun c11 => ?_) (fun c11 => ?_)
            · have hvt16 := itp c11 hvt16
              obtain rfl := Option.some.inj hvt16
              exact hJt16 _ _ _ jP jD jS (lv_sub jl [0, 1, 2, 3, 4, 5] rfl)
            · have hvt16 := itn c11 hvt16
              refine lv_aload_n hx hb dX6_bestLaws_50 rfl (lv_at jl 0 rfl) ?_
              refine lv_iload hx hb dX6_bestLaws_51 (lv_at jl 5 rfl) ?_
              refine lv_iload_n hx hb dX6_bestLaws_53 rfl (lv_at jl 1 rfl) ?_
              obtain ⟨t12, hc13, hvt16⟩ := bd_some hvt16
              refine callW (w1 := (mW cI uM aM M_x1 M_x2 M_x3 M_x4 M_x5 M_x6 M_x7 M_x8 M_x12 M_x14 M_x17 t12.2.2.2.2.2.2.1 t12.2.2.2.2.2.2.2.1 t12.2.2.2.2.2.2.2.2.1 t12.2.2.2.2.2.2.2.2.2.1 t12.2.2.2.2.2.2.2.2.2.2.1 t12.2.2.2.2.2.2.2.2.2.2.2 M_x33 t12.1 t12.2.1 t12.2.2.1 t12.2.2.2.1 M_r0 M_r9 M_r10 M_r11 M_r13 M_r15 M_r16 t12.2.2.2.2.1 t12.2.2.2.2.2.1 M_r30 M_r31 M_r32)) (As := [.int v7.2.2.1, .int a1]) (rest := []) (st1 := []) 0 F (kX6_layLaws l D cI cB cS uM aM M_x1 M_x2 M_x3 M_x4 M_x5 M_x6 M_x7 M_x8 M_x12 M_x14 M_x17 v7.2.2.2.2.2.2.2.2.2.1 v7.2.2.2.2.2.2.2.2.2.2.1 v7.2.2.2.2.2.2.2.2.2.2.2.1 v7.2.2.2.2.2.2.2.2.2.2.2.2.1 v7.2.2.2.2.2.2.2.2.2.2.2.2.2.1 v7.2.2.2.2.2.2.2.2.2.2.2.2.2.2 M_x33 v7.2.2.2.1 v7.2.2.2.2.1 v7.2.2.2.2.2.1 v7.2.2.2.2.2.2.1 M_r0 M_r9 M_r10 M_r11 M_r13 M_r15 M_r16 v7.2.2.2.2.2.2.2.1 v7.2.2.2.2.2.2.2.2.1 M_r30 M_r31 M_r32 v7.2.2.1 a1 _ hc13 ) okX6_layLaws w_716 (by decide) (by decide) ⟨Nat.zero_le _, Nat.zero_le _⟩ rfl rfl rfl jP jD jS rfl jl.1 rfl rfl (Nat.le_of_ble_eq_true rfl) dX6_bestLaws_54 (fun H locs jP jD jS => ?_)
              refine lv_iload_n hx hb dX6_bestLaws_57 rfl (lv_at jl 3 rfl) ?_
              refine lv_bipush (v := (-4 : Int32)) hx hb dX6_bestLaws_58 (by decide) ?_
              refine lv_icmp_eq (tgt := 72) hx hb dX6_bestLaws_60 (by decide) (fun c14 => ?_) (fun c14 => ?_)
              · have hvt16 := itp c14 hvt16
                refine lv_iload hx hb dX6_bestLaws_72 (lv_at jl 5 rfl) ?_
                refine lv_istore_n (lv' := [(3, .int v7.2.2.1), (0, .ref uM), (1, .int a1), (2, .int a2), (4, .int v7.2.1), (5, .int v7.2.2.1)]) hx hb dX6_bestLaws_74 rfl jl (by decide) rfl (fun ls jl => ?_)
                refine lv_aload_n hx hb dX6_bestLaws_75 rfl (lv_at jl 1 rfl) ?_
                refine va_get (D := D) (ci := 6) (v := .int t12.2.2.2.2.2.2.2.2.2.2.2) (C := RX6) (T := TX6) (N := 34) hx hb hts in6 hown jK.1 jP 0 rfl rfl 29 (by decide) (hts _ w_710) (fun _ h9 => h9) rfl dX6_bestLaws_76 ?_
                refine lv_istore (lv' := [(4, .int t12.2.2.2.2.2.2.2.2.2.2.2), (3, .int v7.2.2.1), (0, .ref uM), (1, .int a1), (2, .int a2), (5, .int v7.2.2.1)]) hx hb dX6_bestLaws_79 jl (by decide) rfl (fun ls jl => ?_)
                obtain rfl := Option.some.inj hvt16
                exact hJt16 _ _ _ jP jD jS (lv_sub jl [2, 3, 4, 1, 0, 5] rfl)
              · have hvt16 := itn c14 hvt16
                refine lv_aload_n hx hb dX6_bestLaws_63 rfl (lv_at jl 0 rfl) ?_
                refine va_get (D := D) (ci := 6) (v := .int t12.2.2.2.2.2.2.2.2.2.2.2) (C := RX6) (T := TX6) (N := 34) hx hb hts in6 hown jK.1 jP 0 rfl rfl 29 (by decide) (hts _ w_710) (fun _ h9 => h9) rfl dX6_bestLaws_64 ?_
                refine lv_iload hx hb dX6_bestLaws_67 (lv_at jl 4 rfl) ?_
                refine lv_icmp_le (tgt := 81) hx hb dX6_bestLaws_69 (by decide) (fun c15 => ?_) (fun c15 => ?_)
                · have hvt16 := itp c15 hvt16
                  obtain rfl := Option.some.inj hvt16
                  exact hJt16 _ _ _ jP jD jS (lv_sub jl [0, 1, 2, 3, 4, 5] rfl)
                · have hvt16 := itn c15 hvt16
                  refine lv_iload hx hb dX6_bestLaws_72 (lv_at jl 5 rfl) ?_
                  refine lv_istore_n (lv' := [(3, .int v7.2.2.1), (0, .ref uM), (1, .int a1), (2, .int a2), (4, .int v7.2.1), (5, .int v7.2.2.1)]) hx hb dX6_bestLaws_74 rfl jl (by decide) rfl (fun ls jl => ?_)
                  refine lv_aload_n hx hb dX6_bestLaws_75 rfl (lv_at jl 1 rfl) ?_
                  refine va_get (D := D) (ci := 6) (v := .int t12.2.2.2.2.2.2.2.2.2.2.2) (C := RX6) (T := TX6) (N := 34) hx hb hts in6 hown jK.1 jP 0 rfl rfl 29 (by decide) (hts _ w_710) (fun _ h9 => h9) rfl dX6_bestLaws_76 ?_
                  refine lv_istore (lv' := [(4, .int t12.2.2.2.2.2.2.2.2.2.2.2), (3, .int v7.2.2.1), (0, .ref uM), (1, .int a1), (2, .int a2), (5, .int v7.2.2.1)]) hx hb dX6_bestLaws_79 jl (by decide) rfl (fun ls jl => ?_)
                  obtain rfl := Option.some.inj hvt16
                  exact hJt16 _ _ _ jP jD jS (lv_sub jl [2, 3, 4, 1, 0, 5] rfl)
      exact hL7 1000 _ hT7 _ _ _ jP jD jS (lv_sub jl [3, 4, 5, 2, 1, 0] rfl)
    · have h := itp c6 h
      refine lv_ldc (v := (-1000000000 : Int32)) hx hb hown (hts _ w_478) dX6_bestLaws_22 ?_
      obtain rfl := Option.some.inj h
      exact hRet _ _ _ _ jP jD jS dX6_bestLaws_24
theorem okX6_learnt : okV yX6_learnt cX6_learnt 3 (some .int) 1 := ⟨w_743, w_744, w_745, w_5, by decide, by decide, by decide +kernel⟩
def fX6_learnt (M_r11 : (Nat → Int32)) (M_r15 : (Nat → Int32)) (M_r21 : (Nat → Int32)) (M_r22 : (Nat → Int32)) (M_x12 : Int32) (M_x18 : Int32) (a1 : Int32) : Option (Int32 × Int64 × Int64 × Int64 × (Nat → Int32) × (Nat → Int32) × Int32 × Int32 × Int32) :=
  bd (fX6_layOffer (M_r11) (M_r15) (M_r21) (M_r22) (M_x12) (M_x18) (0 : Int32) (0 : Int32) a1) (fun t1 => bd (if t1.2.2.2.2.2.2.2 = (0 : Int32) then (some (0 : Int32)) else (ckL t1.2.1 (some (t1.1 / t1.2.1).toInt32))) (fun t4 => some (((((M_r15 (3 : Int32).toNatClampNeg) * t4) + (((10 : Int32) - (M_r15 (3 : Int32).toNatClampNeg)) * a1)) / (10 : Int32)), t1.1, t1.2.1, t1.2.2.1, t1.2.2.2.1, t1.2.2.2.2.1, t1.2.2.2.2.2.1, t1.2.2.2.2.2.2.1, t1.2.2.2.2.2.2.2)))
set_option maxRecDepth 100000 in
set_option maxHeartbeats 4000000 in
theorem kX6_learnt (l : Launch) (D : va_G) (cI cB cS : ClassId) (uM : Nat) (aM : Nat → Nat) (M_x1 : Int32) (M_x2 : Int32) (M_x3 : Int32) (M_x4 : Int32) (M_x5 : Int32) (M_x6 : Int32) (M_x7 : Int32) (M_x8 : Int32) (M_x12 : Int32) (M_x14 : Int32) (M_x17 : Int32) (M_x18 : Int32) (M_x19 : Int32) (M_x20 : Int32) (M_x23 : Int32) (M_x27 : Int32) (M_x29 : Int32) (M_x33 : Int32) (M_g24 : Int64) (M_g25 : Int64) (M_g26 : Int64) (M_g28 : Int64) (M_r0 : (Nat → Int32)) (M_r9 : (Nat → Int32)) (M_r10 : (Nat → Int32)) (M_r11 : (Nat → Int32)) (M_r13 : (Nat → Int32)) (M_r15 : (Nat → Int32)) (M_r16 : (Nat → Int32)) (M_r21 : (Nat → Int32)) (M_r22 : (Nat → Int32)) (M_r30 : (Nat → Int32)) (M_r31 : (Nat → Int32)) (M_r32 : (Nat → Int32)) (a1 : Int32) (z : (Int32 × Int64 × Int64 × Int64 × (Nat → Int32) × (Nat → Int32) × Int32 × Int32 × Int32)) (h : fX6_learnt M_r11 M_r15 M_r21 M_r22 M_x12 M_x18 a1 = some z) : Mt l yX6_learnt cX6_learnt 3 (some .int) 4 92 D cI cB cS (mW cI uM aM M_x1 M_x2 M_x3 M_x4 M_x5 M_x6 M_x7 M_x8 M_x12 M_x14 M_x17 M_x18 M_x19 M_x20 M_x23 M_x27 M_x29 M_x33 M_g24 M_g25 M_g26 M_g28 M_r0 M_r9 M_r10 M_r11 M_r13 M_r15 M_r16 M_r21 M_r22 M_r30 M_r31 M_r32) (mW cI uM aM M_x1 M_x2 M_x3 M_x4 M_x5 M_x6 M_x7 M_x8 M_x12 M_x14 M_x17 M_x18 z.2.2.2.2.2.2.1 z.2.2.2.2.2.2.2.1 z.2.2.2.2.2.2.2.2 M_x27 M_x29 M_x33 z.2.1 z.2.2.1 z.2.2.2.1 M_g28 M_r0 M_r9 M_r10 M_r11 M_r13 M_r15 M_r16 z.2.2.2.2.1 z.2.2.2.2.2.1 M_r30 M_r31 M_r32) [.ref uM, .int a1] (some (.int z.1)) := by
  refine entryI (by decide +kernel) rfl (Nat.le_of_ble_eq_true rfl) ?_
  intro p e s m below meth c A ls QQ R ar F hRet jP jD jS jl
  obtain ⟨hx, hb, hml, hown, hts, jK, hA, hf1, hf2⟩ := id F
  have jl : lv_has ls 3 [(0, .ref uM), (1, .int a1)] := jl
  unfold fX6_learnt at h
  refine lv_aload_n hx hb dX6_learnt_0 rfl (lv_at jl 0 rfl) ?_
  refine lv_iconst (v := (0 : Int32)) hx hb dX6_learnt_1 (by decide) ?_
  refine lv_iconst (v := (0 : Int32)) hx hb dX6_learnt_2 (by decide) ?_
  refine lv_iload_n hx hb dX6_learnt_3 rfl (lv_at jl 1 rfl) ?_
  obtain ⟨t1, hc2, h⟩ := bd_some h
  refine callW (w1 := (mW cI uM aM M_x1 M_x2 M_x3 M_x4 M_x5 M_x6 M_x7 M_x8 M_x12 M_x14 M_x17 M_x18 t1.2.2.2.2.2.1 t1.2.2.2.2.2.2.1 t1.2.2.2.2.2.2.2 M_x27 M_x29 M_x33 t1.1 t1.2.1 t1.2.2.1 M_g28 M_r0 M_r9 M_r10 M_r11 M_r13 M_r15 M_r16 t1.2.2.2.1 t1.2.2.2.2.1 M_r30 M_r31 M_r32)) (As := [.int (0 : Int32), .int (0 : Int32), .int a1]) (rest := []) (st1 := []) 0 F (kX6_layOffer l D cI cB cS uM aM M_x1 M_x2 M_x3 M_x4 M_x5 M_x6 M_x7 M_x8 M_x12 M_x14 M_x17 M_x18 M_x19 M_x20 M_x23 M_x27 M_x29 M_x33 M_g24 M_g25 M_g26 M_g28 M_r0 M_r9 M_r10 M_r11 M_r13 M_r15 M_r16 M_r21 M_r22 M_r30 M_r31 M_r32 (0 : Int32) (0 : Int32) a1 _ hc2 ) okX6_layOffer w_423 (by decide) (by decide) ⟨Nat.zero_le _, Nat.zero_le _⟩ rfl rfl rfl jP jD jS rfl jl.1 rfl rfl (Nat.le_of_ble_eq_true rfl) dX6_learnt_4 (fun H locs jP jD jS => ?_)
  refine lv_aload_n hx hb dX6_learnt_7 rfl (lv_at jl 0 rfl) ?_
  refine va_get (D := D) (ci := 6) (v := .int t1.2.2.2.2.2.2.2) (C := RX6) (T := TX6) (N := 34) hx hb hts in6 hown jK.1 jP 0 rfl rfl 23 (by decide) (hts _ w_416) (fun _ h9 => h9) rfl dX6_learnt_8 ?_
  obtain ⟨t4, hvt4, h⟩ := bd_some h
  have hJt4 : ∀ (H : Heap) (locs : List Loc) (ls : Array Slot), va_P D vwCl (mW cI uM aM M_x1 M_x2 M_x3 M_x4 M_x5 M_x6 M_x7 M_x8 M_x12 M_x14 M_x17 M_x18 t1.2.2.2.2.2.1 t1.2.2.2.2.2.2.1 t1.2.2.2.2.2.2.2 M_x27 M_x29 M_x33 t1.1 t1.2.1 t1.2.2.1 M_g28 M_r0 M_r9 M_r10 M_r11 M_r13 M_r15 M_r16 t1.2.2.2.1 t1.2.2.2.2.1 M_r30 M_r31 M_r32) H → va_D A (mW cI uM aM M_x1 M_x2 M_x3 M_x4 M_x5 M_x6 M_x7 M_x8 M_x12 M_x14 M_x17 M_x18 t1.2.2.2.2.2.1 t1.2.2.2.2.2.2.1 t1.2.2.2.2.2.2.2 M_x27 M_x29 M_x33 t1.1 t1.2.1 t1.2.2.1 M_g28 M_r0 M_r9 M_r10 M_r11 M_r13 M_r15 M_r16 t1.2.2.2.1 t1.2.2.2.2.1 M_r30 M_r31 M_r32) → va_S A s.heap H locs → lv_has ls 3 [(0, .ref uM), (1, .int a1)] → W p l e R s m ar below meth c H locs 0 0 QQ (F0 m 28 ls [.int t4]) := by
    clear jP jD jS jl
    intro H locs ls jP jD jS jl
    refine lv_istore_n (lv' := [(2, .int t4), (0, .ref uM), (1, .int a1)]) hx hb dX6_learnt_28 rfl jl (by decide) rfl (fun ls jl => ?_)
    refine lv_aload_n hx hb dX6_learnt_29 rfl (lv_at jl 1 rfl) ?_
    refine va_get (D := D) (ci := 6) (v := .ref (aM 15)) (C := RX6) (T := TX6) (N := 34) hx hb hts in6 hown jK.1 jP 0 rfl rfl 15 (by decide) (hts _ w_82) (fun _ h9 => h9) rfl dX6_learnt_30 ?_
    refine lv_iconst (v := (3 : Int32)) hx hb dX6_learnt_33 (by decide) ?_
    refine va_iald (f := M_r15) hx hb jK.1 jP 6 0 rfl rfl (by unfold vp_in; decide) dX6_learnt_34 ?_
    refine lv_iload_n hx hb dX6_learnt_35 rfl (lv_at jl 0 rfl) ?_
    refine lv_imul hx hb dX6_learnt_36 ?_
    refine lv_bipush (v := (10 : Int32)) hx hb dX6_learnt_37 (by decide) ?_
    refine lv_aload_n hx hb dX6_learnt_39 rfl (lv_at jl 1 rfl) ?_
    refine va_get (D := D) (ci := 6) (v := .ref (aM 15)) (C := RX6) (T := TX6) (N := 34) hx hb hts in6 hown jK.1 jP 0 rfl rfl 15 (by decide) (hts _ w_82) (fun _ h9 => h9) rfl dX6_learnt_40 ?_
    refine lv_iconst (v := (3 : Int32)) hx hb dX6_learnt_43 (by decide) ?_
    refine va_iald (f := M_r15) hx hb jK.1 jP 6 0 rfl rfl (by unfold vp_in; decide) dX6_learnt_44 ?_
    refine lv_isub hx hb dX6_learnt_45 ?_
    refine lv_iload_n hx hb dX6_learnt_46 rfl (lv_at jl 2 rfl) ?_
    refine lv_imul hx hb dX6_learnt_47 ?_
    refine lv_iadd hx hb dX6_learnt_48 ?_
    refine lv_bipush (v := (10 : Int32)) hx hb dX6_learnt_49 (by decide) ?_
    refine lv_idiv hx hb dX6_learnt_51 (by decide) ?_
    obtain rfl := Option.some.inj h
    exact hRet _ _ _ _ jP jD jS dX6_learnt_52
  clear h
  refine lv_if_ne (tgt := 18) hx hb dX6_learnt_11 (by decide) (fun c3 => ?_) (fun c3 => ?_)
  · have hvt4 := itn c3 hvt4
    refine lv_aload_n hx hb dX6_learnt_18 rfl (lv_at jl 0 rfl) ?_
    refine va_get (D := D) (ci := 6) (v := .long t1.1) (C := RX6) (T := TX6) (N := 34) hx hb hts in6 hown jK.1 jP 0 rfl rfl 24 (by decide) (hts _ w_427) (fun _ h9 => h9) rfl dX6_learnt_19 ?_
    refine lv_aload_n hx hb dX6_learnt_22 rfl (lv_at jl 0 rfl) ?_
    refine va_get (D := D) (ci := 6) (v := .long t1.2.1) (C := RX6) (T := TX6) (N := 34) hx hb hts in6 hown jK.1 jP 0 rfl rfl 25 (by decide) (hts _ w_430) (fun _ h9 => h9) rfl dX6_learnt_23 ?_
    obtain ⟨hne, hvt4⟩ := ckL_some hvt4
    refine lv_ldiv hx hb dX6_learnt_26 hne ?_
    refine lv_l2i (v := (t1.1 / t1.2.1).toInt32) hx hb dX6_learnt_27 rfl ?_
    obtain rfl := Option.some.inj hvt4
    exact hJt4 _ _ _ jP jD jS (lv_sub jl [0, 1] rfl)
  · have hvt4 := itp c3 hvt4
    refine lv_iconst (v := (0 : Int32)) hx hb dX6_learnt_14 (by decide) ?_
    refine lv_goto (tgt := 28) hx hb dX6_learnt_15 (by decide) ?_
    obtain rfl := Option.some.inj hvt4
    exact hJt4 _ _ _ jP jD jS (lv_sub jl [0, 1] rfl)
theorem okX6_learn : okV yX6_learn cX6_learn 7 (some .int) 3 := ⟨w_739, w_740, w_741, w_5, by decide, by decide, by decide +kernel⟩
def fX6_learn_b37 (l2 : Int32) (l3 : Int32) (M_r11 : (Nat → Int32)) (M_r15 : (Nat → Int32)) (M_x12 : Int32) (M_x18 : Int32) (v1 : (Int32 × Int32 × Int64 × Int64 × Int64 × (Nat → Int32) × (Nat → Int32) × Int32 × Int32 × Int32)) : Option ((Int32 × Int32 × Int64 × Int64 × Int64 × (Nat → Int32) × (Nat → Int32) × Int32 × Int32 × Int32) ⊕ ((Int32 × Int64 × Int64 × Int64 × (Nat → Int32) × (Nat → Int32) × Int32 × Int32 × Int32) ⊕ (Int32 × Int64 × Int64 × Int64 × (Nat → Int32) × (Nat → Int32) × Int32 × Int32 × Int32))) :=
  bd (if l3 = (0 : Int32) then some l2 else (some (100 : Int32))) (fun t1 => if t1 ≤ v1.2.1 then (some (.inr (.inr (v1.1, v1.2.2.1, v1.2.2.2.1, v1.2.2.2.2.1, v1.2.2.2.2.2.1, v1.2.2.2.2.2.2.1, v1.2.2.2.2.2.2.2.1, v1.2.2.2.2.2.2.2.2.1, v1.2.2.2.2.2.2.2.2.2)))) else (bd (fX6_learnt (M_r11) (M_r15) v1.2.2.2.2.2.1 v1.2.2.2.2.2.2.1 (M_x12) (M_x18) v1.1) (fun t2 => if l3 = (1 : Int32) then (if t2.1 = v1.1 then (some (.inr (.inl (v1.2.1, t2.2.1, t2.2.2.1, t2.2.2.2.1, t2.2.2.2.2.1, t2.2.2.2.2.2.1, t2.2.2.2.2.2.2.1, t2.2.2.2.2.2.2.2.1, t2.2.2.2.2.2.2.2.2)))) else (some (.inl (t2.1, (v1.2.1 + (1 : Int32)), t2.2.1, t2.2.2.1, t2.2.2.2.1, t2.2.2.2.2.1, t2.2.2.2.2.2.1, t2.2.2.2.2.2.2.1, t2.2.2.2.2.2.2.2.1, t2.2.2.2.2.2.2.2.2)))) else (some (.inl (t2.1, (v1.2.1 + (1 : Int32)), t2.2.1, t2.2.2.1, t2.2.2.2.1, t2.2.2.2.2.1, t2.2.2.2.2.2.1, t2.2.2.2.2.2.2.1, t2.2.2.2.2.2.2.2.1, t2.2.2.2.2.2.2.2.2))))))
def fX6_learn (M_g24 : Int64) (M_g25 : Int64) (M_g26 : Int64) (M_r11 : (Nat → Int32)) (M_r15 : (Nat → Int32)) (M_r21 : (Nat → Int32)) (M_r22 : (Nat → Int32)) (M_x12 : Int32) (M_x18 : Int32) (M_x19 : Int32) (M_x20 : Int32) (M_x23 : Int32) (a1 : Int32) (a2 : Int32) (a3 : Int32) : Option (Int32 × Int64 × Int64 × Int64 × (Nat → Int32) × (Nat → Int32) × Int32 × Int32 × Int32) :=
  bd (fX6_isPrice a1) (fun t1 => if t1 = (0 : Int32) then (some ((-1 : Int32), M_g24, M_g25, M_g26, M_r21, M_r22, M_x19, M_x20, M_x23)) else (bd (fX6_in a2.toInt64 (0 : Int64) (99 : Int64)) (fun t4 => if t4 = (0 : Int32) then (some ((-1 : Int32), M_g24, M_g25, M_g26, M_r21, M_r22, M_x19, M_x20, M_x23)) else (bd (fX6_in a3.toInt64 (0 : Int64) (1 : Int64)) (fun t7 => if t7 = (0 : Int32) then (some ((-1 : Int32), M_g24, M_g25, M_g26, M_r21, M_r22, M_x19, M_x20, M_x23)) else (bd (loopF (fX6_learn_b37 a2 a3 M_r11 M_r15 M_x12 M_x18) 1000 (a1, (0 : Int32), M_g24, M_g25, M_g26, M_r21, M_r22, M_x19, M_x20, M_x23)) (fun T10 => sm T10 (fun z => some z) (fun e10 => if a3 = (0 : Int32) then (some (e10.1, e10.2.1, e10.2.2.1, e10.2.2.2.1, e10.2.2.2.2.1, e10.2.2.2.2.2.1, e10.2.2.2.2.2.2.1, e10.2.2.2.2.2.2.2.1, e10.2.2.2.2.2.2.2.2)) else (some ((-4 : Int32), e10.2.1, e10.2.2.1, e10.2.2.2.1, e10.2.2.2.2.1, e10.2.2.2.2.2.1, e10.2.2.2.2.2.2.1, e10.2.2.2.2.2.2.2.1, e10.2.2.2.2.2.2.2.2))))))))))
set_option maxRecDepth 100000 in
set_option maxHeartbeats 4000000 in
theorem kX6_learn (l : Launch) (D : va_G) (cI cB cS : ClassId) (uM : Nat) (aM : Nat → Nat) (M_x1 : Int32) (M_x2 : Int32) (M_x3 : Int32) (M_x4 : Int32) (M_x5 : Int32) (M_x6 : Int32) (M_x7 : Int32) (M_x8 : Int32) (M_x12 : Int32) (M_x14 : Int32) (M_x17 : Int32) (M_x18 : Int32) (M_x19 : Int32) (M_x20 : Int32) (M_x23 : Int32) (M_x27 : Int32) (M_x29 : Int32) (M_x33 : Int32) (M_g24 : Int64) (M_g25 : Int64) (M_g26 : Int64) (M_g28 : Int64) (M_r0 : (Nat → Int32)) (M_r9 : (Nat → Int32)) (M_r10 : (Nat → Int32)) (M_r11 : (Nat → Int32)) (M_r13 : (Nat → Int32)) (M_r15 : (Nat → Int32)) (M_r16 : (Nat → Int32)) (M_r21 : (Nat → Int32)) (M_r22 : (Nat → Int32)) (M_r30 : (Nat → Int32)) (M_r31 : (Nat → Int32)) (M_r32 : (Nat → Int32)) (a1 : Int32) (a2 : Int32) (a3 : Int32) (z : (Int32 × Int64 × Int64 × Int64 × (Nat → Int32) × (Nat → Int32) × Int32 × Int32 × Int32)) (h : fX6_learn M_g24 M_g25 M_g26 M_r11 M_r15 M_r21 M_r22 M_x12 M_x18 M_x19 M_x20 M_x23 a1 a2 a3 = some z) : Mt l yX6_learn cX6_learn 7 (some .int) 5 114 D cI cB cS (mW cI uM aM M_x1 M_x2 M_x3 M_x4 M_x5 M_x6 M_x7 M_x8 M_x12 M_x14 M_x17 M_x18 M_x19 M_x20 M_x23 M_x27 M_x29 M_x33 M_g24 M_g25 M_g26 M_g28 M_r0 M_r9 M_r10 M_r11 M_r13 M_r15 M_r16 M_r21 M_r22 M_r30 M_r31 M_r32) (mW cI uM aM M_x1 M_x2 M_x3 M_x4 M_x5 M_x6 M_x7 M_x8 M_x12 M_x14 M_x17 M_x18 z.2.2.2.2.2.2.1 z.2.2.2.2.2.2.2.1 z.2.2.2.2.2.2.2.2 M_x27 M_x29 M_x33 z.2.1 z.2.2.1 z.2.2.2.1 M_g28 M_r0 M_r9 M_r10 M_r11 M_r13 M_r15 M_r16 z.2.2.2.2.1 z.2.2.2.2.2.1 M_r30 M_r31 M_r32) [.ref uM, .int a1, .int a2, .int a3] (some (.int z.1)) := by
  refine entryI (by decide +kernel) rfl (Nat.le_of_ble_eq_true rfl) ?_
  intro p e s m below meth c A ls QQ R ar F hRet jP jD jS jl
  obtain ⟨hx, hb, hml, hown, hts, jK, hA, hf1, hf2⟩ := id F
  have jl : lv_has ls 7 [(0, .ref uM), (1, .int a1), (2, .int a2), (3, .int a3)] := jl
  unfold fX6_learn at h
  refine lv_iload_n hx hb dX6_learn_0 rfl (lv_at jl 1 rfl) ?_
  obtain ⟨t1, hc2, h⟩ := bd_some h
  refine call0 (As := [.int a1]) (rest := []) (st1 := [.int t1]) F (kX6_isPrice l D cI cB cS  a1 _ hc2 ) okX6_isPrice w_420 (by decide) (by decide) ⟨Nat.zero_le _, Nat.zero_le _⟩ jP jD jS rfl jl.1 rfl rfl (Nat.le_of_ble_eq_true rfl) dX6_learn_1 (fun H locs jP jD jS => ?_)
  refine lv_if_eq (tgt := 29) hx hb dX6_learn_4 (by decide) (fun c3 => ?_) (fun c3 => ?_)
  · have h := itp c3 h
    refine lv_iconst (v := (-1 : Int32)) hx hb dX6_learn_29 (by decide) ?_
    obtain rfl := Option.some.inj h
    exact hRet _ _ _ _ jP jD jS dX6_learn_30
  · have h := itn c3 h
    refine lv_iload_n hx hb dX6_learn_7 rfl (lv_at jl 2 rfl) ?_
    refine lv_i2l (v := a2.toInt64) hx hb dX6_learn_8 rfl ?_
    refine lv_lconst (v := (0 : Int64)) hx hb dX6_learn_9 (by decide) ?_
    refine lv_ldc2 (v := (99 : Int64)) hx hb hown (hts _ w_289) dX6_learn_10 ?_
    obtain ⟨t4, hc5, h⟩ := bd_some h
    refine call0 (As := [.long a2.toInt64, .long (0 : Int64), .long (99 : Int64)]) (rest := []) (st1 := [.int t4]) F (kX6_in l D cI cB cS  a2.toInt64 (0 : Int64) (99 : Int64) _ hc5 ) okX6_in w_112 (by decide) (by decide) ⟨Nat.zero_le _, Nat.zero_le _⟩ jP jD jS rfl jl.1 rfl rfl (Nat.le_of_ble_eq_true rfl) dX6_learn_13 (fun H locs jP jD jS => ?_)
    refine lv_if_eq (tgt := 29) hx hb dX6_learn_16 (by decide) (fun c6 => ?_) (fun c6 => ?_)
    · have h := itp c6 h
      refine lv_iconst (v := (-1 : Int32)) hx hb dX6_learn_29 (by decide) ?_
      obtain rfl := Option.some.inj h
      exact hRet _ _ _ _ jP jD jS dX6_learn_30
    · have h := itn c6 h
      refine lv_iload_n hx hb dX6_learn_19 rfl (lv_at jl 3 rfl) ?_
      refine lv_i2l (v := a3.toInt64) hx hb dX6_learn_20 rfl ?_
      refine lv_lconst (v := (0 : Int64)) hx hb dX6_learn_21 (by decide) ?_
      refine lv_lconst (v := (1 : Int64)) hx hb dX6_learn_22 (by decide) ?_
      obtain ⟨t7, hc8, h⟩ := bd_some h
      refine call0 (As := [.long a3.toInt64, .long (0 : Int64), .long (1 : Int64)]) (rest := []) (st1 := [.int t7]) F (kX6_in l D cI cB cS  a3.toInt64 (0 : Int64) (1 : Int64) _ hc8 ) okX6_in w_112 (by decide) (by decide) ⟨Nat.zero_le _, Nat.zero_le _⟩ jP jD jS rfl jl.1 rfl rfl (Nat.le_of_ble_eq_true rfl) dX6_learn_23 (fun H locs jP jD jS => ?_)
      refine lv_if_ne (tgt := 31) hx hb dX6_learn_26 (by decide) (fun c9 => ?_) (fun c9 => ?_)
      · have h := itn c9 h
        refine lv_iload_n hx hb dX6_learn_31 rfl (lv_at jl 1 rfl) ?_
        refine lv_istore (lv' := [(4, .int a1), (0, .ref uM), (1, .int a1), (2, .int a2), (3, .int a3)]) hx hb dX6_learn_32 jl (by decide) rfl (fun ls jl => ?_)
        refine lv_iconst (v := (0 : Int32)) hx hb dX6_learn_34 (by decide) ?_
        refine lv_istore (lv' := [(5, .int (0 : Int32)), (4, .int a1), (0, .ref uM), (1, .int a1), (2, .int a2), (3, .int a3)]) hx hb dX6_learn_35 jl (by decide) rfl (fun ls jl => ?_)
        obtain ⟨T10, hT10, hz10⟩ := bd_some h
        clear h
        have hE10 : ∀ (e10 : (Int32 × Int64 × Int64 × Int64 × (Nat → Int32) × (Nat → Int32) × Int32 × Int32 × Int32)), T10 = .inr e10 → ∀ (H : Heap) (locs : List Loc) (ls : Array Slot), va_P D vwCl (mW cI uM aM M_x1 M_x2 M_x3 M_x4 M_x5 M_x6 M_x7 M_x8 M_x12 M_x14 M_x17 M_x18 e10.2.2.2.2.2.2.1 e10.2.2.2.2.2.2.2.1 e10.2.2.2.2.2.2.2.2 M_x27 M_x29 M_x33 e10.2.1 e10.2.2.1 e10.2.2.2.1 M_g28 M_r0 M_r9 M_r10 M_r11 M_r13 M_r15 M_r16 e10.2.2.2.2.1 e10.2.2.2.2.2.1 M_r30 M_r31 M_r32) H → va_D A (mW cI uM aM M_x1 M_x2 M_x3 M_x4 M_x5 M_x6 M_x7 M_x8 M_x12 M_x14 M_x17 M_x18 e10.2.2.2.2.2.2.1 e10.2.2.2.2.2.2.2.1 e10.2.2.2.2.2.2.2.2 M_x27 M_x29 M_x33 e10.2.1 e10.2.2.1 e10.2.2.2.1 M_g28 M_r0 M_r9 M_r10 M_r11 M_r13 M_r15 M_r16 e10.2.2.2.2.1 e10.2.2.2.2.2.1 M_r30 M_r31 M_r32) → va_S A s.heap H locs → lv_has ls 7 [(3, .int a3), (4, .int e10.1)] → W p l e R s m ar below meth c H locs 0 0 QQ (F0 m 85 ls []) := by
          intro e10 ho
          subst ho
          have hz10 := sm_r hz10
          clear jP jD jS jl
          intro H locs ls jP jD jS jl
          refine lv_iload_n hx hb dX6_learn_85 rfl (lv_at jl 0 rfl) ?_
          refine lv_if_ne (tgt := 94) hx hb dX6_learn_86 (by decide) (fun c18 => ?_) (fun c18 => ?_)
          · have hz10 := itn c18 hz10
            refine lv_bipush (v := (-4 : Int32)) hx hb dX6_learn_94 (by decide) ?_
            obtain rfl := Option.some.inj hz10
            exact hRet _ _ _ _ jP jD jS dX6_learn_96
          · have hz10 := itp c18 hz10
            refine lv_iload hx hb dX6_learn_89 (lv_at jl 1 rfl) ?_
            refine lv_goto (tgt := 96) hx hb dX6_learn_91 (by decide) ?_
            obtain rfl := Option.some.inj hz10
            exact hRet _ _ _ _ jP jD jS dX6_learn_96
        have hL10 : ∀ (n : Nat) (v10 : (Int32 × Int32 × Int64 × Int64 × Int64 × (Nat → Int32) × (Nat → Int32) × Int32 × Int32 × Int32)), loopF (fX6_learn_b37 a2 a3 M_r11 M_r15 M_x12 M_x18) n v10 = some T10 → ∀ (H : Heap) (locs : List Loc) (ls : Array Slot), va_P D vwCl (mW cI uM aM M_x1 M_x2 M_x3 M_x4 M_x5 M_x6 M_x7 M_x8 M_x12 M_x14 M_x17 M_x18 v10.2.2.2.2.2.2.2.1 v10.2.2.2.2.2.2.2.2.1 v10.2.2.2.2.2.2.2.2.2 M_x27 M_x29 M_x33 v10.2.2.1 v10.2.2.2.1 v10.2.2.2.2.1 M_g28 M_r0 M_r9 M_r10 M_r11 M_r13 M_r15 M_r16 v10.2.2.2.2.2.1 v10.2.2.2.2.2.2.1 M_r30 M_r31 M_r32) H → va_D A (mW cI uM aM M_x1 M_x2 M_x3 M_x4 M_x5 M_x6 M_x7 M_x8 M_x12 M_x14 M_x17 M_x18 v10.2.2.2.2.2.2.2.1 v10.2.2.2.2.2.2.2.2.1 v10.2.2.2.2.2.2.2.2.2 M_x27 M_x29 M_x33 v10.2.2.1 v10.2.2.2.1 v10.2.2.2.2.1 M_g28 M_r0 M_r9 M_r10 M_r11 M_r13 M_r15 M_r16 v10.2.2.2.2.2.1 v10.2.2.2.2.2.2.1 M_r30 M_r31 M_r32) → va_S A s.heap H locs → lv_has ls 7 [(0, .ref uM), (2, .int a2), (3, .int a3), (4, .int v10.1), (5, .int v10.2.1)] → W p l e R s m ar below meth c H locs 0 0 QQ (F0 m 37 ls []) := by
          clear jP jD jS jl hT10
          intro n
          induction n with
          | zero => intro v10 hq; exact (loop_none hq).elim
          | succ n ih =>
            intro v10 hq H locs ls jP jD jS jl
            obtain ⟨o10, hv10, hq10⟩ := loop_some hq
            clear hq
            unfold fX6_learn_b37 at hv10
            refine lv_iload hx hb dX6_learn_37 (lv_at jl 4 rfl) ?_
            refine lv_iload_n hx hb dX6_learn_39 rfl (lv_at jl 2 rfl) ?_
            obtain ⟨t12, hvt12, hv10⟩ := bd_some hv10
            have hJt12 : ∀ (H : Heap) (locs : List Loc) (ls : Array Slot), va_P D vwCl (mW cI uM aM M_x1 M_x2 M_x3 M_x4 M_x5 M_x6 M_x7 M_x8 M_x12 M_x14 M_x17 M_x18 v10.2.2.2.2.2.2.2.1 v10.2.2.2.2.2.2.2.2.1 v10.2.2.2.2.2.2.2.2.2 M_x27 M_x29 M_x33 v10.2.2.1 v10.2.2.2.1 v10.2.2.2.2.1 M_g28 M_r0 M_r9 M_r10 M_r11 M_r13 M_r15 M_r16 v10.2.2.2.2.2.1 v10.2.2.2.2.2.2.1 M_r30 M_r31 M_r32) H → va_D A (mW cI uM aM M_x1 M_x2 M_x3 M_x4 M_x5 M_x6 M_x7 M_x8 M_x12 M_x14 M_x17 M_x18 v10.2.2.2.2.2.2.2.1 v10.2.2.2.2.2.2.2.2.1 v10.2.2.2.2.2.2.2.2.2 M_x27 M_x29 M_x33 v10.2.2.1 v10.2.2.2.1 v10.2.2.2.2.1 M_g28 M_r0 M_r9 M_r10 M_r11 M_r13 M_r15 M_r16 v10.2.2.2.2.2.1 v10.2.2.2.2.2.2.1 M_r30 M_r31 M_r32) → va_S A s.heap H locs → lv_has ls 7 [(0, .ref uM), (2, .int a2), (3, .int a3), (4, .int v10.1), (5, .int v10.2.1)] → W p l e R s m ar below meth c H locs 0 0 QQ (F0 m 49 ls [.int t12, .int v10.2.1]) := by
              clear jP jD jS jl
              intro H locs ls jP jD jS jl
              refine lv_icmp_ge (tgt := 85) hx hb dX6_learn_49 (by decide) (fun c13 => ?_) (fun c13 => ?_)
              · have hv10 := itp c13 hv10
                obtain rfl := Option.some.inj hv10
                obtain rfl := nxt_r hq10
                exact hE10 _ rfl _ _ _ jP jD jS (lv_sub jl [2, 3] rfl)
              · have hv10 := itn c13 hv10
                refine lv_aload_n hx hb dX6_learn_52 rfl (lv_at jl 0 rfl) ?_
                refine lv_iload hx hb dX6_learn_53 (lv_at jl 3 rfl) ?_
                obtain ⟨t14, hc15, hv10⟩ := bd_some hv10
                refine callW (w1 := (mW cI uM aM M_x1 M_x2 M_x3 M_x4 M_x5 M_x6 M_x7 M_x8 M_x12 M_x14 M_x17 M_x18 t14.2.2.2.2.2.2.1 t14.2.2.2.2.2.2.2.1 t14.2.2.2.2.2.2.2.2 M_x27 M_x29 M_x33 t14.2.1 t14.2.2.1 t14.2.2.2.1 M_g28 M_r0 M_r9 M_r10 M_r11 M_r13 M_r15 M_r16 t14.2.2.2.2.1 t14.2.2.2.2.2.1 M_r30 M_r31 M_r32)) (As := [.int v10.1]) (rest := []) (st1 := [.int t14.1]) 0 F (kX6_learnt l D cI cB cS uM aM M_x1 M_x2 M_x3 M_x4 M_x5 M_x6 M_x7 M_x8 M_x12 M_x14 M_x17 M_x18 v10.2.2.2.2.2.2.2.1 v10.2.2.2.2.2.2.2.2.1 v10.2.2.2.2.2.2.2.2.2 M_x27 M_x29 M_x33 v10.2.2.1 v10.2.2.2.1 v10.2.2.2.2.1 M_g28 M_r0 M_r9 M_r10 M_r11 M_r13 M_r15 M_r16 v10.2.2.2.2.2.1 v10.2.2.2.2.2.2.1 M_r30 M_r31 M_r32 v10.1 _ hc15 ) okX6_learnt w_742 (by decide) (by decide) ⟨Nat.zero_le _, Nat.zero_le _⟩ rfl rfl rfl jP jD jS rfl jl.1 rfl rfl (Nat.le_of_ble_eq_true rfl) dX6_learn_55 (fun H locs jP jD jS => ?_)
                refine lv_istore (lv' := [(6, .int t14.1), (0, .ref uM), (2, .int a2), (3, .int a3), (4, .int v10.1), (5, .int v10.2.1)]) hx hb dX6_learn_58 jl (by decide) rfl (fun ls jl => ?_)
                refine lv_iload_n hx hb dX6_learn_60 rfl (lv_at jl 3 rfl) ?_
                refine lv_iconst (v := (1 : Int32)) hx hb dX6_learn_61 (by decide) ?_
                refine lv_icmp_ne (tgt := 75) hx hb dX6_learn_62 (by decide) (fun c16 => ?_) (fun c16 => ?_)
                · have hv10 := itn c16 hv10
                  refine lv_iload hx hb dX6_learn_75 (lv_at jl 0 rfl) ?_
                  refine lv_istore (lv' := [(4, .int t14.1), (6, .int t14.1), (0, .ref uM), (2, .int a2), (3, .int a3), (5, .int v10.2.1)]) hx hb dX6_learn_77 jl (by decide) rfl (fun ls jl => ?_)
                  refine lv_iinc (v := (v10.2.1 + (1 : Int32))) (lv' := [(5, .int (v10.2.1 + (1 : Int32))), (4, .int t14.1), (6, .int t14.1), (0, .ref uM), (2, .int a2), (3, .int a3)]) hx hb dX6_learn_79 jl (k := 5) rfl rfl (by decide) rfl (fun ls jl => ?_)
                  refine lv_goto (tgt := 37) hx hb dX6_learn_82 (by decide) ?_
                  obtain rfl := Option.some.inj hv10
                  exact ih _ (nxt_l hq10) _ _ _ jP jD jS (lv_sub jl [3, 4, 5, 1, 0] rfl)
                · have hv10 := itp c16 hv10
                  refine lv_iload hx hb dX6_learn_65 (lv_at jl 0 rfl) ?_
                  refine lv_iload hx hb dX6_learn_67 (lv_at jl 4 rfl) ?_
                  refine lv_icmp_ne (tgt := 75) hx hb dX6_learn_69 (by decide) (fun c17 => ?_) (fun c17 => ?_)
                  · have hv10 := itn c17 hv10
                    refine lv_iload hx hb dX6_learn_75 (lv_at jl 0 rfl) ?_
                    refine lv_istore (lv' := [(4, .int t14.1), (6, .int t14.1), (0, .ref uM), (2, .int a2), (3, .int a3), (5, .int v10.2.1)]) hx hb dX6_learn_77 jl (by decide) rfl (fun ls jl => ?_)
                    refine lv_iinc (v := (v10.2.1 + (1 : Int32))) (lv' := [(5, .int (v10.2.1 + (1 : Int32))), (4, .int t14.1), (6, .int t14.1), (0, .ref uM), (2, .int a2), (3, .int a3)]) hx hb dX6_learn_79 jl (k := 5) rfl rfl (by decide) rfl (fun ls jl => ?_)
                    refine lv_goto (tgt := 37) hx hb dX6_learn_82 (by decide) ?_
                    obtain rfl := Option.some.inj hv10
                    exact ih _ (nxt_l hq10) _ _ _ jP jD jS (lv_sub jl [3, 4, 5, 1, 0] rfl)
                  · have hv10 := itp c17 hv10
                    refine lv_iload hx hb dX6_learn_72 (lv_at jl 5 rfl) ?_
                    obtain rfl := Option.some.inj hv10
                    obtain rfl := nxt_r hq10
                    have hz10 := sm_l hz10
                    obtain rfl := Option.some.inj hz10
                    exact hRet _ _ _ _ jP jD jS dX6_learn_74
            clear hv10
            refine lv_if_ne (tgt := 47) hx hb dX6_learn_40 (by decide) (fun c11 => ?_) (fun c11 => ?_)
            · have hvt12 := itn c11 hvt12
              refine lv_bipush (v := (100 : Int32)) hx hb dX6_learn_47 (by decide) ?_
              obtain rfl := Option.some.inj hvt12
              exact hJt12 _ _ _ jP jD jS (lv_sub jl [0, 1, 2, 3, 4] rfl)
            · have hvt12 := itp c11 hvt12
              refine lv_iload_n hx hb dX6_learn_43 rfl (lv_at jl 1 rfl) ?_
              refine lv_goto (tgt := 49) hx hb dX6_learn_44 (by decide) ?_
              obtain rfl := Option.some.inj hvt12
              exact hJt12 _ _ _ jP jD jS (lv_sub jl [0, 1, 2, 3, 4] rfl)
        exact hL10 1000 _ hT10 _ _ _ jP jD jS (lv_sub jl [2, 4, 5, 1, 0] rfl)
      · have h := itp c9 h
        refine lv_iconst (v := (-1 : Int32)) hx hb dX6_learn_29 (by decide) ?_
        obtain rfl := Option.some.inj h
        exact hRet _ _ _ _ jP jD jS dX6_learn_30
theorem okX6_sheet : okV yX6_sheet cX6_sheet 5 (some .int) 3 := ⟨w_756, w_757, w_758, w_5, by decide, by decide, by decide +kernel⟩
def fX6_sheet_b56 (l1 : Int32) (v1 : (Int32 × (Nat → Int32))) : Option ((Int32 × (Nat → Int32)) ⊕ (Nat → Int32)) :=
  if (40 : Int32) ≤ v1.1 then (some (.inr v1.2)) else (ckI (((40 : Int32) * l1) + v1.1) 160 (some (.inl ((v1.1 + (1 : Int32)), (upd v1.2 (((40 : Int32) * l1) + v1.1).toNatClampNeg (0 : Int32))))))
def fX6_sheet (M_r30 : (Nat → Int32)) (M_r31 : (Nat → Int32)) (M_r32 : (Nat → Int32)) (a1 : Int32) (a2 : Int32) (a3 : Int32) : Option (Int32 × (Nat → Int32) × (Nat → Int32) × (Nat → Int32)) :=
  bd (fX6_in a1.toInt64 (0 : Int64) (3 : Int64)) (fun t1 => if t1 = (0 : Int32) then (some ((-1 : Int32), M_r30, M_r31, M_r32)) else (bd (fX6_in a2.toInt64 (0 : Int64) (2 : Int64)) (fun t4 => if t4 = (0 : Int32) then (some ((-1 : Int32), M_r30, M_r31, M_r32)) else (if a3 ≤ (40 : Int32) then (if (0 : Int32) ≤ a3 then (ckI a1 4 (ckI a1 4 (bd (loopF (fX6_sheet_b56 a1) 1000 ((0 : Int32), M_r32)) (fun T9 => some ((1 : Int32), (upd M_r30 a1.toNatClampNeg a2), (upd M_r31 a1.toNatClampNeg a3), T9))))) else (some ((-14 : Int32), M_r30, M_r31, M_r32))) else (some ((-1 : Int32), M_r30, M_r31, M_r32))))))
set_option maxRecDepth 100000 in
set_option maxHeartbeats 4000000 in
theorem kX6_sheet (l : Launch) (D : va_G) (cI cB cS : ClassId) (uM : Nat) (aM : Nat → Nat) (M_x1 : Int32) (M_x2 : Int32) (M_x3 : Int32) (M_x4 : Int32) (M_x5 : Int32) (M_x6 : Int32) (M_x7 : Int32) (M_x8 : Int32) (M_x12 : Int32) (M_x14 : Int32) (M_x17 : Int32) (M_x18 : Int32) (M_x19 : Int32) (M_x20 : Int32) (M_x23 : Int32) (M_x27 : Int32) (M_x29 : Int32) (M_x33 : Int32) (M_g24 : Int64) (M_g25 : Int64) (M_g26 : Int64) (M_g28 : Int64) (M_r0 : (Nat → Int32)) (M_r9 : (Nat → Int32)) (M_r10 : (Nat → Int32)) (M_r11 : (Nat → Int32)) (M_r13 : (Nat → Int32)) (M_r15 : (Nat → Int32)) (M_r16 : (Nat → Int32)) (M_r21 : (Nat → Int32)) (M_r22 : (Nat → Int32)) (M_r30 : (Nat → Int32)) (M_r31 : (Nat → Int32)) (M_r32 : (Nat → Int32)) (a1 : Int32) (a2 : Int32) (a3 : Int32) (z : (Int32 × (Nat → Int32) × (Nat → Int32) × (Nat → Int32))) (h : fX6_sheet M_r30 M_r31 M_r32 a1 a2 a3 = some z) : Mt l yX6_sheet cX6_sheet 5 (some .int) 1 25 D cI cB cS (mW cI uM aM M_x1 M_x2 M_x3 M_x4 M_x5 M_x6 M_x7 M_x8 M_x12 M_x14 M_x17 M_x18 M_x19 M_x20 M_x23 M_x27 M_x29 M_x33 M_g24 M_g25 M_g26 M_g28 M_r0 M_r9 M_r10 M_r11 M_r13 M_r15 M_r16 M_r21 M_r22 M_r30 M_r31 M_r32) (mW cI uM aM M_x1 M_x2 M_x3 M_x4 M_x5 M_x6 M_x7 M_x8 M_x12 M_x14 M_x17 M_x18 M_x19 M_x20 M_x23 M_x27 M_x29 M_x33 M_g24 M_g25 M_g26 M_g28 M_r0 M_r9 M_r10 M_r11 M_r13 M_r15 M_r16 M_r21 M_r22 z.2.1 z.2.2.1 z.2.2.2) [.ref uM, .int a1, .int a2, .int a3] (some (.int z.1)) := by
  refine entryI (by decide +kernel) rfl (Nat.le_of_ble_eq_true rfl) ?_
  intro p e s m below meth c A ls QQ R ar F hRet jP jD jS jl
  obtain ⟨hx, hb, hml, hown, hts, jK, hA, hf1, hf2⟩ := id F
  have jl : lv_has ls 5 [(0, .ref uM), (1, .int a1), (2, .int a2), (3, .int a3)] := jl
  unfold fX6_sheet at h
  refine lv_iload_n hx hb dX6_sheet_0 rfl (lv_at jl 1 rfl) ?_
  refine lv_i2l (v := a1.toInt64) hx hb dX6_sheet_1 rfl ?_
  refine lv_lconst (v := (0 : Int64)) hx hb dX6_sheet_2 (by decide) ?_
  refine lv_ldc2 (v := (3 : Int64)) hx hb hown (hts _ w_353) dX6_sheet_3 ?_
  obtain ⟨t1, hc2, h⟩ := bd_some h
  refine call0 (As := [.long a1.toInt64, .long (0 : Int64), .long (3 : Int64)]) (rest := []) (st1 := [.int t1]) F (kX6_in l D cI cB cS  a1.toInt64 (0 : Int64) (3 : Int64) _ hc2 ) okX6_in w_112 (by decide) (by decide) ⟨Nat.zero_le _, Nat.zero_le _⟩ jP jD jS rfl jl.1 rfl rfl (Nat.le_of_ble_eq_true rfl) dX6_sheet_6 (fun H locs jP jD jS => ?_)
  refine lv_if_eq (tgt := 30) hx hb dX6_sheet_9 (by decide) (fun c3 => ?_) (fun c3 => ?_)
  · have h := itp c3 h
    refine lv_iconst (v := (-1 : Int32)) hx hb dX6_sheet_30 (by decide) ?_
    obtain rfl := Option.some.inj h
    exact hRet _ _ _ _ jP jD jS dX6_sheet_31
  · have h := itn c3 h
    refine lv_iload_n hx hb dX6_sheet_12 rfl (lv_at jl 2 rfl) ?_
    refine lv_i2l (v := a2.toInt64) hx hb dX6_sheet_13 rfl ?_
    refine lv_lconst (v := (0 : Int64)) hx hb dX6_sheet_14 (by decide) ?_
    refine lv_ldc2 (v := (2 : Int64)) hx hb hown (hts _ w_413) dX6_sheet_15 ?_
    obtain ⟨t4, hc5, h⟩ := bd_some h
    refine call0 (As := [.long a2.toInt64, .long (0 : Int64), .long (2 : Int64)]) (rest := []) (st1 := [.int t4]) F (kX6_in l D cI cB cS  a2.toInt64 (0 : Int64) (2 : Int64) _ hc5 ) okX6_in w_112 (by decide) (by decide) ⟨Nat.zero_le _, Nat.zero_le _⟩ jP jD jS rfl jl.1 rfl rfl (Nat.le_of_ble_eq_true rfl) dX6_sheet_18 (fun H locs jP jD jS => ?_)
    refine lv_if_eq (tgt := 30) hx hb dX6_sheet_21 (by decide) (fun c6 => ?_) (fun c6 => ?_)
    · have h := itp c6 h
      refine lv_iconst (v := (-1 : Int32)) hx hb dX6_sheet_30 (by decide) ?_
      obtain rfl := Option.some.inj h
      exact hRet _ _ _ _ jP jD jS dX6_sheet_31
    · have h := itn c6 h
      refine lv_iload_n hx hb dX6_sheet_24 rfl (lv_at jl 3 rfl) ?_
      refine lv_bipush (v := (40 : Int32)) hx hb dX6_sheet_25 (by decide) ?_
      refine lv_icmp_le (tgt := 32) hx hb dX6_sheet_27 (by decide) (fun c7 => ?_) (fun c7 => ?_)
      · have h := itp c7 h
        refine lv_iload_n hx hb dX6_sheet_32 rfl (lv_at jl 3 rfl) ?_
        refine lv_if_ge (tgt := 39) hx hb dX6_sheet_33 (by decide) (fun c8 => ?_) (fun c8 => ?_)
        · have h := itp c8 h
          refine lv_aload_n hx hb dX6_sheet_39 rfl (lv_at jl 0 rfl) ?_
          refine va_get (D := D) (ci := 6) (v := .ref (aM 30)) (C := RX6) (T := TX6) (N := 34) hx hb hts in6 hown jK.1 jP 0 rfl rfl 30 (by decide) (hts _ w_87) (fun _ h9 => h9) rfl dX6_sheet_40 ?_
          refine lv_iload_n hx hb dX6_sheet_43 rfl (lv_at jl 1 rfl) ?_
          refine lv_iload_n hx hb dX6_sheet_44 rfl (lv_at jl 2 rfl) ?_
          obtain ⟨hin, h⟩ := ckI_some h
          refine va_iast (f := M_r30) hx hb jK.1 jP jD jS 10 0 rfl rfl hin dX6_sheet_45 (fun H locs jP jD jS => ?_)
          have jP : va_P D vwCl (mW cI uM aM M_x1 M_x2 M_x3 M_x4 M_x5 M_x6 M_x7 M_x8 M_x12 M_x14 M_x17 M_x18 M_x19 M_x20 M_x23 M_x27 M_x29 M_x33 M_g24 M_g25 M_g26 M_g28 M_r0 M_r9 M_r10 M_r11 M_r13 M_r15 M_r16 M_r21 M_r22 (upd M_r30 a1.toNatClampNeg a2) M_r31 M_r32) H := jP
          have jD : va_D A (mW cI uM aM M_x1 M_x2 M_x3 M_x4 M_x5 M_x6 M_x7 M_x8 M_x12 M_x14 M_x17 M_x18 M_x19 M_x20 M_x23 M_x27 M_x29 M_x33 M_g24 M_g25 M_g26 M_g28 M_r0 M_r9 M_r10 M_r11 M_r13 M_r15 M_r16 M_r21 M_r22 (upd M_r30 a1.toNatClampNeg a2) M_r31 M_r32) := jD
          refine lv_aload_n hx hb dX6_sheet_46 rfl (lv_at jl 0 rfl) ?_
          refine va_get (D := D) (ci := 6) (v := .ref (aM 31)) (C := RX6) (T := TX6) (N := 34) hx hb hts in6 hown jK.1 jP 0 rfl rfl 31 (by decide) (hts _ w_88) (fun _ h9 => h9) rfl dX6_sheet_47 ?_
          refine lv_iload_n hx hb dX6_sheet_50 rfl (lv_at jl 1 rfl) ?_
          refine lv_iload_n hx hb dX6_sheet_51 rfl (lv_at jl 3 rfl) ?_
          obtain ⟨hin, h⟩ := ckI_some h
          refine va_iast (f := M_r31) hx hb jK.1 jP jD jS 11 0 rfl rfl hin dX6_sheet_52 (fun H locs jP jD jS => ?_)
          have jP : va_P D vwCl (mW cI uM aM M_x1 M_x2 M_x3 M_x4 M_x5 M_x6 M_x7 M_x8 M_x12 M_x14 M_x17 M_x18 M_x19 M_x20 M_x23 M_x27 M_x29 M_x33 M_g24 M_g25 M_g26 M_g28 M_r0 M_r9 M_r10 M_r11 M_r13 M_r15 M_r16 M_r21 M_r22 (upd M_r30 a1.toNatClampNeg a2) (upd M_r31 a1.toNatClampNeg a3) M_r32) H := jP
          have jD : va_D A (mW cI uM aM M_x1 M_x2 M_x3 M_x4 M_x5 M_x6 M_x7 M_x8 M_x12 M_x14 M_x17 M_x18 M_x19 M_x20 M_x23 M_x27 M_x29 M_x33 M_g24 M_g25 M_g26 M_g28 M_r0 M_r9 M_r10 M_r11 M_r13 M_r15 M_r16 M_r21 M_r22 (upd M_r30 a1.toNatClampNeg a2) (upd M_r31 a1.toNatClampNeg a3) M_r32) := jD
          refine lv_iconst (v := (0 : Int32)) hx hb dX6_sheet_53 (by decide) ?_
          refine lv_istore (lv' := [(4, .int (0 : Int32)), (0, .ref uM), (1, .int a1), (2, .int a2), (3, .int a3)]) hx hb dX6_sheet_54 jl (by decide) rfl (fun ls jl => ?_)
          obtain ⟨T9, hT9, hz9⟩ := bd_some h
          clear h
          have hE9 : ∀ (H : Heap) (locs : List Loc) (ls : Array Slot), va_P D vwCl (mW cI uM aM M_x1 M_x2 M_x3 M_x4 M_x5 M_x6 M_x7 M_x8 M_x12 M_x14 M_x17 M_x18 M_x19 M_x20 M_x23 M_x27 M_x29 M_x33 M_g24 M_g25 M_g26 M_g28 M_r0 M_r9 M_r10 M_r11 M_r13 M_r15 M_r16 M_r21 M_r22 (upd M_r30 a1.toNatClampNeg a2) (upd M_r31 a1.toNatClampNeg a3) T9) H → va_D A (mW cI uM aM M_x1 M_x2 M_x3 M_x4 M_x5 M_x6 M_x7 M_x8 M_x12 M_x14 M_x17 M_x18 M_x19 M_x20 M_x23 M_x27 M_x29 M_x33 M_g24 M_g25 M_g26 M_g28 M_r0 M_r9 M_r10 M_r11 M_r13 M_r15 M_r16 M_r21 M_r22 (upd M_r30 a1.toNatClampNeg a2) (upd M_r31 a1.toNatClampNeg a3) T9) → va_S A s.heap H locs → lv_has ls 5 [] → W p l e R s m ar below meth c H locs 0 0 QQ (F0 m 82 ls []) := by
            clear jP jD jS jl
            intro H locs ls jP jD jS jl
            refine lv_iconst (v := (1 : Int32)) hx hb dX6_sheet_82 (by decide) ?_
            obtain rfl := Option.some.inj hz9
            exact hRet _ _ _ _ jP jD jS dX6_sheet_83
          have hL9 : ∀ (n : Nat) (v9 : (Int32 × (Nat → Int32))), loopF (fX6_sheet_b56 a1) n v9 = some T9 → ∀ (H : Heap) (locs : List Loc) (ls : Array Slot), va_P D vwCl (mW cI uM aM M_x1 M_x2 M_x3 M_x4 M_x5 M_x6 M_x7 M_x8 M_x12 M_x14 M_x17 M_x18 M_x19 M_x20 M_x23 M_x27 M_x29 M_x33 M_g24 M_g25 M_g26 M_g28 M_r0 M_r9 M_r10 M_r11 M_r13 M_r15 M_r16 M_r21 M_r22 (upd M_r30 a1.toNatClampNeg a2) (upd M_r31 a1.toNatClampNeg a3) v9.2) H → va_D A (mW cI uM aM M_x1 M_x2 M_x3 M_x4 M_x5 M_x6 M_x7 M_x8 M_x12 M_x14 M_x17 M_x18 M_x19 M_x20 M_x23 M_x27 M_x29 M_x33 M_g24 M_g25 M_g26 M_g28 M_r0 M_r9 M_r10 M_r11 M_r13 M_r15 M_r16 M_r21 M_r22 (upd M_r30 a1.toNatClampNeg a2) (upd M_r31 a1.toNatClampNeg a3) v9.2) → va_S A s.heap H locs → lv_has ls 5 [(0, .ref uM), (1, .int a1), (4, .int v9.1)] → W p l e R s m ar below meth c H locs 0 0 QQ (F0 m 56 ls []) := by
            clear jP jD jS jl hT9
            intro n
            induction n with
            | zero => intro v9 hq; exact (loop_none hq).elim
            | succ n ih =>
              intro v9 hq H locs ls jP jD jS jl
              obtain ⟨o9, hv9, hq9⟩ := loop_some hq
              clear hq
              unfold fX6_sheet_b56 at hv9
              refine lv_iload hx hb dX6_sheet_56 (lv_at jl 2 rfl) ?_
              refine lv_bipush (v := (40 : Int32)) hx hb dX6_sheet_58 (by decide) ?_
              refine lv_icmp_ge (tgt := 82) hx hb dX6_sheet_60 (by decide) (fun c10 => ?_) (fun c10 => ?_)
              · have hv9 := itp c10 hv9
                obtain rfl := Option.some.inj hv9
                obtain rfl := nxt_r hq9
                exact hE9 _ _ _ jP jD jS (lv_sub jl [] rfl)
              · have hv9 := itn c10 hv9
                refine lv_aload_n hx hb dX6_sheet_63 rfl (lv_at jl 0 rfl) ?_
                refine va_get (D := D) (ci := 6) (v := .ref (aM 32)) (C := RX6) (T := TX6) (N := 34) hx hb hts in6 hown jK.1 jP 0 rfl rfl 32 (by decide) (hts _ w_89) (fun _ h9 => h9) rfl dX6_sheet_64 ?_
                refine lv_bipush (v := (40 : Int32)) hx hb dX6_sheet_67 (by decide) ?_
                refine lv_iload_n hx hb dX6_sheet_69 rfl (lv_at jl 1 rfl) ?_
                refine lv_imul hx hb dX6_sheet_70 ?_
                refine lv_iload hx hb dX6_sheet_71 (lv_at jl 2 rfl) ?_
                refine lv_iadd hx hb dX6_sheet_73 ?_
                refine lv_iconst (v := (0 : Int32)) hx hb dX6_sheet_74 (by decide) ?_
                obtain ⟨hin, hv9⟩ := ckI_some hv9
                refine va_iast (f := v9.2) hx hb jK.1 jP jD jS 12 0 rfl rfl hin dX6_sheet_75 (fun H locs jP jD jS => ?_)
                have jP : va_P D vwCl (mW cI uM aM M_x1 M_x2 M_x3 M_x4 M_x5 M_x6 M_x7 M_x8 M_x12 M_x14 M_x17 M_x18 M_x19 M_x20 M_x23 M_x27 M_x29 M_x33 M_g24 M_g25 M_g26 M_g28 M_r0 M_r9 M_r10 M_r11 M_r13 M_r15 M_r16 M_r21 M_r22 (upd M_r30 a1.toNatClampNeg a2) (upd M_r31 a1.toNatClampNeg a3) (upd v9.2 (((40 : Int32) * a1) + v9.1).toNatClampNeg (0 : Int32))) H := jP
                have jD : va_D A (mW cI uM aM M_x1 M_x2 M_x3 M_x4 M_x5 M_x6 M_x7 M_x8 M_x12 M_x14 M_x17 M_x18 M_x19 M_x20 M_x23 M_x27 M_x29 M_x33 M_g24 M_g25 M_g26 M_g28 M_r0 M_r9 M_r10 M_r11 M_r13 M_r15 M_r16 M_r21 M_r22 (upd M_r30 a1.toNatClampNeg a2) (upd M_r31 a1.toNatClampNeg a3) (upd v9.2 (((40 : Int32) * a1) + v9.1).toNatClampNeg (0 : Int32))) := jD
                refine lv_iinc (v := (v9.1 + (1 : Int32))) (lv' := [(4, .int (v9.1 + (1 : Int32))), (0, .ref uM), (1, .int a1)]) hx hb dX6_sheet_76 jl (k := 2) rfl rfl (by decide) rfl (fun ls jl => ?_)
                refine lv_goto (tgt := 56) hx hb dX6_sheet_79 (by decide) ?_
                obtain rfl := Option.some.inj hv9
                exact ih _ (nxt_l hq9) _ _ _ jP jD jS (lv_sub jl [1, 2, 0] rfl)
          exact hL9 1000 _ hT9 _ _ _ jP jD jS (lv_sub jl [1, 2, 0] rfl)
        · have h := itn c8 h
          refine lv_bipush (v := (-14 : Int32)) hx hb dX6_sheet_36 (by decide) ?_
          obtain rfl := Option.some.inj h
          exact hRet _ _ _ _ jP jD jS dX6_sheet_38
      · have h := itn c7 h
        refine lv_iconst (v := (-1 : Int32)) hx hb dX6_sheet_30 (by decide) ?_
        obtain rfl := Option.some.inj h
        exact hRet _ _ _ _ jP jD jS dX6_sheet_31
theorem okX6_lay : okV yX6_lay cX6_lay 4 (some .int) 3 := ⟨w_774, w_775, w_776, w_5, by decide, by decide, by decide +kernel⟩
def fX6_lay (M_r30 : (Nat → Int32)) (M_r31 : (Nat → Int32)) (M_r32 : (Nat → Int32)) (a1 : Int32) (a2 : Int32) (a3 : Int32) : Option (Int32 × (Nat → Int32)) :=
  bd (fX6_in a1.toInt64 (0 : Int64) (3 : Int64)) (fun t1 => if t1 = (0 : Int32) then (some ((-1 : Int32), M_r32)) else (ckI a1 4 (if (M_r30 a1.toNatClampNeg) = (-4 : Int32) then (some ((-11 : Int32), M_r32)) else (ckI a1 4 (bd (fX6_in a2.toInt64 (0 : Int64) (((M_r31 a1.toNatClampNeg) - (1 : Int32)).toInt64)) (fun t5 => if t5 = (0 : Int32) then (some ((-12 : Int32), M_r32)) else (ckI a1 4 (bd (if (M_r30 a1.toNatClampNeg) = (0 : Int32) then (some ((a3 <<< ((24 : Int32) &&& 31)) >>> ((24 : Int32) &&& 31))) else (ckI a1 4 (if (M_r30 a1.toNatClampNeg) = (1 : Int32) then (some ((a3 <<< ((16 : Int32) &&& 31)) >>> ((16 : Int32) &&& 31))) else some a3))) (fun t10 => ckI (((40 : Int32) * a1) + a2) 160 (some ((1 : Int32), (upd M_r32 (((40 : Int32) * a1) + a2).toNatClampNeg t10))))))))))))
set_option maxRecDepth 100000 in
set_option maxHeartbeats 4000000 in
theorem kX6_lay (l : Launch) (D : va_G) (cI cB cS : ClassId) (uM : Nat) (aM : Nat → Nat) (M_x1 : Int32) (M_x2 : Int32) (M_x3 : Int32) (M_x4 : Int32) (M_x5 : Int32) (M_x6 : Int32) (M_x7 : Int32) (M_x8 : Int32) (M_x12 : Int32) (M_x14 : Int32) (M_x17 : Int32) (M_x18 : Int32) (M_x19 : Int32) (M_x20 : Int32) (M_x23 : Int32) (M_x27 : Int32) (M_x29 : Int32) (M_x33 : Int32) (M_g24 : Int64) (M_g25 : Int64) (M_g26 : Int64) (M_g28 : Int64) (M_r0 : (Nat → Int32)) (M_r9 : (Nat → Int32)) (M_r10 : (Nat → Int32)) (M_r11 : (Nat → Int32)) (M_r13 : (Nat → Int32)) (M_r15 : (Nat → Int32)) (M_r16 : (Nat → Int32)) (M_r21 : (Nat → Int32)) (M_r22 : (Nat → Int32)) (M_r30 : (Nat → Int32)) (M_r31 : (Nat → Int32)) (M_r32 : (Nat → Int32)) (a1 : Int32) (a2 : Int32) (a3 : Int32) (z : (Int32 × (Nat → Int32))) (h : fX6_lay M_r30 M_r31 M_r32 a1 a2 a3 = some z) : Mt l yX6_lay cX6_lay 4 (some .int) 1 25 D cI cB cS (mW cI uM aM M_x1 M_x2 M_x3 M_x4 M_x5 M_x6 M_x7 M_x8 M_x12 M_x14 M_x17 M_x18 M_x19 M_x20 M_x23 M_x27 M_x29 M_x33 M_g24 M_g25 M_g26 M_g28 M_r0 M_r9 M_r10 M_r11 M_r13 M_r15 M_r16 M_r21 M_r22 M_r30 M_r31 M_r32) (mW cI uM aM M_x1 M_x2 M_x3 M_x4 M_x5 M_x6 M_x7 M_x8 M_x12 M_x14 M_x17 M_x18 M_x19 M_x20 M_x23 M_x27 M_x29 M_x33 M_g24 M_g25 M_g26 M_g28 M_r0 M_r9 M_r10 M_r11 M_r13 M_r15 M_r16 M_r21 M_r22 M_r30 M_r31 z.2) [.ref uM, .int a1, .int a2, .int a3] (some (.int z.1)) := by
  refine entryI (by decide +kernel) rfl (Nat.le_of_ble_eq_true rfl) ?_
  intro p e s m below meth c A ls QQ R ar F hRet jP jD jS jl
  obtain ⟨hx, hb, hml, hown, hts, jK, hA, hf1, hf2⟩ := id F
  have jl : lv_has ls 4 [(0, .ref uM), (1, .int a1), (2, .int a2), (3, .int a3)] := jl
  unfold fX6_lay at h
  refine lv_iload_n hx hb dX6_lay_0 rfl (lv_at jl 1 rfl) ?_
  refine lv_i2l (v := a1.toInt64) hx hb dX6_lay_1 rfl ?_
  refine lv_lconst (v := (0 : Int64)) hx hb dX6_lay_2 (by decide) ?_
  refine lv_ldc2 (v := (3 : Int64)) hx hb hown (hts _ w_353) dX6_lay_3 ?_
  obtain ⟨t1, hc2, h⟩ := bd_some h
  refine call0 (As := [.long a1.toInt64, .long (0 : Int64), .long (3 : Int64)]) (rest := []) (st1 := [.int t1]) F (kX6_in l D cI cB cS  a1.toInt64 (0 : Int64) (3 : Int64) _ hc2 ) okX6_in w_112 (by decide) (by decide) ⟨Nat.zero_le _, Nat.zero_le _⟩ jP jD jS rfl jl.1 rfl rfl (Nat.le_of_ble_eq_true rfl) dX6_lay_6 (fun H locs jP jD jS => ?_)
  refine lv_if_ne (tgt := 14) hx hb dX6_lay_9 (by decide) (fun c3 => ?_) (fun c3 => ?_)
  · have h := itn c3 h
    refine lv_aload_n hx hb dX6_lay_14 rfl (lv_at jl 0 rfl) ?_
    refine va_get (D := D) (ci := 6) (v := .ref (aM 30)) (C := RX6) (T := TX6) (N := 34) hx hb hts in6 hown jK.1 jP 0 rfl rfl 30 (by decide) (hts _ w_87) (fun _ h9 => h9) rfl dX6_lay_15 ?_
    refine lv_iload_n hx hb dX6_lay_18 rfl (lv_at jl 1 rfl) ?_
    obtain ⟨hin, h⟩ := ckI_some h
    refine va_iald (f := M_r30) hx hb jK.1 jP 10 0 rfl rfl hin dX6_lay_19 ?_
    refine lv_bipush (v := (-4 : Int32)) hx hb dX6_lay_20 (by decide) ?_
    refine lv_icmp_ne (tgt := 28) hx hb dX6_lay_22 (by decide) (fun c4 => ?_) (fun c4 => ?_)
    · have h := itn c4 h
      refine lv_iload_n hx hb dX6_lay_28 rfl (lv_at jl 2 rfl) ?_
      refine lv_i2l (v := a2.toInt64) hx hb dX6_lay_29 rfl ?_
      refine lv_lconst (v := (0 : Int64)) hx hb dX6_lay_30 (by decide) ?_
      refine lv_aload_n hx hb dX6_lay_31 rfl (lv_at jl 0 rfl) ?_
      refine va_get (D := D) (ci := 6) (v := .ref (aM 31)) (C := RX6) (T := TX6) (N := 34) hx hb hts in6 hown jK.1 jP 0 rfl rfl 31 (by decide) (hts _ w_88) (fun _ h9 => h9) rfl dX6_lay_32 ?_
      refine lv_iload_n hx hb dX6_lay_35 rfl (lv_at jl 1 rfl) ?_
      obtain ⟨hin, h⟩ := ckI_some h
      refine va_iald (f := M_r31) hx hb jK.1 jP 11 0 rfl rfl hin dX6_lay_36 ?_
      refine lv_iconst (v := (1 : Int32)) hx hb dX6_lay_37 (by decide) ?_
      refine lv_isub hx hb dX6_lay_38 ?_
      refine lv_i2l (v := ((M_r31 a1.toNatClampNeg) - (1 : Int32)).toInt64) hx hb dX6_lay_39 rfl ?_
      obtain ⟨t5, hc6, h⟩ := bd_some h
      refine call0 (As := [.long a2.toInt64, .long (0 : Int64), .long (((M_r31 a1.toNatClampNeg) - (1 : Int32)).toInt64)]) (rest := []) (st1 := [.int t5]) F (kX6_in l D cI cB cS  a2.toInt64 (0 : Int64) (((M_r31 a1.toNatClampNeg) - (1 : Int32)).toInt64) _ hc6 ) okX6_in w_112 (by decide) (by decide) ⟨Nat.zero_le _, Nat.zero_le _⟩ jP jD jS rfl jl.1 rfl rfl (Nat.le_of_ble_eq_true rfl) dX6_lay_40 (fun H locs jP jD jS => ?_)
      refine lv_if_ne (tgt := 49) hx hb dX6_lay_43 (by decide) (fun c7 => ?_) (fun c7 => ?_)
      · have h := itn c7 h
        refine lv_aload_n hx hb dX6_lay_49 rfl (lv_at jl 0 rfl) ?_
        refine va_get (D := D) (ci := 6) (v := .ref (aM 32)) (C := RX6) (T := TX6) (N := 34) hx hb hts in6 hown jK.1 jP 0 rfl rfl 32 (by decide) (hts _ w_89) (fun _ h9 => h9) rfl dX6_lay_50 ?_
        refine lv_bipush (v := (40 : Int32)) hx hb dX6_lay_53 (by decide) ?_
        refine lv_iload_n hx hb dX6_lay_55 rfl (lv_at jl 1 rfl) ?_
        refine lv_imul hx hb dX6_lay_56 ?_
        refine lv_iload_n hx hb dX6_lay_57 rfl (lv_at jl 2 rfl) ?_
        refine lv_iadd hx hb dX6_lay_58 ?_
        refine lv_aload_n hx hb dX6_lay_59 rfl (lv_at jl 0 rfl) ?_
        refine va_get (D := D) (ci := 6) (v := .ref (aM 30)) (C := RX6) (T := TX6) (N := 34) hx hb hts in6 hown jK.1 jP 0 rfl rfl 30 (by decide) (hts _ w_87) (fun _ h9 => h9) rfl dX6_lay_60 ?_
        refine lv_iload_n hx hb dX6_lay_63 rfl (lv_at jl 1 rfl) ?_
        obtain ⟨hin, h⟩ := ckI_some h
        refine va_iald (f := M_r30) hx hb jK.1 jP 10 0 rfl rfl hin dX6_lay_64 ?_
        obtain ⟨t10, hvt10, h⟩ := bd_some h
        have hJt10 : ∀ (H : Heap) (locs : List Loc) (ls : Array Slot), va_P D vwCl (mW cI uM aM M_x1 M_x2 M_x3 M_x4 M_x5 M_x6 M_x7 M_x8 M_x12 M_x14 M_x17 M_x18 M_x19 M_x20 M_x23 M_x27 M_x29 M_x33 M_g24 M_g25 M_g26 M_g28 M_r0 M_r9 M_r10 M_r11 M_r13 M_r15 M_r16 M_r21 M_r22 M_r30 M_r31 M_r32) H → va_D A (mW cI uM aM M_x1 M_x2 M_x3 M_x4 M_x5 M_x6 M_x7 M_x8 M_x12 M_x14 M_x17 M_x18 M_x19 M_x20 M_x23 M_x27 M_x29 M_x33 M_g24 M_g25 M_g26 M_g28 M_r0 M_r9 M_r10 M_r11 M_r13 M_r15 M_r16 M_r21 M_r22 M_r30 M_r31 M_r32) → va_S A s.heap H locs → lv_has ls 4 [] → W p l e R s m ar below meth c H locs 0 0 QQ (F0 m 99 ls [.int t10, .int (((40 : Int32) * a1) + a2), .ref (aM 32)]) := by
          clear jP jD jS jl
          intro H locs ls jP jD jS jl
          obtain ⟨hin, h⟩ := ckI_some h
          refine va_iast (f := M_r32) hx hb jK.1 jP jD jS 12 0 rfl rfl hin dX6_lay_99 (fun H locs jP jD jS => ?_)
          have jP : va_P D vwCl (mW cI uM aM M_x1 M_x2 M_x3 M_x4 M_x5 M_x6 M_x7 M_x8 M_x12 M_x14 M_x17 M_x18 M_x19 M_x20 M_x23 M_x27 M_x29 M_x33 M_g24 M_g25 M_g26 M_g28 M_r0 M_r9 M_r10 M_r11 M_r13 M_r15 M_r16 M_r21 M_r22 M_r30 M_r31 (upd M_r32 (((40 : Int32) * a1) + a2).toNatClampNeg t10)) H := jP
          have jD : va_D A (mW cI uM aM M_x1 M_x2 M_x3 M_x4 M_x5 M_x6 M_x7 M_x8 M_x12 M_x14 M_x17 M_x18 M_x19 M_x20 M_x23 M_x27 M_x29 M_x33 M_g24 M_g25 M_g26 M_g28 M_r0 M_r9 M_r10 M_r11 M_r13 M_r15 M_r16 M_r21 M_r22 M_r30 M_r31 (upd M_r32 (((40 : Int32) * a1) + a2).toNatClampNeg t10)) := jD
          refine lv_iconst (v := (1 : Int32)) hx hb dX6_lay_100 (by decide) ?_
          obtain rfl := Option.some.inj h
          exact hRet _ _ _ _ jP jD jS dX6_lay_101
        clear h
        refine lv_if_ne (tgt := 78) hx hb dX6_lay_65 (by decide) (fun c8 => ?_) (fun c8 => ?_)
        · have hvt10 := itn c8 hvt10
          refine lv_aload_n hx hb dX6_lay_78 rfl (lv_at jl 0 rfl) ?_
          refine va_get (D := D) (ci := 6) (v := .ref (aM 30)) (C := RX6) (T := TX6) (N := 34) hx hb hts in6 hown jK.1 jP 0 rfl rfl 30 (by decide) (hts _ w_87) (fun _ h9 => h9) rfl dX6_lay_79 ?_
          refine lv_iload_n hx hb dX6_lay_82 rfl (lv_at jl 1 rfl) ?_
          obtain ⟨hin, hvt10⟩ := ckI_some hvt10
          refine va_iald (f := M_r30) hx hb jK.1 jP 10 0 rfl rfl hin dX6_lay_83 ?_
          refine lv_iconst (v := (1 : Int32)) hx hb dX6_lay_84 (by decide) ?_
          refine lv_icmp_ne (tgt := 98) hx hb dX6_lay_85 (by decide) (fun c9 => ?_) (fun c9 => ?_)
          · have hvt10 := itn c9 hvt10
            refine lv_iload_n hx hb dX6_lay_98 rfl (lv_at jl 3 rfl) ?_
            obtain rfl := Option.some.inj hvt10
            exact hJt10 _ _ _ jP jD jS (lv_sub jl [] rfl)
          · have hvt10 := itp c9 hvt10
            refine lv_iload_n hx hb dX6_lay_88 rfl (lv_at jl 3 rfl) ?_
            refine lv_bipush (v := (16 : Int32)) hx hb dX6_lay_89 (by decide) ?_
            refine lv_ishl hx hb dX6_lay_91 ?_
            refine lv_bipush (v := (16 : Int32)) hx hb dX6_lay_92 (by decide) ?_
            refine lv_ishr hx hb dX6_lay_94 ?_
            refine lv_goto (tgt := 99) hx hb dX6_lay_95 (by decide) ?_
            obtain rfl := Option.some.inj hvt10
            exact hJt10 _ _ _ jP jD jS (lv_sub jl [] rfl)
        · have hvt10 := itp c8 hvt10
          refine lv_iload_n hx hb dX6_lay_68 rfl (lv_at jl 3 rfl) ?_
          refine lv_bipush (v := (24 : Int32)) hx hb dX6_lay_69 (by decide) ?_
          refine lv_ishl hx hb dX6_lay_71 ?_
          refine lv_bipush (v := (24 : Int32)) hx hb dX6_lay_72 (by decide) ?_
          refine lv_ishr hx hb dX6_lay_74 ?_
          refine lv_goto (tgt := 99) hx hb dX6_lay_75 (by decide) ?_
          obtain rfl := Option.some.inj hvt10
          exact hJt10 _ _ _ jP jD jS (lv_sub jl [] rfl)
      · have h := itp c7 h
        refine lv_bipush (v := (-12 : Int32)) hx hb dX6_lay_46 (by decide) ?_
        obtain rfl := Option.some.inj h
        exact hRet _ _ _ _ jP jD jS dX6_lay_48
    · have h := itp c4 h
      refine lv_bipush (v := (-11 : Int32)) hx hb dX6_lay_25 (by decide) ?_
      obtain rfl := Option.some.inj h
      exact hRet _ _ _ _ jP jD jS dX6_lay_27
  · have h := itp c3 h
    refine lv_iconst (v := (-1 : Int32)) hx hb dX6_lay_12 (by decide) ?_
    obtain rfl := Option.some.inj h
    exact hRet _ _ _ _ jP jD jS dX6_lay_13
theorem okX6_read : okV yX6_read cX6_read 9 (some .int) 4 := ⟨w_791, w_792, w_793, w_5, by decide, by decide, by decide +kernel⟩
def fX6_read_b48 (l1 : Int32) (l2 : Int32) (l3 : Int32) (l4 : Int32) (M_r30 : (Nat → Int32)) (M_r31 : (Nat → Int32)) (M_r32 : (Nat → Int32)) (M_x12 : Int32) (M_r11 : (Nat → Int32)) (M_x33 : Int32) (v1 : (Int32 × Int32 × Int32)) : Option ((Int32 × Int32 × Int32) ⊕ ((Int32 × (Nat → Int32) × Int32 × Int32) ⊕ (Int32 × Int32))) :=
  if ((4 : Int32) * l4) ≤ v1.2.2 then (some (.inr (.inr (v1.1, v1.2.1)))) else (if v1.1 = (0 : Int32) then (ckI l1 4 (bd (if (M_r30 (l1).toNatClampNeg) = (-4 : Int32) then (some (1 : Int32)) else (ckI l1 4 (if (M_r30 (l1).toNatClampNeg) = l2 then (ckI l1 4 (bd (fX6_in ((l3).toInt64 + v1.2.2.toInt64) (0 : Int64) (((M_r31 (l1).toNatClampNeg) - (1 : Int32)).toInt64)) (fun t1 => if t1 = (0 : Int32) then (some (2 : Int32)) else (some (0 : Int32))))) else (some (3 : Int32))))) (fun t2 => if t2 = (0 : Int32) then (if (v1.2.2 - v1.2.2 / (4 : Int32) * (4 : Int32)) = (3 : Int32) then (ckI (((((40 : Int32) * l1) + l3) + v1.2.2) - (3 : Int32)) 160 (ckI ((((((40 : Int32) * l1) + l3) + v1.2.2) - (3 : Int32)) + (1 : Int32)) 160 (ckI ((((((40 : Int32) * l1) + l3) + v1.2.2) - (3 : Int32)) + (2 : Int32)) 160 (ckI ((((((40 : Int32) * l1) + l3) + v1.2.2) - (3 : Int32)) + (3 : Int32)) 160 (bd (fX6_isAsTold (M_r32 (((((40 : Int32) * l1) + l3) + v1.2.2) - (3 : Int32)).toNatClampNeg) (M_r32 ((((((40 : Int32) * l1) + l3) + v1.2.2) - (3 : Int32)) + (1 : Int32)).toNatClampNeg) (M_r32 ((((((40 : Int32) * l1) + l3) + v1.2.2) - (3 : Int32)) + (2 : Int32)).toNatClampNeg) (M_r32 ((((((40 : Int32) * l1) + l3) + v1.2.2) - (3 : Int32)) + (3 : Int32)).toNatClampNeg)) (fun t3 => if t3 = (0 : Int32) then (some (.inr (.inl (((-20 : Int32) - v1.2.1), M_r11, M_x12, M_x33)))) else (if (M_x12 + (v1.2.1 + (1 : Int32))) ≤ (8 : Int32) then (some (.inl (t2, (v1.2.1 + (1 : Int32)), (v1.2.2 + (1 : Int32))))) else (some (.inr (.inl ((-3 : Int32), M_r11, M_x12, M_x33))))))))))) else (some (.inl (t2, v1.2.1, (v1.2.2 + (1 : Int32)))))) else (some (.inl (t2, v1.2.1, (v1.2.2 + (1 : Int32)))))))) else (some (.inr (.inr (v1.1, v1.2.1)))))
def fX6_read_b219 (l1 : Int32) (l3 : Int32) (l5 : Int32) (l6 : Int32) (M_r32 : (Nat → Int32)) (v1 : (Int32 × (Nat → Int32) × Int32)) : Option ((Int32 × (Nat → Int32) × Int32) ⊕ ((Nat → Int32) × Int32)) :=
  if l6 ≤ v1.1 then (some (.inr (v1.2.1, v1.2.2))) else (ckI ((((40 : Int32) * l1) + l3) + ((4 : Int32) * v1.1)) 160 (ckI (((((40 : Int32) * l1) + l3) + ((4 : Int32) * v1.1)) + (1 : Int32)) 160 (ckI (((((40 : Int32) * l1) + l3) + ((4 : Int32) * v1.1)) + (2 : Int32)) 160 (ckI (((((40 : Int32) * l1) + l3) + ((4 : Int32) * v1.1)) + (3 : Int32)) 160 (bd (fX6_layRowa v1.2.1 v1.2.2 (M_r32 ((((40 : Int32) * l1) + l3) + ((4 : Int32) * v1.1)).toNatClampNeg) (M_r32 (((((40 : Int32) * l1) + l3) + ((4 : Int32) * v1.1)) + (1 : Int32)).toNatClampNeg) (M_r32 (((((40 : Int32) * l1) + l3) + ((4 : Int32) * v1.1)) + (2 : Int32)).toNatClampNeg) (M_r32 (((((40 : Int32) * l1) + l3) + ((4 : Int32) * v1.1)) + (3 : Int32)).toNatClampNeg)) (fun t1 => some (.inl ((v1.1 + (1 : Int32)), t1, (v1.2.2 + (1 : Int32))))))))))
def fX6_read (M_r11 : (Nat → Int32)) (M_r30 : (Nat → Int32)) (M_r31 : (Nat → Int32)) (M_r32 : (Nat → Int32)) (M_x12 : Int32) (M_x33 : Int32) (a1 : Int32) (a2 : Int32) (a3 : Int32) (a4 : Int32) : Option (Int32 × (Nat → Int32) × Int32 × Int32) :=
  bd (fX6_in a1.toInt64 (0 : Int64) (3 : Int64)) (fun t1 => if t1 = (0 : Int32) then (some ((-1 : Int32), M_r11, M_x12, M_x33)) else (bd (fX6_in a2.toInt64 (0 : Int64) (2 : Int64)) (fun t4 => if t4 = (0 : Int32) then (some ((-1 : Int32), M_r11, M_x12, M_x33)) else (bd (fX6_in a4.toInt64 (0 : Int64) (8 : Int64)) (fun t7 => if t7 = (0 : Int32) then (some ((-1 : Int32), M_r11, M_x12, M_x33)) else (bd (loopF (fX6_read_b48 a1 a2 a3 a4 M_r30 M_r31 M_r32 M_x12 M_r11 M_x33) 1000 ((0 : Int32), (0 : Int32), (0 : Int32))) (fun T10 => sm T10 (fun z => some z) (fun e10 => bd (loopF (fX6_read_b219 a1 a3 e10.1 e10.2 M_r32) 1000 ((0 : Int32), M_r11, M_x12)) (fun T25 => some (e10.2, T25.1, T25.2, e10.1))))))))))
set_option maxRecDepth 100000 in
set_option maxHeartbeats 4000000 in
theorem kX6_read (l : Launch) (D : va_G) (cI cB cS : ClassId) (uM : Nat) (aM : Nat → Nat) (M_x1 : Int32) (M_x2 : Int32) (M_x3 : Int32) (M_x4 : Int32) (M_x5 : Int32) (M_x6 : Int32) (M_x7 : Int32) (M_x8 : Int32) (M_x12 : Int32) (M_x14 : Int32) (M_x17 : Int32) (M_x18 : Int32) (M_x19 : Int32) (M_x20 : Int32) (M_x23 : Int32) (M_x27 : Int32) (M_x29 : Int32) (M_x33 : Int32) (M_g24 : Int64) (M_g25 : Int64) (M_g26 : Int64) (M_g28 : Int64) (M_r0 : (Nat → Int32)) (M_r9 : (Nat → Int32)) (M_r10 : (Nat → Int32)) (M_r11 : (Nat → Int32)) (M_r13 : (Nat → Int32)) (M_r15 : (Nat → Int32)) (M_r16 : (Nat → Int32)) (M_r21 : (Nat → Int32)) (M_r22 : (Nat → Int32)) (M_r30 : (Nat → Int32)) (M_r31 : (Nat → Int32)) (M_r32 : (Nat → Int32)) (a1 : Int32) (a2 : Int32) (a3 : Int32) (a4 : Int32) (z : (Int32 × (Nat → Int32) × Int32 × Int32)) (h : fX6_read M_r11 M_r30 M_r31 M_r32 M_x12 M_x33 a1 a2 a3 a4 = some z) : Mt l yX6_read cX6_read 9 (some .int) 2 48 D cI cB cS (mW cI uM aM M_x1 M_x2 M_x3 M_x4 M_x5 M_x6 M_x7 M_x8 M_x12 M_x14 M_x17 M_x18 M_x19 M_x20 M_x23 M_x27 M_x29 M_x33 M_g24 M_g25 M_g26 M_g28 M_r0 M_r9 M_r10 M_r11 M_r13 M_r15 M_r16 M_r21 M_r22 M_r30 M_r31 M_r32) (mW cI uM aM M_x1 M_x2 M_x3 M_x4 M_x5 M_x6 M_x7 M_x8 z.2.2.1 M_x14 M_x17 M_x18 M_x19 M_x20 M_x23 M_x27 M_x29 z.2.2.2 M_g24 M_g25 M_g26 M_g28 M_r0 M_r9 M_r10 z.2.1 M_r13 M_r15 M_r16 M_r21 M_r22 M_r30 M_r31 M_r32) [.ref uM, .int a1, .int a2, .int a3, .int a4] (some (.int z.1)) := by
  refine entryI (by decide +kernel) rfl (Nat.le_of_ble_eq_true rfl) ?_
  intro p e s m below meth c A ls QQ R ar F hRet jP jD jS jl
  obtain ⟨hx, hb, hml, hown, hts, jK, hA, hf1, hf2⟩ := id F
  have jl : lv_has ls 9 [(0, .ref uM), (1, .int a1), (2, .int a2), (3, .int a3), (4, .int a4)] := jl
  unfold fX6_read at h
  refine lv_iload_n hx hb dX6_read_0 rfl (lv_at jl 1 rfl) ?_
  refine lv_i2l (v := a1.toInt64) hx hb dX6_read_1 rfl ?_
  refine lv_lconst (v := (0 : Int64)) hx hb dX6_read_2 (by decide) ?_
  refine lv_ldc2 (v := (3 : Int64)) hx hb hown (hts _ w_353) dX6_read_3 ?_
  obtain ⟨t1, hc2, h⟩ := bd_some h
  refine call0 (As := [.long a1.toInt64, .long (0 : Int64), .long (3 : Int64)]) (rest := []) (st1 := [.int t1]) F (kX6_in l D cI cB cS  a1.toInt64 (0 : Int64) (3 : Int64) _ hc2 ) okX6_in w_112 (by decide) (by decide) ⟨Nat.zero_le _, Nat.zero_le _⟩ jP jD jS rfl jl.1 rfl rfl (Nat.le_of_ble_eq_true rfl) dX6_read_6 (fun H locs jP jD jS => ?_)
  refine lv_if_eq (tgt := 37) hx hb dX6_read_9 (by decide) (fun c3 => ?_) (fun c3 => ?_)
  · have h := itp c3 h
    refine lv_iconst (v := (-1 : Int32)) hx hb dX6_read_37 (by decide) ?_
    obtain rfl := Option.some.inj h
    exact hRet _ _ _ _ jP jD jS dX6_read_38
  · have h := itn c3 h
    refine lv_iload_n hx hb dX6_read_12 rfl (lv_at jl 2 rfl) ?_
    refine lv_i2l (v := a2.toInt64) hx hb dX6_read_13 rfl ?_
    refine lv_lconst (v := (0 : Int64)) hx hb dX6_read_14 (by decide) ?_
    refine lv_ldc2 (v := (2 : Int64)) hx hb hown (hts _ w_413) dX6_read_15 ?_
    obtain ⟨t4, hc5, h⟩ := bd_some h
    refine call0 (As := [.long a2.toInt64, .long (0 : Int64), .long (2 : Int64)]) (rest := []) (st1 := [.int t4]) F (kX6_in l D cI cB cS  a2.toInt64 (0 : Int64) (2 : Int64) _ hc5 ) okX6_in w_112 (by decide) (by decide) ⟨Nat.zero_le _, Nat.zero_le _⟩ jP jD jS rfl jl.1 rfl rfl (Nat.le_of_ble_eq_true rfl) dX6_read_18 (fun H locs jP jD jS => ?_)
    refine lv_if_eq (tgt := 37) hx hb dX6_read_21 (by decide) (fun c6 => ?_) (fun c6 => ?_)
    · have h := itp c6 h
      refine lv_iconst (v := (-1 : Int32)) hx hb dX6_read_37 (by decide) ?_
      obtain rfl := Option.some.inj h
      exact hRet _ _ _ _ jP jD jS dX6_read_38
    · have h := itn c6 h
      refine lv_iload hx hb dX6_read_24 (lv_at jl 4 rfl) ?_
      refine lv_i2l (v := a4.toInt64) hx hb dX6_read_26 rfl ?_
      refine lv_lconst (v := (0 : Int64)) hx hb dX6_read_27 (by decide) ?_
      refine lv_ldc2 (v := (8 : Int64)) hx hb hown (hts _ w_794) dX6_read_28 ?_
      obtain ⟨t7, hc8, h⟩ := bd_some h
      refine call0 (As := [.long a4.toInt64, .long (0 : Int64), .long (8 : Int64)]) (rest := []) (st1 := [.int t7]) F (kX6_in l D cI cB cS  a4.toInt64 (0 : Int64) (8 : Int64) _ hc8 ) okX6_in w_112 (by decide) (by decide) ⟨Nat.zero_le _, Nat.zero_le _⟩ jP jD jS rfl jl.1 rfl rfl (Nat.le_of_ble_eq_true rfl) dX6_read_31 (fun H locs jP jD jS => ?_)
      refine lv_if_ne (tgt := 39) hx hb dX6_read_34 (by decide) (fun c9 => ?_) (fun c9 => ?_)
      · have h := itn c9 h
        refine lv_iconst (v := (0 : Int32)) hx hb dX6_read_39 (by decide) ?_
        refine lv_istore (lv' := [(5, .int (0 : Int32)), (0, .ref uM), (1, .int a1), (2, .int a2), (3, .int a3), (4, .int a4)]) hx hb dX6_read_40 jl (by decide) rfl (fun ls jl => ?_)
        refine lv_iconst (v := (0 : Int32)) hx hb dX6_read_42 (by decide) ?_
        refine lv_istore (lv' := [(6, .int (0 : Int32)), (5, .int (0 : Int32)), (0, .ref uM), (1, .int a1), (2, .int a2), (3, .int a3), (4, .int a4)]) hx hb dX6_read_43 jl (by decide) rfl (fun ls jl => ?_)
        refine lv_iconst (v := (0 : Int32)) hx hb dX6_read_45 (by decide) ?_
        refine lv_istore (lv' := [(7, .int (0 : Int32)), (6, .int (0 : Int32)), (5, .int (0 : Int32)), (0, .ref uM), (1, .int a1), (2, .int a2), (3, .int a3), (4, .int a4)]) hx hb dX6_read_46 jl (by decide) rfl (fun ls jl => ?_)
        obtain ⟨T10, hT10, hz10⟩ := bd_some h
        clear h
        have hE10 : ∀ (e10 : (Int32 × Int32)), T10 = .inr e10 → ∀ (H : Heap) (locs : List Loc) (ls : Array Slot), va_P D vwCl (mW cI uM aM M_x1 M_x2 M_x3 M_x4 M_x5 M_x6 M_x7 M_x8 M_x12 M_x14 M_x17 M_x18 M_x19 M_x20 M_x23 M_x27 M_x29 M_x33 M_g24 M_g25 M_g26 M_g28 M_r0 M_r9 M_r10 M_r11 M_r13 M_r15 M_r16 M_r21 M_r22 M_r30 M_r31 M_r32) H → va_D A (mW cI uM aM M_x1 M_x2 M_x3 M_x4 M_x5 M_x6 M_x7 M_x8 M_x12 M_x14 M_x17 M_x18 M_x19 M_x20 M_x23 M_x27 M_x29 M_x33 M_g24 M_g25 M_g26 M_g28 M_r0 M_r9 M_r10 M_r11 M_r13 M_r15 M_r16 M_r21 M_r22 M_r30 M_r31 M_r32) → va_S A s.heap H locs → lv_has ls 9 [(0, .ref uM), (1, .int a1), (3, .int a3), (5, .int e10.1), (6, .int e10.2)] → W p l e R s m ar below meth c H locs 0 0 QQ (F0 m 216 ls []) := by
          intro e10 ho
          subst ho
          have hz10 := sm_r hz10
          clear jP jD jS jl
          intro H locs ls jP jD jS jl
          refine lv_iconst (v := (0 : Int32)) hx hb dX6_read_216 (by decide) ?_
          refine lv_istore (lv' := [(7, .int (0 : Int32)), (0, .ref uM), (1, .int a1), (3, .int a3), (5, .int e10.1), (6, .int e10.2)]) hx hb dX6_read_217 jl (by decide) rfl (fun ls jl => ?_)
          obtain ⟨T25, hT25, hz25⟩ := bd_some hz10
          clear hz10
          have hE25 : ∀ (H : Heap) (locs : List Loc) (ls : Array Slot), va_P D vwCl (mW cI uM aM M_x1 M_x2 M_x3 M_x4 M_x5 M_x6 M_x7 M_x8 T25.2 M_x14 M_x17 M_x18 M_x19 M_x20 M_x23 M_x27 M_x29 M_x33 M_g24 M_g25 M_g26 M_g28 M_r0 M_r9 M_r10 T25.1 M_r13 M_r15 M_r16 M_r21 M_r22 M_r30 M_r31 M_r32) H → va_D A (mW cI uM aM M_x1 M_x2 M_x3 M_x4 M_x5 M_x6 M_x7 M_x8 T25.2 M_x14 M_x17 M_x18 M_x19 M_x20 M_x23 M_x27 M_x29 M_x33 M_g24 M_g25 M_g26 M_g28 M_r0 M_r9 M_r10 T25.1 M_r13 M_r15 M_r16 M_r21 M_r22 M_r30 M_r31 M_r32) → va_S A s.heap H locs → lv_has ls 9 [(0, .ref uM), (5, .int e10.1), (6, .int e10.2)] → W p l e R s m ar below meth c H locs 0 0 QQ (F0 m 300 ls []) := by
            clear jP jD jS jl
            intro H locs ls jP jD jS jl
            refine lv_aload_n hx hb dX6_read_300 rfl (lv_at jl 0 rfl) ?_
            refine lv_iload hx hb dX6_read_301 (lv_at jl 1 rfl) ?_
            refine va_put (D := D) (ci := 6) (v := .int e10.1) (ty := .int) (C := RX6) (T := TX6) (N := 34) hx hb hts in6 tyX6 tyX6_ok nmX6 hown jK.1 jP jD jS 0 rfl rfl 33 (by decide) (hts _ w_795) (fun _ h9 => h9) rfl (by decide +kernel) rfl rfl (Nat.le_of_ble_eq_true rfl) dX6_read_303 (fun H locs jP jD jS => ?_)
            have jP : va_P D vwCl (mW cI uM aM M_x1 M_x2 M_x3 M_x4 M_x5 M_x6 M_x7 M_x8 T25.2 M_x14 M_x17 M_x18 M_x19 M_x20 M_x23 M_x27 M_x29 e10.1 M_g24 M_g25 M_g26 M_g28 M_r0 M_r9 M_r10 T25.1 M_r13 M_r15 M_r16 M_r21 M_r22 M_r30 M_r31 M_r32) H := jP
            have jD : va_D A (mW cI uM aM M_x1 M_x2 M_x3 M_x4 M_x5 M_x6 M_x7 M_x8 T25.2 M_x14 M_x17 M_x18 M_x19 M_x20 M_x23 M_x27 M_x29 e10.1 M_g24 M_g25 M_g26 M_g28 M_r0 M_r9 M_r10 T25.1 M_r13 M_r15 M_r16 M_r21 M_r22 M_r30 M_r31 M_r32) := jD
            refine lv_iload hx hb dX6_read_306 (lv_at jl 2 rfl) ?_
            obtain rfl := Option.some.inj hz25
            exact hRet _ _ _ _ jP jD jS dX6_read_308
          have hL25 : ∀ (n : Nat) (v25 : (Int32 × (Nat → Int32) × Int32)), loopF (fX6_read_b219 a1 a3 e10.1 e10.2 M_r32) n v25 = some T25 → ∀ (H : Heap) (locs : List Loc) (ls : Array Slot), va_P D vwCl (mW cI uM aM M_x1 M_x2 M_x3 M_x4 M_x5 M_x6 M_x7 M_x8 v25.2.2 M_x14 M_x17 M_x18 M_x19 M_x20 M_x23 M_x27 M_x29 M_x33 M_g24 M_g25 M_g26 M_g28 M_r0 M_r9 M_r10 v25.2.1 M_r13 M_r15 M_r16 M_r21 M_r22 M_r30 M_r31 M_r32) H → va_D A (mW cI uM aM M_x1 M_x2 M_x3 M_x4 M_x5 M_x6 M_x7 M_x8 v25.2.2 M_x14 M_x17 M_x18 M_x19 M_x20 M_x23 M_x27 M_x29 M_x33 M_g24 M_g25 M_g26 M_g28 M_r0 M_r9 M_r10 v25.2.1 M_r13 M_r15 M_r16 M_r21 M_r22 M_r30 M_r31 M_r32) → va_S A s.heap H locs → lv_has ls 9 [(0, .ref uM), (1, .int a1), (3, .int a3), (5, .int e10.1), (6, .int e10.2), (7, .int v25.1)] → W p l e R s m ar below meth c H locs 0 0 QQ (F0 m 219 ls []) := by
            clear jP jD jS jl hT25
            intro n
            induction n with
            | zero => intro v25 hq; exact (loop_none hq).elim
            | succ n ih =>
              intro v25 hq H locs ls jP jD jS jl
              obtain ⟨o25, hv25, hq25⟩ := loop_some hq
              clear hq
              unfold fX6_read_b219 at hv25
              refine lv_iload hx hb dX6_read_219 (lv_at jl 5 rfl) ?_
              refine lv_iload hx hb dX6_read_221 (lv_at jl 4 rfl) ?_
              refine lv_icmp_ge (tgt := 300) hx hb dX6_read_223 (by decide) (fun c26 => ?_) (fun c26 => ?_)
              · have hv25 := itp c26 hv25
                obtain rfl := Option.some.inj hv25
                obtain rfl := nxt_r hq25
                exact hE25 _ _ _ jP jD jS (lv_sub jl [0, 3, 4] rfl)
              · have hv25 := itn c26 hv25
                refine lv_bipush (v := (40 : Int32)) hx hb dX6_read_226 (by decide) ?_
                refine lv_iload_n hx hb dX6_read_228 rfl (lv_at jl 1 rfl) ?_
                refine lv_imul hx hb dX6_read_229 ?_
                refine lv_iload_n hx hb dX6_read_230 rfl (lv_at jl 2 rfl) ?_
                refine lv_iadd hx hb dX6_read_231 ?_
                refine lv_iconst (v := (4 : Int32)) hx hb dX6_read_232 (by decide) ?_
                refine lv_iload hx hb dX6_read_233 (lv_at jl 5 rfl) ?_
                refine lv_imul hx hb dX6_read_235 ?_
                refine lv_iadd hx hb dX6_read_236 ?_
                refine lv_istore (lv' := [(8, .int ((((40 : Int32) * a1) + a3) + ((4 : Int32) * v25.1))), (0, .ref uM), (1, .int a1), (3, .int a3), (5, .int e10.1), (6, .int e10.2), (7, .int v25.1)]) hx hb dX6_read_237 jl (by decide) rfl (fun ls jl => ?_)
                refine lv_aload_n hx hb dX6_read_239 rfl (lv_at jl 1 rfl) ?_
                refine va_get (D := D) (ci := 6) (v := .ref (aM 11)) (C := RX6) (T := TX6) (N := 34) hx hb hts in6 hown jK.1 jP 0 rfl rfl 11 (by decide) (hts _ w_80) (fun _ h9 => h9) rfl dX6_read_240 ?_
                refine lv_aload_n hx hb dX6_read_243 rfl (lv_at jl 1 rfl) ?_
                refine va_get (D := D) (ci := 6) (v := .int v25.2.2) (C := RX6) (T := TX6) (N := 34) hx hb hts in6 hown jK.1 jP 0 rfl rfl 12 (by decide) (hts _ w_222) (fun _ h9 => h9) rfl dX6_read_244 ?_
                refine lv_aload_n hx hb dX6_read_247 rfl (lv_at jl 1 rfl) ?_
                refine va_get (D := D) (ci := 6) (v := .ref (aM 32)) (C := RX6) (T := TX6) (N := 34) hx hb hts in6 hown jK.1 jP 0 rfl rfl 32 (by decide) (hts _ w_89) (fun _ h9 => h9) rfl dX6_read_248 ?_
                refine lv_iload hx hb dX6_read_251 (lv_at jl 0 rfl) ?_
                obtain ⟨hin, hv25⟩ := ckI_some hv25
                refine va_iald (f := M_r32) hx hb jK.1 jP 12 0 rfl rfl hin dX6_read_253 ?_
                refine lv_aload_n hx hb dX6_read_254 rfl (lv_at jl 1 rfl) ?_
                refine va_get (D := D) (ci := 6) (v := .ref (aM 32)) (C := RX6) (T := TX6) (N := 34) hx hb hts in6 hown jK.1 jP 0 rfl rfl 32 (by decide) (hts _ w_89) (fun _ h9 => h9) rfl dX6_read_255 ?_
                refine lv_iload hx hb dX6_read_258 (lv_at jl 0 rfl) ?_
                refine lv_iconst (v := (1 : Int32)) hx hb dX6_read_260 (by decide) ?_
                refine lv_iadd hx hb dX6_read_261 ?_
                obtain ⟨hin, hv25⟩ := ckI_some hv25
                refine va_iald (f := M_r32) hx hb jK.1 jP 12 0 rfl rfl hin dX6_read_262 ?_
                refine lv_aload_n hx hb dX6_read_263 rfl (lv_at jl 1 rfl) ?_
                refine va_get (D := D) (ci := 6) (v := .ref (aM 32)) (C := RX6) (T := TX6) (N := 34) hx hb hts in6 hown jK.1 jP 0 rfl rfl 32 (by decide) (hts _ w_89) (fun _ h9 => h9) rfl dX6_read_264 ?_
                refine lv_iload hx hb dX6_read_267 (lv_at jl 0 rfl) ?_
                refine lv_iconst (v := (2 : Int32)) hx hb dX6_read_269 (by decide) ?_
                refine lv_iadd hx hb dX6_read_270 ?_
                obtain ⟨hin, hv25⟩ := ckI_some hv25
                refine va_iald (f := M_r32) hx hb jK.1 jP 12 0 rfl rfl hin dX6_read_271 ?_
                refine lv_aload_n hx hb dX6_read_272 rfl (lv_at jl 1 rfl) ?_
                refine va_get (D := D) (ci := 6) (v := .ref (aM 32)) (C := RX6) (T := TX6) (N := 34) hx hb hts in6 hown jK.1 jP 0 rfl rfl 32 (by decide) (hts _ w_89) (fun _ h9 => h9) rfl dX6_read_273 ?_
                refine lv_iload hx hb dX6_read_276 (lv_at jl 0 rfl) ?_
                refine lv_iconst (v := (3 : Int32)) hx hb dX6_read_278 (by decide) ?_
                refine lv_iadd hx hb dX6_read_279 ?_
                obtain ⟨hin, hv25⟩ := ckI_some hv25
                refine va_iald (f := M_r32) hx hb jK.1 jP 12 0 rfl rfl hin dX6_read_280 ?_
                obtain ⟨t27, hc28, hv25⟩ := bd_some hv25
                refine callPS (wc := (mW cI uM aM M_x1 M_x2 M_x3 M_x4 M_x5 M_x6 M_x7 M_x8 v25.2.2 M_x14 M_x17 M_x18 M_x19 M_x20 M_x23 M_x27 M_x29 M_x33 M_g24 M_g25 M_g26 M_g28 M_r0 M_r9 M_r10 v25.2.1 M_r13 M_r15 M_r16 M_r21 M_r22 M_r30 M_r31 M_r32)) (wr := []) (w1 := (mW cI uM aM M_x1 M_x2 M_x3 M_x4 M_x5 M_x6 M_x7 M_x8 v25.2.2 M_x14 M_x17 M_x18 M_x19 M_x20 M_x23 M_x27 M_x29 M_x33 M_g24 M_g25 M_g26 M_g28 M_r0 M_r9 M_r10 t27 M_r13 M_r15 M_r16 M_r21 M_r22 M_r30 M_r31 M_r32)) (ws1 := (mW cI uM aM M_x1 M_x2 M_x3 M_x4 M_x5 M_x6 M_x7 M_x8 v25.2.2 M_x14 M_x17 M_x18 M_x19 M_x20 M_x23 M_x27 M_x29 M_x33 M_g24 M_g25 M_g26 M_g28 M_r0 M_r9 M_r10 t27 M_r13 M_r15 M_r16 M_r21 M_r22 M_r30 M_r31 M_r32)) (As := [.ref (aM 11), .int v25.2.2, .int (M_r32 ((((40 : Int32) * a1) + a3) + ((4 : Int32) * v25.1)).toNatClampNeg), .int (M_r32 (((((40 : Int32) * a1) + a3) + ((4 : Int32) * v25.1)) + (1 : Int32)).toNatClampNeg), .int (M_r32 (((((40 : Int32) * a1) + a3) + ((4 : Int32) * v25.1)) + (2 : Int32)).toNatClampNeg), .int (M_r32 (((((40 : Int32) * a1) + a3) + ((4 : Int32) * v25.1)) + (3 : Int32)).toNatClampNeg)]) (rest := []) (st1 := []) [0, 1, 2, 3, 4, 5, 6, 7, 8, 9, 10, 11, 12] [] [0, 1, 2, 3, 4, 5, 6, 7, 8, 9, 10, 11, 12] F (kX6_layRowa l D cI cB cS uM aM M_x1 M_x2 M_x3 M_x4 M_x5 M_x6 M_x7 M_x8 v25.2.2 M_x14 M_x17 M_x18 M_x19 M_x20 M_x23 M_x27 M_x29 M_x33 M_g24 M_g25 M_g26 M_g28 M_r0 M_r9 M_r10 v25.2.1 M_r13 M_r15 M_r16 M_r21 M_r22 M_r30 M_r31 M_r32 v25.2.2 (M_r32 ((((40 : Int32) * a1) + a3) + ((4 : Int32) * v25.1)).toNatClampNeg) (M_r32 (((((40 : Int32) * a1) + a3) + ((4 : Int32) * v25.1)) + (1 : Int32)).toNatClampNeg) (M_r32 (((((40 : Int32) * a1) + a3) + ((4 : Int32) * v25.1)) + (2 : Int32)).toNatClampNeg) (M_r32 (((((40 : Int32) * a1) + a3) + ((4 : Int32) * v25.1)) + (3 : Int32)).toNatClampNeg) _ hc28 ) okX6_layRow w_257 (by decide) (by decide) ⟨Nat.zero_le _, Nat.zero_le _⟩ jP jD jS rfl jl.1 rfl rfl (Nat.le_of_ble_eq_true rfl) dX6_read_281 rfl rfl (by decide) (by decide) (by decide) rfl (by decide) (fun H locs jP jD jS => ?_)
                refine lv_aload_n hx hb dX6_read_284 rfl (lv_at jl 1 rfl) ?_
                refine lv_dup hx hb dX6_read_285 rfl ?_
                refine va_get (D := D) (ci := 6) (v := .int v25.2.2) (C := RX6) (T := TX6) (N := 34) hx hb hts in6 hown jK.1 jP 0 rfl rfl 12 (by decide) (hts _ w_222) (fun _ h9 => h9) rfl dX6_read_286 ?_
                refine lv_iconst (v := (1 : Int32)) hx hb dX6_read_289 (by decide) ?_
                refine lv_iadd hx hb dX6_read_290 ?_
                refine va_put (D := D) (ci := 6) (v := .int (v25.2.2 + (1 : Int32))) (ty := .int) (C := RX6) (T := TX6) (N := 34) hx hb hts in6 tyX6 tyX6_ok nmX6 hown jK.1 jP jD jS 0 rfl rfl 12 (by decide) (hts _ w_222) (fun _ h9 => h9) rfl (by decide +kernel) rfl rfl (Nat.le_of_ble_eq_true rfl) dX6_read_291 (fun H locs jP jD jS => ?_)
                have jP : va_P D vwCl (mW cI uM aM M_x1 M_x2 M_x3 M_x4 M_x5 M_x6 M_x7 M_x8 (v25.2.2 + (1 : Int32)) M_x14 M_x17 M_x18 M_x19 M_x20 M_x23 M_x27 M_x29 M_x33 M_g24 M_g25 M_g26 M_g28 M_r0 M_r9 M_r10 t27 M_r13 M_r15 M_r16 M_r21 M_r22 M_r30 M_r31 M_r32) H := jP
                have jD : va_D A (mW cI uM aM M_x1 M_x2 M_x3 M_x4 M_x5 M_x6 M_x7 M_x8 (v25.2.2 + (1 : Int32)) M_x14 M_x17 M_x18 M_x19 M_x20 M_x23 M_x27 M_x29 M_x33 M_g24 M_g25 M_g26 M_g28 M_r0 M_r9 M_r10 t27 M_r13 M_r15 M_r16 M_r21 M_r22 M_r30 M_r31 M_r32) := jD
                refine lv_iinc (v := (v25.1 + (1 : Int32))) (lv' := [(7, .int (v25.1 + (1 : Int32))), (8, .int ((((40 : Int32) * a1) + a3) + ((4 : Int32) * v25.1))), (0, .ref uM), (1, .int a1), (3, .int a3), (5, .int e10.1), (6, .int e10.2)]) hx hb dX6_read_294 jl (k := 6) rfl rfl (by decide) rfl (fun ls jl => ?_)
                refine lv_goto (tgt := 219) hx hb dX6_read_297 (by decide) ?_
                obtain rfl := Option.some.inj hv25
                exact ih _ (nxt_l hq25) _ _ _ jP jD jS (lv_sub jl [2, 3, 4, 5, 6, 0] rfl)
          exact hL25 1000 _ hT25 _ _ _ jP jD jS (lv_sub jl [1, 2, 3, 4, 5, 0] rfl)
        have hL10 : ∀ (n : Nat) (v10 : (Int32 × Int32 × Int32)), loopF (fX6_read_b48 a1 a2 a3 a4 M_r30 M_r31 M_r32 M_x12 M_r11 M_x33) n v10 = some T10 → ∀ (H : Heap) (locs : List Loc) (ls : Array Slot), va_P D vwCl (mW cI uM aM M_x1 M_x2 M_x3 M_x4 M_x5 M_x6 M_x7 M_x8 M_x12 M_x14 M_x17 M_x18 M_x19 M_x20 M_x23 M_x27 M_x29 M_x33 M_g24 M_g25 M_g26 M_g28 M_r0 M_r9 M_r10 M_r11 M_r13 M_r15 M_r16 M_r21 M_r22 M_r30 M_r31 M_r32) H → va_D A (mW cI uM aM M_x1 M_x2 M_x3 M_x4 M_x5 M_x6 M_x7 M_x8 M_x12 M_x14 M_x17 M_x18 M_x19 M_x20 M_x23 M_x27 M_x29 M_x33 M_g24 M_g25 M_g26 M_g28 M_r0 M_r9 M_r10 M_r11 M_r13 M_r15 M_r16 M_r21 M_r22 M_r30 M_r31 M_r32) → va_S A s.heap H locs → lv_has ls 9 [(0, .ref uM), (1, .int a1), (2, .int a2), (3, .int a3), (4, .int a4), (5, .int v10.1), (6, .int v10.2.1), (7, .int v10.2.2)] → W p l e R s m ar below meth c H locs 0 0 QQ (F0 m 48 ls []) := by
          clear jP jD jS jl hT10
          intro n
          induction n with
          | zero => intro v10 hq; exact (loop_none hq).elim
          | succ n ih =>
            intro v10 hq H locs ls jP jD jS jl
            obtain ⟨o10, hv10, hq10⟩ := loop_some hq
            clear hq
            unfold fX6_read_b48 at hv10
            refine lv_iload hx hb dX6_read_48 (lv_at jl 7 rfl) ?_
            refine lv_iconst (v := (4 : Int32)) hx hb dX6_read_50 (by decide) ?_
            refine lv_iload hx hb dX6_read_51 (lv_at jl 4 rfl) ?_
            refine lv_imul hx hb dX6_read_53 ?_
            refine lv_icmp_ge (tgt := 216) hx hb dX6_read_54 (by decide) (fun c11 => ?_) (fun c11 => ?_)
            · have hv10 := itp c11 hv10
              obtain rfl := Option.some.inj hv10
              obtain rfl := nxt_r hq10
              exact hE10 _ rfl _ _ _ jP jD jS (lv_sub jl [0, 1, 3, 5, 6] rfl)
            · have hv10 := itn c11 hv10
              refine lv_iload hx hb dX6_read_57 (lv_at jl 5 rfl) ?_
              refine lv_if_ne (tgt := 216) hx hb dX6_read_59 (by decide) (fun c12 => ?_) (fun c12 => ?_)
              · have hv10 := itn c12 hv10
                obtain rfl := Option.some.inj hv10
                obtain rfl := nxt_r hq10
                exact hE10 _ rfl _ _ _ jP jD jS (lv_sub jl [0, 1, 3, 5, 6] rfl)
              · have hv10 := itp c12 hv10
                refine lv_aload_n hx hb dX6_read_62 rfl (lv_at jl 0 rfl) ?_
                refine va_get (D := D) (ci := 6) (v := .ref (aM 30)) (C := RX6) (T := TX6) (N := 34) hx hb hts in6 hown jK.1 jP 0 rfl rfl 30 (by decide) (hts _ w_87) (fun _ h9 => h9) rfl dX6_read_63 ?_
                refine lv_iload_n hx hb dX6_read_66 rfl (lv_at jl 1 rfl) ?_
                obtain ⟨hin, hv10⟩ := ckI_some hv10
                refine va_iald (f := M_r30) hx hb jK.1 jP 10 0 rfl rfl hin dX6_read_67 ?_
                refine lv_bipush (v := (-4 : Int32)) hx hb dX6_read_68 (by decide) ?_
                obtain ⟨t18, hvt18, hv10⟩ := bd_some hv10
                have hJt18 : ∀ (H : Heap) (locs : List Loc) (ls : Array Slot), va_P D vwCl (mW cI uM aM M_x1 M_x2 M_x3 M_x4 M_x5 M_x6 M_x7 M_x8 M_x12 M_x14 M_x17 M_x18 M_x19 M_x20 M_x23 M_x27 M_x29 M_x33 M_g24 M_g25 M_g26 M_g28 M_r0 M_r9 M_r10 M_r11 M_r13 M_r15 M_r16 M_r21 M_r22 M_r30 M_r31 M_r32) H → va_D A (mW cI uM aM M_x1 M_x2 M_x3 M_x4 M_x5 M_x6 M_x7 M_x8 M_x12 M_x14 M_x17 M_x18 M_x19 M_x20 M_x23 M_x27 M_x29 M_x33 M_g24 M_g25 M_g26 M_g28 M_r0 M_r9 M_r10 M_r11 M_r13 M_r15 M_r16 M_r21 M_r22 M_r30 M_r31 M_r32) → va_S A s.heap H locs → lv_has ls 9 [(0, .ref uM), (1, .int a1), (2, .int a2), (3, .int a3), (4, .int a4), (6, .int v10.2.1), (7, .int v10.2.2)] → W p l e R s m ar below meth c H locs 0 0 QQ (F0 m 118 ls [.int t18]) := by
                  clear jP jD jS jl
                  intro H locs ls jP jD jS jl
                  refine lv_istore (lv' := [(5, .int t18), (0, .ref uM), (1, .int a1), (2, .int a2), (3, .int a3), (4, .int a4), (6, .int v10.2.1), (7, .int v10.2.2)]) hx hb dX6_read_118 jl (by decide) rfl (fun ls jl => ?_)
                  refine lv_iload hx hb dX6_read_120 (lv_at jl 0 rfl) ?_
                  refine lv_if_ne (tgt := 210) hx hb dX6_read_122 (by decide) (fun c19 => ?_) (fun c19 => ?_)
                  · have hv10 := itn c19 hv10
                    refine lv_iinc (v := (v10.2.2 + (1 : Int32))) (lv' := [(7, .int (v10.2.2 + (1 : Int32))), (5, .int t18), (0, .ref uM), (1, .int a1), (2, .int a2), (3, .int a3), (4, .int a4), (6, .int v10.2.1)]) hx hb dX6_read_210 jl (k := 7) rfl rfl (by decide) rfl (fun ls jl => ?_)
                    refine lv_goto (tgt := 48) hx hb dX6_read_213 (by decide) ?_
                    obtain rfl := Option.some.inj hv10
                    exact ih _ (nxt_l hq10) _ _ _ jP jD jS (lv_sub jl [2, 3, 4, 5, 6, 1, 7, 0] rfl)
                  · have hv10 := itp c19 hv10
                    refine lv_iload hx hb dX6_read_125 (lv_at jl 7 rfl) ?_
                    refine lv_iconst (v := (4 : Int32)) hx hb dX6_read_127 (by decide) ?_
                    refine lv_irem hx hb dX6_read_128 (by decide) ?_
                    refine lv_iconst (v := (3 : Int32)) hx hb dX6_read_129 (by decide) ?_
                    refine lv_icmp_ne (tgt := 210) hx hb dX6_read_130 (by decide) (fun c20 => ?_) (fun c20 => ?_)
                    · have hv10 := itn c20 hv10
                      refine lv_iinc (v := (v10.2.2 + (1 : Int32))) (lv' := [(7, .int (v10.2.2 + (1 : Int32))), (5, .int t18), (0, .ref uM), (1, .int a1), (2, .int a2), (3, .int a3), (4, .int a4), (6, .int v10.2.1)]) hx hb dX6_read_210 jl (k := 7) rfl rfl (by decide) rfl (fun ls jl => ?_)
                      refine lv_goto (tgt := 48) hx hb dX6_read_213 (by decide) ?_
                      obtain rfl := Option.some.inj hv10
                      exact ih _ (nxt_l hq10) _ _ _ jP jD jS (lv_sub jl [2, 3, 4, 5, 6, 1, 7, 0] rfl)
                    · have hv10 := itp c20 hv10
                      refine lv_bipush (v := (40 : Int32)) hx hb dX6_read_133 (by decide) ?_
                      refine lv_iload_n hx hb dX6_read_135 rfl (lv_at jl 2 rfl) ?_
                      refine lv_imul hx hb dX6_read_136 ?_
                      refine lv_iload_n hx hb dX6_read_137 rfl (lv_at jl 4 rfl) ?_
                      refine lv_iadd hx hb dX6_read_138 ?_
                      refine lv_iload hx hb dX6_read_139 (lv_at jl 7 rfl) ?_
                      refine lv_iadd hx hb dX6_read_141 ?_
                      refine lv_iconst (v := (3 : Int32)) hx hb dX6_read_142 (by decide) ?_
                      refine lv_isub hx hb dX6_read_143 ?_
                      refine lv_istore (lv' := [(8, .int (((((40 : Int32) * a1) + a3) + v10.2.2) - (3 : Int32))), (5, .int t18), (0, .ref uM), (1, .int a1), (2, .int a2), (3, .int a3), (4, .int a4), (6, .int v10.2.1), (7, .int v10.2.2)]) hx hb dX6_read_144 jl (by decide) rfl (fun ls jl => ?_)
                      refine lv_aload_n hx hb dX6_read_146 rfl (lv_at jl 2 rfl) ?_
                      refine va_get (D := D) (ci := 6) (v := .ref (aM 32)) (C := RX6) (T := TX6) (N := 34) hx hb hts in6 hown jK.1 jP 0 rfl rfl 32 (by decide) (hts _ w_89) (fun _ h9 => h9) rfl dX6_read_147 ?_
                      refine lv_iload hx hb dX6_read_150 (lv_at jl 0 rfl) ?_
                      obtain ⟨hin, hv10⟩ := ckI_some hv10
                      refine va_iald (f := M_r32) hx hb jK.1 jP 12 0 rfl rfl hin dX6_read_152 ?_
                      refine lv_aload_n hx hb dX6_read_153 rfl (lv_at jl 2 rfl) ?_
                      refine va_get (D := D) (ci := 6) (v := .ref (aM 32)) (C := RX6) (T := TX6) (N := 34) hx hb hts in6 hown jK.1 jP 0 rfl rfl 32 (by decide) (hts _ w_89) (fun _ h9 => h9) rfl dX6_read_154 ?_
                      refine lv_iload hx hb dX6_read_157 (lv_at jl 0 rfl) ?_
                      refine lv_iconst (v := (1 : Int32)) hx hb dX6_read_159 (by decide) ?_
                      refine lv_iadd hx hb dX6_read_160 ?_
                      obtain ⟨hin, hv10⟩ := ckI_some hv10
                      refine va_iald (f := M_r32) hx hb jK.1 jP 12 0 rfl rfl hin dX6_read_161 ?_
                      refine lv_aload_n hx hb dX6_read_162 rfl (lv_at jl 2 rfl) ?_
                      refine va_get (D := D) (ci := 6) (v := .ref (aM 32)) (C := RX6) (T := TX6) (N := 34) hx hb hts in6 hown jK.1 jP 0 rfl rfl 32 (by decide) (hts _ w_89) (fun _ h9 => h9) rfl dX6_read_163 ?_
                      refine lv_iload hx hb dX6_read_166 (lv_at jl 0 rfl) ?_
                      refine lv_iconst (v := (2 : Int32)) hx hb dX6_read_168 (by decide) ?_
                      refine lv_iadd hx hb dX6_read_169 ?_
                      obtain ⟨hin, hv10⟩ := ckI_some hv10
                      refine va_iald (f := M_r32) hx hb jK.1 jP 12 0 rfl rfl hin dX6_read_170 ?_
                      refine lv_aload_n hx hb dX6_read_171 rfl (lv_at jl 2 rfl) ?_
                      refine va_get (D := D) (ci := 6) (v := .ref (aM 32)) (C := RX6) (T := TX6) (N := 34) hx hb hts in6 hown jK.1 jP 0 rfl rfl 32 (by decide) (hts _ w_89) (fun _ h9 => h9) rfl dX6_read_172 ?_
                      refine lv_iload hx hb dX6_read_175 (lv_at jl 0 rfl) ?_
                      refine lv_iconst (v := (3 : Int32)) hx hb dX6_read_177 (by decide) ?_
                      refine lv_iadd hx hb dX6_read_178 ?_
                      obtain ⟨hin, hv10⟩ := ckI_some hv10
                      refine va_iald (f := M_r32) hx hb jK.1 jP 12 0 rfl rfl hin dX6_read_179 ?_
                      obtain ⟨t21, hc22, hv10⟩ := bd_some hv10
                      refine call0 (As := [.int (M_r32 (((((40 : Int32) * a1) + a3) + v10.2.2) - (3 : Int32)).toNatClampNeg), .int (M_r32 ((((((40 : Int32) * a1) + a3) + v10.2.2) - (3 : Int32)) + (1 : Int32)).toNatClampNeg), .int (M_r32 ((((((40 : Int32) * a1) + a3) + v10.2.2) - (3 : Int32)) + (2 : Int32)).toNatClampNeg), .int (M_r32 ((((((40 : Int32) * a1) + a3) + v10.2.2) - (3 : Int32)) + (3 : Int32)).toNatClampNeg)]) (rest := []) (st1 := [.int t21]) F (kX6_isAsTold l D cI cB cS  (M_r32 (((((40 : Int32) * a1) + a3) + v10.2.2) - (3 : Int32)).toNatClampNeg) (M_r32 ((((((40 : Int32) * a1) + a3) + v10.2.2) - (3 : Int32)) + (1 : Int32)).toNatClampNeg) (M_r32 ((((((40 : Int32) * a1) + a3) + v10.2.2) - (3 : Int32)) + (2 : Int32)).toNatClampNeg) (M_r32 ((((((40 : Int32) * a1) + a3) + v10.2.2) - (3 : Int32)) + (3 : Int32)).toNatClampNeg) _ hc22 ) okX6_isAsTold w_285 (by decide) (by decide) ⟨Nat.zero_le _, Nat.zero_le _⟩ jP jD jS rfl jl.1 rfl rfl (Nat.le_of_ble_eq_true rfl) dX6_read_180 (fun H locs jP jD jS => ?_)
                      refine lv_if_ne (tgt := 192) hx hb dX6_read_183 (by decide) (fun c23 => ?_) (fun c23 => ?_)
                      · have hv10 := itn c23 hv10
                        refine lv_iinc (v := (v10.2.1 + (1 : Int32))) (lv' := [(6, .int (v10.2.1 + (1 : Int32))), (8, .int (((((40 : Int32) * a1) + a3) + v10.2.2) - (3 : Int32))), (5, .int t18), (0, .ref uM), (1, .int a1), (2, .int a2), (3, .int a3), (4, .int a4), (7, .int v10.2.2)]) hx hb dX6_read_192 jl (k := 7) rfl rfl (by decide) rfl (fun ls jl => ?_)
                        refine lv_aload_n hx hb dX6_read_195 rfl (lv_at jl 3 rfl) ?_
                        refine va_get (D := D) (ci := 6) (v := .int M_x12) (C := RX6) (T := TX6) (N := 34) hx hb hts in6 hown jK.1 jP 0 rfl rfl 12 (by decide) (hts _ w_222) (fun _ h9 => h9) rfl dX6_read_196 ?_
                        refine lv_iload hx hb dX6_read_199 (lv_at jl 0 rfl) ?_
                        refine lv_iadd hx hb dX6_read_201 ?_
                        refine lv_bipush (v := (8 : Int32)) hx hb dX6_read_202 (by decide) ?_
                        refine lv_icmp_le (tgt := 210) hx hb dX6_read_204 (by decide) (fun c24 => ?_) (fun c24 => ?_)
                        · have hv10 := itp c24 hv10
                          refine lv_iinc (v := (v10.2.2 + (1 : Int32))) (lv' := [(7, .int (v10.2.2 + (1 : Int32))), (6, .int (v10.2.1 + (1 : Int32))), (8, .int (((((40 : Int32) * a1) + a3) + v10.2.2) - (3 : Int32))), (5, .int t18), (0, .ref uM), (1, .int a1), (2, .int a2), (3, .int a3), (4, .int a4)]) hx hb dX6_read_210 jl (k := 8) rfl rfl (by decide) rfl (fun ls jl => ?_)
                          refine lv_goto (tgt := 48) hx hb dX6_read_213 (by decide) ?_
                          obtain rfl := Option.some.inj hv10
                          exact ih _ (nxt_l hq10) _ _ _ jP jD jS (lv_sub jl [4, 5, 6, 7, 8, 3, 1, 0] rfl)
                        · have hv10 := itn c24 hv10
                          refine lv_bipush (v := (-3 : Int32)) hx hb dX6_read_207 (by decide) ?_
                          obtain rfl := Option.some.inj hv10
                          obtain rfl := nxt_r hq10
                          have hz10 := sm_l hz10
                          obtain rfl := Option.some.inj hz10
                          exact hRet _ _ _ _ jP jD jS dX6_read_209
                      · have hv10 := itp c23 hv10
                        refine lv_bipush (v := (-20 : Int32)) hx hb dX6_read_186 (by decide) ?_
                        refine lv_iload hx hb dX6_read_188 (lv_at jl 7 rfl) ?_
                        refine lv_isub hx hb dX6_read_190 ?_
                        obtain rfl := Option.some.inj hv10
                        obtain rfl := nxt_r hq10
                        have hz10 := sm_l hz10
                        obtain rfl := Option.some.inj hz10
                        exact hRet _ _ _ _ jP jD jS dX6_read_191
                clear hv10
                refine lv_icmp_ne (tgt := 77) hx hb dX6_read_70 (by decide) (fun c13 => ?_) (fun c13 => ?_)
                · have hvt18 := itn c13 hvt18
                  refine lv_aload_n hx hb dX6_read_77 rfl (lv_at jl 0 rfl) ?_
                  refine va_get (D := D) (ci := 6) (v := .ref (aM 30)) (C := RX6) (T := TX6) (N := 34) hx hb hts in6 hown jK.1 jP 0 rfl rfl 30 (by decide) (hts _ w_87) (fun _ h9 => h9) rfl dX6_read_78 ?_
                  refine lv_iload_n hx hb dX6_read_81 rfl (lv_at jl 1 rfl) ?_
                  obtain ⟨hin, hvt18⟩ := ckI_some hvt18
                  refine va_iald (f := M_r30) hx hb jK.1 jP 10 0 rfl rfl hin dX6_read_82 ?_
                  refine lv_iload_n hx hb dX6_read_83 rfl (lv_at jl 2 rfl) ?_
                  refine lv_icmp_eq (tgt := 91) hx hb dX6_read_84 (by decide) (fun c14 => ?_) (fun c14 => ?_)
                  · have hvt18 := itp c14 hvt18
                    refine lv_iload_n hx hb dX6_read_91 rfl (lv_at jl 3 rfl) ?_
                    refine lv_i2l (v := (a3).toInt64) hx hb dX6_read_92 rfl ?_
                    refine lv_iload hx hb dX6_read_93 (lv_at jl 7 rfl) ?_
                    refine lv_i2l (v := v10.2.2.toInt64) hx hb dX6_read_95 rfl ?_
                    refine lv_ladd hx hb dX6_read_96 ?_
                    refine lv_lconst (v := (0 : Int64)) hx hb dX6_read_97 (by decide) ?_
                    refine lv_aload_n hx hb dX6_read_98 rfl (lv_at jl 0 rfl) ?_
                    refine va_get (D := D) (ci := 6) (v := .ref (aM 31)) (C := RX6) (T := TX6) (N := 34) hx hb hts in6 hown jK.1 jP 0 rfl rfl 31 (by decide) (hts _ w_88) (fun _ h9 => h9) rfl dX6_read_99 ?_
                    refine lv_iload_n hx hb dX6_read_102 rfl (lv_at jl 1 rfl) ?_
                    obtain ⟨hin, hvt18⟩ := ckI_some hvt18
                    refine va_iald (f := M_r31) hx hb jK.1 jP 11 0 rfl rfl hin dX6_read_103 ?_
                    refine lv_iconst (v := (1 : Int32)) hx hb dX6_read_104 (by decide) ?_
                    refine lv_isub hx hb dX6_read_105 ?_
                    refine lv_i2l (v := ((M_r31 (a1).toNatClampNeg) - (1 : Int32)).toInt64) hx hb dX6_read_106 rfl ?_
                    obtain ⟨t15, hc16, hvt18⟩ := bd_some hvt18
                    refine call0 (As := [.long ((a3).toInt64 + v10.2.2.toInt64), .long (0 : Int64), .long (((M_r31 (a1).toNatClampNeg) - (1 : Int32)).toInt64)]) (rest := []) (st1 := [.int t15]) F (kX6_in l D cI cB cS  ((a3).toInt64 + v10.2.2.toInt64) (0 : Int64) (((M_r31 (a1).toNatClampNeg) - (1 : Int32)).toInt64) _ hc16 ) okX6_in w_112 (by decide) (by decide) ⟨Nat.zero_le _, Nat.zero_le _⟩ jP jD jS rfl jl.1 rfl rfl (Nat.le_of_ble_eq_true rfl) dX6_read_107 (fun H locs jP jD jS => ?_)
                    refine lv_if_ne (tgt := 117) hx hb dX6_read_110 (by decide) (fun c17 => ?_) (fun c17 => ?_)
                    · have hvt18 := itn c17 hvt18
                      refine lv_iconst (v := (0 : Int32)) hx hb dX6_read_117 (by decide) ?_
                      obtain rfl := Option.some.inj hvt18
                      exact hJt18 _ _ _ jP jD jS (lv_sub jl [0, 1, 2, 3, 4, 6, 7] rfl)
                    · have hvt18 := itp c17 hvt18
                      refine lv_iconst (v := (2 : Int32)) hx hb dX6_read_113 (by decide) ?_
                      refine lv_goto (tgt := 118) hx hb dX6_read_114 (by decide) ?_
                      obtain rfl := Option.some.inj hvt18
                      exact hJt18 _ _ _ jP jD jS (lv_sub jl [0, 1, 2, 3, 4, 6, 7] rfl)
                  · have hvt18 := itn c14 hvt18
                    refine lv_iconst (v := (3 : Int32)) hx hb dX6_read_87 (by decide) ?_
                    refine lv_goto (tgt := 118) hx hb dX6_read_88 (by decide) ?_
                    obtain rfl := Option.some.inj hvt18
                    exact hJt18 _ _ _ jP jD jS (lv_sub jl [0, 1, 2, 3, 4, 6, 7] rfl)
                · have hvt18 := itp c13 hvt18
                  refine lv_iconst (v := (1 : Int32)) hx hb dX6_read_73 (by decide) ?_
                  refine lv_goto (tgt := 118) hx hb dX6_read_74 (by decide) ?_
                  obtain rfl := Option.some.inj hvt18
                  exact hJt18 _ _ _ jP jD jS (lv_sub jl [0, 1, 2, 3, 4, 6, 7] rfl)
        exact hL10 1000 _ hT10 _ _ _ jP jD jS (lv_sub jl [3, 4, 5, 6, 7, 2, 1, 0] rfl)
      · have h := itp c9 h
        refine lv_iconst (v := (-1 : Int32)) hx hb dX6_read_37 (by decide) ?_
        obtain rfl := Option.some.inj h
        exact hRet _ _ _ _ jP jD jS dX6_read_38
theorem okX6_torn : okV yX6_torn cX6_torn 1 (some .int) 0 := ⟨w_801, w_802, w_803, w_5, by decide, by decide, by decide +kernel⟩
def fX6_torn (M_x33 : Int32) : Option Int32 :=
  some M_x33
set_option maxRecDepth 100000 in
set_option maxHeartbeats 4000000 in
theorem kX6_torn (l : Launch) (D : va_G) (cI cB cS : ClassId) (uM : Nat) (aM : Nat → Nat) (M_x1 : Int32) (M_x2 : Int32) (M_x3 : Int32) (M_x4 : Int32) (M_x5 : Int32) (M_x6 : Int32) (M_x7 : Int32) (M_x8 : Int32) (M_x12 : Int32) (M_x14 : Int32) (M_x17 : Int32) (M_x18 : Int32) (M_x19 : Int32) (M_x20 : Int32) (M_x23 : Int32) (M_x27 : Int32) (M_x29 : Int32) (M_x33 : Int32) (M_g24 : Int64) (M_g25 : Int64) (M_g26 : Int64) (M_g28 : Int64) (M_r0 : (Nat → Int32)) (M_r9 : (Nat → Int32)) (M_r10 : (Nat → Int32)) (M_r11 : (Nat → Int32)) (M_r13 : (Nat → Int32)) (M_r15 : (Nat → Int32)) (M_r16 : (Nat → Int32)) (M_r21 : (Nat → Int32)) (M_r22 : (Nat → Int32)) (M_r30 : (Nat → Int32)) (M_r31 : (Nat → Int32)) (M_r32 : (Nat → Int32)) (z : Int32) (h : fX6_torn M_x33 = some z) : Mt l yX6_torn cX6_torn 1 (some .int) 0 0 D cI cB cS (mW cI uM aM M_x1 M_x2 M_x3 M_x4 M_x5 M_x6 M_x7 M_x8 M_x12 M_x14 M_x17 M_x18 M_x19 M_x20 M_x23 M_x27 M_x29 M_x33 M_g24 M_g25 M_g26 M_g28 M_r0 M_r9 M_r10 M_r11 M_r13 M_r15 M_r16 M_r21 M_r22 M_r30 M_r31 M_r32) (mW cI uM aM M_x1 M_x2 M_x3 M_x4 M_x5 M_x6 M_x7 M_x8 M_x12 M_x14 M_x17 M_x18 M_x19 M_x20 M_x23 M_x27 M_x29 M_x33 M_g24 M_g25 M_g26 M_g28 M_r0 M_r9 M_r10 M_r11 M_r13 M_r15 M_r16 M_r21 M_r22 M_r30 M_r31 M_r32) [.ref uM] (some (.int z)) := by
  refine entryI (by decide +kernel) rfl (Nat.le_of_ble_eq_true rfl) ?_
  intro p e s m below meth c A ls QQ R ar F hRet jP jD jS jl
  obtain ⟨hx, hb, hml, hown, hts, jK, hA, hf1, hf2⟩ := id F
  have jl : lv_has ls 1 [(0, .ref uM)] := jl
  unfold fX6_torn at h
  refine lv_aload_n hx hb dX6_torn_0 rfl (lv_at jl 0 rfl) ?_
  refine va_get (D := D) (ci := 6) (v := .int M_x33) (C := RX6) (T := TX6) (N := 34) hx hb hts in6 hown jK.1 jP 0 rfl rfl 33 (by decide) (hts _ w_795) (fun _ h9 => h9) rfl dX6_torn_1 ?_
  obtain rfl := Option.some.inj h
  exact hRet _ _ _ _ jP jD jS dX6_torn_4
theorem okX6_count : okV yX6_count cX6_count 6 (some .int) 1 := ⟨w_814, w_815, w_816, w_5, by decide, by decide, by decide +kernel⟩
def fX6_count_b10 (l1 : Int32) (M_x12 : Int32) (M_r11 : (Nat → Int32)) (M_r15 : (Nat → Int32)) (v1 : (Int32 × Int32 × Int32 × Int32)) : Option ((Int32 × Int32 × Int32 × Int32) ⊕ (Int32 × Int32 × Int32)) :=
  if M_x12 ≤ v1.2.2.2 then (some (.inr (v1.1, v1.2.1, v1.2.2.1))) else (bd (fX6_its (M_r11) v1.2.2.2 (0 : Int32)) (fun t1 => bd (fX6_its (M_r11) v1.2.2.2 (4 : Int32)) (fun t2 => bd (fX6_isGood (M_r11) (M_r15) v1.2.2.2) (fun t3 => bd (if t3 = (0 : Int32) then (some (0 : Int32)) else (some (1 : Int32))) (fun t4 => some (.inl ((v1.1 + t1), (v1.2.1 + t2), (v1.2.2.1 + t4), (v1.2.2.2 + (1 : Int32)))))))))
def fX6_count (M_r11 : (Nat → Int32)) (M_r15 : (Nat → Int32)) (M_r30 : (Nat → Int32)) (M_r31 : (Nat → Int32)) (M_x1 : Int32) (M_x12 : Int32) (a1 : Int32) : Option Int32 :=
  bd (loopF (fX6_count_b10 a1 M_x12 M_r11 M_r15) 1000 ((0 : Int32), (0 : Int32), (0 : Int32), (0 : Int32))) (fun T1 => if a1 = (0 : Int32) then some M_x12 else (if a1 = (1 : Int32) then some T1.1 else (if a1 = (2 : Int32) then some T1.2.1 else (if a1 = (3 : Int32) then some T1.2.2 else (if a1 = (4 : Int32) then some M_x1 else (if a1 = (5 : Int32) then (if (M_r30 (0 : Int32).toNatClampNeg) = (-4 : Int32) then (some (-4 : Int32)) else (some (M_r31 (0 : Int32).toNatClampNeg))) else (some (-1 : Int32))))))))
set_option maxRecDepth 100000 in
set_option maxHeartbeats 4000000 in
theorem kX6_count (l : Launch) (D : va_G) (cI cB cS : ClassId) (uM : Nat) (aM : Nat → Nat) (M_x1 : Int32) (M_x2 : Int32) (M_x3 : Int32) (M_x4 : Int32) (M_x5 : Int32) (M_x6 : Int32) (M_x7 : Int32) (M_x8 : Int32) (M_x12 : Int32) (M_x14 : Int32) (M_x17 : Int32) (M_x18 : Int32) (M_x19 : Int32) (M_x20 : Int32) (M_x23 : Int32) (M_x27 : Int32) (M_x29 : Int32) (M_x33 : Int32) (M_g24 : Int64) (M_g25 : Int64) (M_g26 : Int64) (M_g28 : Int64) (M_r0 : (Nat → Int32)) (M_r9 : (Nat → Int32)) (M_r10 : (Nat → Int32)) (M_r11 : (Nat → Int32)) (M_r13 : (Nat → Int32)) (M_r15 : (Nat → Int32)) (M_r16 : (Nat → Int32)) (M_r21 : (Nat → Int32)) (M_r22 : (Nat → Int32)) (M_r30 : (Nat → Int32)) (M_r31 : (Nat → Int32)) (M_r32 : (Nat → Int32)) (a1 : Int32) (z : Int32) (h : fX6_count M_r11 M_r15 M_r30 M_r31 M_x1 M_x12 a1 = some z) : Mt l yX6_count cX6_count 6 (some .int) 2 43 D cI cB cS (mW cI uM aM M_x1 M_x2 M_x3 M_x4 M_x5 M_x6 M_x7 M_x8 M_x12 M_x14 M_x17 M_x18 M_x19 M_x20 M_x23 M_x27 M_x29 M_x33 M_g24 M_g25 M_g26 M_g28 M_r0 M_r9 M_r10 M_r11 M_r13 M_r15 M_r16 M_r21 M_r22 M_r30 M_r31 M_r32) (mW cI uM aM M_x1 M_x2 M_x3 M_x4 M_x5 M_x6 M_x7 M_x8 M_x12 M_x14 M_x17 M_x18 M_x19 M_x20 M_x23 M_x27 M_x29 M_x33 M_g24 M_g25 M_g26 M_g28 M_r0 M_r9 M_r10 M_r11 M_r13 M_r15 M_r16 M_r21 M_r22 M_r30 M_r31 M_r32) [.ref uM, .int a1] (some (.int z)) := by
  refine entryI (by decide +kernel) rfl (Nat.le_of_ble_eq_true rfl) ?_
  intro p e s m below meth c A ls QQ R ar F hRet jP jD jS jl
  obtain ⟨hx, hb, hml, hown, hts, jK, hA, hf1, hf2⟩ := id F
  have jl : lv_has ls 6 [(0, .ref uM), (1, .int a1)] := jl
  unfold fX6_count at h
  refine lv_iconst (v := (0 : Int32)) hx hb dX6_count_0 (by decide) ?_
  refine lv_istore_n (lv' := [(2, .int (0 : Int32)), (0, .ref uM), (1, .int a1)]) hx hb dX6_count_1 rfl jl (by decide) rfl (fun ls jl => ?_)
  refine lv_iconst (v := (0 : Int32)) hx hb dX6_count_2 (by decide) ?_
  refine lv_istore_n (lv' := [(3, .int (0 : Int32)), (2, .int (0 : Int32)), (0, .ref uM), (1, .int a1)]) hx hb dX6_count_3 rfl jl (by decide) rfl (fun ls jl => ?_)
  refine lv_iconst (v := (0 : Int32)) hx hb dX6_count_4 (by decide) ?_
  refine lv_istore (lv' := [(4, .int (0 : Int32)), (3, .int (0 : Int32)), (2, .int (0 : Int32)), (0, .ref uM), (1, .int a1)]) hx hb dX6_count_5 jl (by decide) rfl (fun ls jl => ?_)
  refine lv_iconst (v := (0 : Int32)) hx hb dX6_count_7 (by decide) ?_
  refine lv_istore (lv' := [(5, .int (0 : Int32)), (4, .int (0 : Int32)), (3, .int (0 : Int32)), (2, .int (0 : Int32)), (0, .ref uM), (1, .int a1)]) hx hb dX6_count_8 jl (by decide) rfl (fun ls jl => ?_)
  obtain ⟨T1, hT1, hz1⟩ := bd_some h
  clear h
  have hE1 : ∀ (H : Heap) (locs : List Loc) (ls : Array Slot), va_P D vwCl (mW cI uM aM M_x1 M_x2 M_x3 M_x4 M_x5 M_x6 M_x7 M_x8 M_x12 M_x14 M_x17 M_x18 M_x19 M_x20 M_x23 M_x27 M_x29 M_x33 M_g24 M_g25 M_g26 M_g28 M_r0 M_r9 M_r10 M_r11 M_r13 M_r15 M_r16 M_r21 M_r22 M_r30 M_r31 M_r32) H → va_D A (mW cI uM aM M_x1 M_x2 M_x3 M_x4 M_x5 M_x6 M_x7 M_x8 M_x12 M_x14 M_x17 M_x18 M_x19 M_x20 M_x23 M_x27 M_x29 M_x33 M_g24 M_g25 M_g26 M_g28 M_r0 M_r9 M_r10 M_r11 M_r13 M_r15 M_r16 M_r21 M_r22 M_r30 M_r31 M_r32) → va_S A s.heap H locs → lv_has ls 6 [(0, .ref uM), (1, .int a1), (2, .int T1.1), (3, .int T1.2.1), (4, .int T1.2.2)] → W p l e R s m ar below meth c H locs 0 0 QQ (F0 m 64 ls []) := by
    clear jP jD jS jl
    intro H locs ls jP jD jS jl
    refine lv_iload_n hx hb dX6_count_64 rfl (lv_at jl 1 rfl) ?_
    by_cases hk11 : a1 = (0 : Int32)
    · have hz1 := itp hk11 hz1
      refine swIn (k := 0) (tgt := 104) hx hb hk11 dX6_count_65 (by decide) (by decide) rfl (by decide) ?_
      refine lv_aload_n hx hb dX6_count_104 rfl (lv_at jl 0 rfl) ?_
      refine va_get (D := D) (ci := 6) (v := .int M_x12) (C := RX6) (T := TX6) (N := 34) hx hb hts in6 hown jK.1 jP 0 rfl rfl 12 (by decide) (hts _ w_222) (fun _ h9 => h9) rfl dX6_count_105 ?_
      obtain rfl := Option.some.inj hz1
      exact hRet _ _ _ _ jP jD jS dX6_count_108
    · have hz1 := itn hk11 hz1
      by_cases hk12 : a1 = (1 : Int32)
      · have hz1 := itp hk12 hz1
        refine swIn (k := 1) (tgt := 109) hx hb hk12 dX6_count_65 (by decide) (by decide) rfl (by decide) ?_
        refine lv_iload_n hx hb dX6_count_109 rfl (lv_at jl 2 rfl) ?_
        obtain rfl := Option.some.inj hz1
        exact hRet _ _ _ _ jP jD jS dX6_count_110
      · have hz1 := itn hk12 hz1
        by_cases hk13 : a1 = (2 : Int32)
        · have hz1 := itp hk13 hz1
          refine swIn (k := 2) (tgt := 111) hx hb hk13 dX6_count_65 (by decide) (by decide) rfl (by decide) ?_
          refine lv_iload_n hx hb dX6_count_111 rfl (lv_at jl 3 rfl) ?_
          obtain rfl := Option.some.inj hz1
          exact hRet _ _ _ _ jP jD jS dX6_count_112
        · have hz1 := itn hk13 hz1
          by_cases hk14 : a1 = (3 : Int32)
          · have hz1 := itp hk14 hz1
            refine swIn (k := 3) (tgt := 113) hx hb hk14 dX6_count_65 (by decide) (by decide) rfl (by decide) ?_
            refine lv_iload hx hb dX6_count_113 (lv_at jl 4 rfl) ?_
            obtain rfl := Option.some.inj hz1
            exact hRet _ _ _ _ jP jD jS dX6_count_115
          · have hz1 := itn hk14 hz1
            by_cases hk15 : a1 = (4 : Int32)
            · have hz1 := itp hk15 hz1
              refine swIn (k := 4) (tgt := 116) hx hb hk15 dX6_count_65 (by decide) (by decide) rfl (by decide) ?_
              refine lv_aload_n hx hb dX6_count_116 rfl (lv_at jl 0 rfl) ?_
              refine va_get (D := D) (ci := 6) (v := .int M_x1) (C := RX6) (T := TX6) (N := 34) hx hb hts in6 hown jK.1 jP 0 rfl rfl 1 (by decide) (hts _ w_100) (fun _ h9 => h9) rfl dX6_count_117 ?_
              obtain rfl := Option.some.inj hz1
              exact hRet _ _ _ _ jP jD jS dX6_count_120
            · have hz1 := itn hk15 hz1
              by_cases hk16 : a1 = (5 : Int32)
              · have hz1 := itp hk16 hz1
                refine swIn (k := 5) (tgt := 121) hx hb hk16 dX6_count_65 (by decide) (by decide) rfl (by decide) ?_
                refine lv_aload_n hx hb dX6_count_121 rfl (lv_at jl 0 rfl) ?_
                refine va_get (D := D) (ci := 6) (v := .ref (aM 30)) (C := RX6) (T := TX6) (N := 34) hx hb hts in6 hown jK.1 jP 0 rfl rfl 30 (by decide) (hts _ w_87) (fun _ h9 => h9) rfl dX6_count_122 ?_
                refine lv_iconst (v := (0 : Int32)) hx hb dX6_count_125 (by decide) ?_
                refine va_iald (f := M_r30) hx hb jK.1 jP 10 0 rfl rfl (by unfold vp_in; decide) dX6_count_126 ?_
                refine lv_bipush (v := (-4 : Int32)) hx hb dX6_count_127 (by decide) ?_
                refine lv_icmp_ne (tgt := 137) hx hb dX6_count_129 (by decide) (fun c17 => ?_) (fun c17 => ?_)
                · have hz1 := itn c17 hz1
                  refine lv_aload_n hx hb dX6_count_137 rfl (lv_at jl 0 rfl) ?_
                  refine va_get (D := D) (ci := 6) (v := .ref (aM 31)) (C := RX6) (T := TX6) (N := 34) hx hb hts in6 hown jK.1 jP 0 rfl rfl 31 (by decide) (hts _ w_88) (fun _ h9 => h9) rfl dX6_count_138 ?_
                  refine lv_iconst (v := (0 : Int32)) hx hb dX6_count_141 (by decide) ?_
                  refine va_iald (f := M_r31) hx hb jK.1 jP 11 0 rfl rfl (by unfold vp_in; decide) dX6_count_142 ?_
                  obtain rfl := Option.some.inj hz1
                  exact hRet _ _ _ _ jP jD jS dX6_count_143
                · have hz1 := itp c17 hz1
                  refine lv_bipush (v := (-4 : Int32)) hx hb dX6_count_132 (by decide) ?_
                  refine lv_goto (tgt := 143) hx hb dX6_count_134 (by decide) ?_
                  obtain rfl := Option.some.inj hz1
                  exact hRet _ _ _ _ jP jD jS dX6_count_143
              · have hz1 := itn hk16 hz1
                refine lv_tableOut (tgt := 144) hx hb dX6_count_65 (swNot 5 (by decide) (fun k hk => by rcases (by omega : k = 0 ∨ k = 1 ∨ k = 2 ∨ k = 3 ∨ k = 4 ∨ k = 5) with rfl | rfl | rfl | rfl | rfl | rfl <;> assumption)) (by decide) ?_
                refine lv_iconst (v := (-1 : Int32)) hx hb dX6_count_144 (by decide) ?_
                obtain rfl := Option.some.inj hz1
                exact hRet _ _ _ _ jP jD jS dX6_count_145
  have hL1 : ∀ (n : Nat) (v1 : (Int32 × Int32 × Int32 × Int32)), loopF (fX6_count_b10 a1 M_x12 M_r11 M_r15) n v1 = some T1 → ∀ (H : Heap) (locs : List Loc) (ls : Array Slot), va_P D vwCl (mW cI uM aM M_x1 M_x2 M_x3 M_x4 M_x5 M_x6 M_x7 M_x8 M_x12 M_x14 M_x17 M_x18 M_x19 M_x20 M_x23 M_x27 M_x29 M_x33 M_g24 M_g25 M_g26 M_g28 M_r0 M_r9 M_r10 M_r11 M_r13 M_r15 M_r16 M_r21 M_r22 M_r30 M_r31 M_r32) H → va_D A (mW cI uM aM M_x1 M_x2 M_x3 M_x4 M_x5 M_x6 M_x7 M_x8 M_x12 M_x14 M_x17 M_x18 M_x19 M_x20 M_x23 M_x27 M_x29 M_x33 M_g24 M_g25 M_g26 M_g28 M_r0 M_r9 M_r10 M_r11 M_r13 M_r15 M_r16 M_r21 M_r22 M_r30 M_r31 M_r32) → va_S A s.heap H locs → lv_has ls 6 [(0, .ref uM), (1, .int a1), (2, .int v1.1), (3, .int v1.2.1), (4, .int v1.2.2.1), (5, .int v1.2.2.2)] → W p l e R s m ar below meth c H locs 0 0 QQ (F0 m 10 ls []) := by
    clear jP jD jS jl hT1
    intro n
    induction n with
    | zero => intro v1 hq; exact (loop_none hq).elim
    | succ n ih =>
      intro v1 hq H locs ls jP jD jS jl
      obtain ⟨o1, hv1, hq1⟩ := loop_some hq
      clear hq
      unfold fX6_count_b10 at hv1
      refine lv_iload hx hb dX6_count_10 (lv_at jl 5 rfl) ?_
      refine lv_aload_n hx hb dX6_count_12 rfl (lv_at jl 0 rfl) ?_
      refine va_get (D := D) (ci := 6) (v := .int M_x12) (C := RX6) (T := TX6) (N := 34) hx hb hts in6 hown jK.1 jP 0 rfl rfl 12 (by decide) (hts _ w_222) (fun _ h9 => h9) rfl dX6_count_13 ?_
      refine lv_icmp_ge (tgt := 64) hx hb dX6_count_16 (by decide) (fun c2 => ?_) (fun c2 => ?_)
      · have hv1 := itp c2 hv1
        obtain rfl := Option.some.inj hv1
        obtain rfl := nxt_r hq1
        exact hE1 _ _ _ jP jD jS (lv_sub jl [0, 1, 2, 3, 4] rfl)
      · have hv1 := itn c2 hv1
        refine lv_iload_n hx hb dX6_count_19 rfl (lv_at jl 2 rfl) ?_
        refine lv_aload_n hx hb dX6_count_20 rfl (lv_at jl 0 rfl) ?_
        refine lv_iload hx hb dX6_count_21 (lv_at jl 5 rfl) ?_
        refine lv_iconst (v := (0 : Int32)) hx hb dX6_count_23 (by decide) ?_
        obtain ⟨t3, hc4, hv1⟩ := bd_some hv1
        refine callW (w1 := (mW cI uM aM M_x1 M_x2 M_x3 M_x4 M_x5 M_x6 M_x7 M_x8 M_x12 M_x14 M_x17 M_x18 M_x19 M_x20 M_x23 M_x27 M_x29 M_x33 M_g24 M_g25 M_g26 M_g28 M_r0 M_r9 M_r10 M_r11 M_r13 M_r15 M_r16 M_r21 M_r22 M_r30 M_r31 M_r32)) (As := [.int v1.2.2.2, .int (0 : Int32)]) (rest := [.int v1.1]) (st1 := [.int t3, .int v1.1]) 0 F (kX6_its l D cI cB cS uM aM M_x1 M_x2 M_x3 M_x4 M_x5 M_x6 M_x7 M_x8 M_x12 M_x14 M_x17 M_x18 M_x19 M_x20 M_x23 M_x27 M_x29 M_x33 M_g24 M_g25 M_g26 M_g28 M_r0 M_r9 M_r10 M_r11 M_r13 M_r15 M_r16 M_r21 M_r22 M_r30 M_r31 M_r32 v1.2.2.2 (0 : Int32) _ hc4 ) okX6_its w_320 (by decide) (by decide) ⟨Nat.zero_le _, Nat.zero_le _⟩ rfl rfl rfl jP jD jS rfl jl.1 rfl rfl (Nat.le_of_ble_eq_true rfl) dX6_count_24 (fun H locs jP jD jS => ?_)
        refine lv_iadd hx hb dX6_count_27 ?_
        refine lv_istore_n (lv' := [(2, .int (v1.1 + t3)), (0, .ref uM), (1, .int a1), (3, .int v1.2.1), (4, .int v1.2.2.1), (5, .int v1.2.2.2)]) hx hb dX6_count_28 rfl jl (by decide) rfl (fun ls jl => ?_)
        refine lv_iload_n hx hb dX6_count_29 rfl (lv_at jl 3 rfl) ?_
        refine lv_aload_n hx hb dX6_count_30 rfl (lv_at jl 1 rfl) ?_
        refine lv_iload hx hb dX6_count_31 (lv_at jl 5 rfl) ?_
        refine lv_iconst (v := (4 : Int32)) hx hb dX6_count_33 (by decide) ?_
        obtain ⟨t5, hc6, hv1⟩ := bd_some hv1
        refine callW (w1 := (mW cI uM aM M_x1 M_x2 M_x3 M_x4 M_x5 M_x6 M_x7 M_x8 M_x12 M_x14 M_x17 M_x18 M_x19 M_x20 M_x23 M_x27 M_x29 M_x33 M_g24 M_g25 M_g26 M_g28 M_r0 M_r9 M_r10 M_r11 M_r13 M_r15 M_r16 M_r21 M_r22 M_r30 M_r31 M_r32)) (As := [.int v1.2.2.2, .int (4 : Int32)]) (rest := [.int v1.2.1]) (st1 := [.int t5, .int v1.2.1]) 0 F (kX6_its l D cI cB cS uM aM M_x1 M_x2 M_x3 M_x4 M_x5 M_x6 M_x7 M_x8 M_x12 M_x14 M_x17 M_x18 M_x19 M_x20 M_x23 M_x27 M_x29 M_x33 M_g24 M_g25 M_g26 M_g28 M_r0 M_r9 M_r10 M_r11 M_r13 M_r15 M_r16 M_r21 M_r22 M_r30 M_r31 M_r32 v1.2.2.2 (4 : Int32) _ hc6 ) okX6_its w_320 (by decide) (by decide) ⟨Nat.zero_le _, Nat.zero_le _⟩ rfl rfl rfl jP jD jS rfl jl.1 rfl rfl (Nat.le_of_ble_eq_true rfl) dX6_count_34 (fun H locs jP jD jS => ?_)
        refine lv_iadd hx hb dX6_count_37 ?_
        refine lv_istore_n (lv' := [(3, .int (v1.2.1 + t5)), (2, .int (v1.1 + t3)), (0, .ref uM), (1, .int a1), (4, .int v1.2.2.1), (5, .int v1.2.2.2)]) hx hb dX6_count_38 rfl jl (by decide) rfl (fun ls jl => ?_)
        refine lv_iload hx hb dX6_count_39 (lv_at jl 4 rfl) ?_
        refine lv_aload_n hx hb dX6_count_41 rfl (lv_at jl 2 rfl) ?_
        refine lv_iload hx hb dX6_count_42 (lv_at jl 5 rfl) ?_
        obtain ⟨t7, hc8, hv1⟩ := bd_some hv1
        refine callW (w1 := (mW cI uM aM M_x1 M_x2 M_x3 M_x4 M_x5 M_x6 M_x7 M_x8 M_x12 M_x14 M_x17 M_x18 M_x19 M_x20 M_x23 M_x27 M_x29 M_x33 M_g24 M_g25 M_g26 M_g28 M_r0 M_r9 M_r10 M_r11 M_r13 M_r15 M_r16 M_r21 M_r22 M_r30 M_r31 M_r32)) (As := [.int v1.2.2.2]) (rest := [.int v1.2.2.1]) (st1 := [.int t7, .int v1.2.2.1]) 0 F (kX6_isGood l D cI cB cS uM aM M_x1 M_x2 M_x3 M_x4 M_x5 M_x6 M_x7 M_x8 M_x12 M_x14 M_x17 M_x18 M_x19 M_x20 M_x23 M_x27 M_x29 M_x33 M_g24 M_g25 M_g26 M_g28 M_r0 M_r9 M_r10 M_r11 M_r13 M_r15 M_r16 M_r21 M_r22 M_r30 M_r31 M_r32 v1.2.2.2 _ hc8 ) okX6_isGood w_337 (by decide) (by decide) ⟨Nat.zero_le _, Nat.zero_le _⟩ rfl rfl rfl jP jD jS rfl jl.1 rfl rfl (Nat.le_of_ble_eq_true rfl) dX6_count_44 (fun H locs jP jD jS => ?_)
        obtain ⟨t10, hvt10, hv1⟩ := bd_some hv1
        have hJt10 : ∀ (H : Heap) (locs : List Loc) (ls : Array Slot), va_P D vwCl (mW cI uM aM M_x1 M_x2 M_x3 M_x4 M_x5 M_x6 M_x7 M_x8 M_x12 M_x14 M_x17 M_x18 M_x19 M_x20 M_x23 M_x27 M_x29 M_x33 M_g24 M_g25 M_g26 M_g28 M_r0 M_r9 M_r10 M_r11 M_r13 M_r15 M_r16 M_r21 M_r22 M_r30 M_r31 M_r32) H → va_D A (mW cI uM aM M_x1 M_x2 M_x3 M_x4 M_x5 M_x6 M_x7 M_x8 M_x12 M_x14 M_x17 M_x18 M_x19 M_x20 M_x23 M_x27 M_x29 M_x33 M_g24 M_g25 M_g26 M_g28 M_r0 M_r9 M_r10 M_r11 M_r13 M_r15 M_r16 M_r21 M_r22 M_r30 M_r31 M_r32) → va_S A s.heap H locs → lv_has ls 6 [(0, .ref uM), (1, .int a1), (2, .int (v1.1 + t3)), (3, .int (v1.2.1 + t5)), (5, .int v1.2.2.2)] → W p l e R s m ar below meth c H locs 0 0 QQ (F0 m 55 ls [.int t10, .int v1.2.2.1]) := by
          clear jP jD jS jl
          intro H locs ls jP jD jS jl
          refine lv_iadd hx hb dX6_count_55 ?_
          refine lv_istore (lv' := [(4, .int (v1.2.2.1 + t10)), (0, .ref uM), (1, .int a1), (2, .int (v1.1 + t3)), (3, .int (v1.2.1 + t5)), (5, .int v1.2.2.2)]) hx hb dX6_count_56 jl (by decide) rfl (fun ls jl => ?_)
          refine lv_iinc (v := (v1.2.2.2 + (1 : Int32))) (lv' := [(5, .int (v1.2.2.2 + (1 : Int32))), (4, .int (v1.2.2.1 + t10)), (0, .ref uM), (1, .int a1), (2, .int (v1.1 + t3)), (3, .int (v1.2.1 + t5))]) hx hb dX6_count_58 jl (k := 5) rfl rfl (by decide) rfl (fun ls jl => ?_)
          refine lv_goto (tgt := 10) hx hb dX6_count_61 (by decide) ?_
          obtain rfl := Option.some.inj hv1
          exact ih _ (nxt_l hq1) _ _ _ jP jD jS (lv_sub jl [2, 3, 4, 5, 1, 0] rfl)
        clear hv1
        refine lv_if_eq (tgt := 54) hx hb dX6_count_47 (by decide) (fun c9 => ?_) (fun c9 => ?_)
        · have hvt10 := itp c9 hvt10
          refine lv_iconst (v := (0 : Int32)) hx hb dX6_count_54 (by decide) ?_
          obtain rfl := Option.some.inj hvt10
          exact hJt10 _ _ _ jP jD jS (lv_sub jl [2, 3, 1, 0, 5] rfl)
        · have hvt10 := itn c9 hvt10
          refine lv_iconst (v := (1 : Int32)) hx hb dX6_count_50 (by decide) ?_
          refine lv_goto (tgt := 55) hx hb dX6_count_51 (by decide) ?_
          obtain rfl := Option.some.inj hvt10
          exact hJt10 _ _ _ jP jD jS (lv_sub jl [2, 3, 1, 0, 5] rfl)
  exact hL1 1000 _ hT1 _ _ _ jP jD jS (lv_sub jl [4, 5, 3, 2, 1, 0] rfl)
