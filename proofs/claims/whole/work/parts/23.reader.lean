theorem okX0_endOfRun : okV yX0_endOfRun cX0_endOfRun 5 (some .int) 3 := ⟨w_141, w_142, w_143, w_19, by decide, by decide, by decide +kernel⟩
def fX0_endOfRun_b3 (l2 : Int32) (l3 : Int32) (E_x1 : Int32) (E_r0 : (Nat → Int32)) (v1 : Int32) : Option (Int32 ⊕ Int32) :=
  if E_x1 ≤ v1 then (some (.inr v1)) else (ckI v1 240 (if (E_r0 v1.toNatClampNeg) < l2 then (some (.inr v1)) else (ckI v1 240 (if l3 < (E_r0 v1.toNatClampNeg) then (some (.inr v1)) else (some (.inl (v1 + (1 : Int32))))))))
def fX0_endOfRun (E_r0 : (Nat → Int32)) (E_x1 : Int32) (a1 : Int32) (a2 : Int32) (a3 : Int32) : Option Int32 :=
  bd (loopF (fX0_endOfRun_b3 a2 a3 E_x1 E_r0) 1000 a1) (fun T1 => some T1)
set_option maxRecDepth 100000 in
set_option maxHeartbeats 4000000 in
theorem kX0_endOfRun (l : Launch) (D : va_G) (cI cB cS : ClassId) (uD : Nat) (D_x1 : Int32) (D_x2 : Int32) (D_x3 : Int32) (D_x4 : Int32) (D_x5 : Int32) (D_x6 : Int32) (D_x7 : Int32) (D_x8 : Int32) (uE : Nat) (aE : Nat → Nat) (E_x1 : Int32) (E_r0 : (Nat → Int32)) (a1 : Int32) (a2 : Int32) (a3 : Int32) (z : Int32) (h : fX0_endOfRun E_r0 E_x1 a1 a2 a3 = some z) : Mt l yX0_endOfRun cX0_endOfRun 5 (some .int) 0 0 D cI cB cS (dW uD uE D_x1 D_x2 D_x3 D_x4 D_x5 D_x6 D_x7 D_x8 ++ (eW cB uE aE E_x1 E_r0)) (dW uD uE D_x1 D_x2 D_x3 D_x4 D_x5 D_x6 D_x7 D_x8 ++ (eW cB uE aE E_x1 E_r0)) [.ref uD, .int a1, .int a2, .int a3] (some (.int z)) := by
  refine entryI (by decide +kernel) rfl (Nat.le_of_ble_eq_true rfl) ?_
  intro p e s m below meth c A ls QQ R ar F hRet jP jD jS jl
  obtain ⟨hx, hb, hml, hown, hts, jK, hA, hf1, hf2⟩ := id F
  have jl : lv_has ls 5 [(0, .ref uD), (1, .int a1), (2, .int a2), (3, .int a3)] := jl
  unfold fX0_endOfRun at h
  refine lv_iload_n hx hb dX0_endOfRun_0 rfl (lv_at jl 1 rfl) ?_
  refine lv_istore (lv' := [(4, .int a1), (0, .ref uD), (1, .int a1), (2, .int a2), (3, .int a3)]) hx hb dX0_endOfRun_1 jl (by decide) rfl (fun ls jl => ?_)
  obtain ⟨T1, hT1, hz1⟩ := bd_some h
  clear h
  have hE1 : ∀ (H : Heap) (locs : List Loc) (ls : Array Slot), va_P D vwCl (dW uD uE D_x1 D_x2 D_x3 D_x4 D_x5 D_x6 D_x7 D_x8 ++ (eW cB uE aE E_x1 E_r0)) H → va_D A (dW uD uE D_x1 D_x2 D_x3 D_x4 D_x5 D_x6 D_x7 D_x8 ++ (eW cB uE aE E_x1 E_r0)) → va_S A s.heap H locs → lv_has ls 5 [(4, .int T1)] → W p l e R s m ar below meth c H locs 0 0 QQ (F0 m 49 ls []) := by
    clear jP jD jS jl
    intro H locs ls jP jD jS jl
    refine lv_iload hx hb dX0_endOfRun_49 (lv_at jl 0 rfl) ?_
    obtain rfl := Option.some.inj hz1
    exact hRet _ _ _ _ jP jD jS dX0_endOfRun_51
  have hL1 : ∀ (n : Nat) (v1 : Int32), loopF (fX0_endOfRun_b3 a2 a3 E_x1 E_r0) n v1 = some T1 → ∀ (H : Heap) (locs : List Loc) (ls : Array Slot), va_P D vwCl (dW uD uE D_x1 D_x2 D_x3 D_x4 D_x5 D_x6 D_x7 D_x8 ++ (eW cB uE aE E_x1 E_r0)) H → va_D A (dW uD uE D_x1 D_x2 D_x3 D_x4 D_x5 D_x6 D_x7 D_x8 ++ (eW cB uE aE E_x1 E_r0)) → va_S A s.heap H locs → lv_has ls 5 [(0, .ref uD), (2, .int a2), (3, .int a3), (4, .int v1)] → W p l e R s m ar below meth c H locs 0 0 QQ (F0 m 3 ls []) := by
    clear jP jD jS jl hT1
    intro n
    induction n with
    | zero => intro v1 hq; exact (loop_none hq).elim
    | succ n ih =>
      intro v1 hq H locs ls jP jD jS jl
      obtain ⟨o1, hv1, hq1⟩ := loop_some hq
      clear hq
      unfold fX0_endOfRun_b3 at hv1
      refine lv_iload hx hb dX0_endOfRun_3 (lv_at jl 3 rfl) ?_
      refine lv_aload_n hx hb dX0_endOfRun_5 rfl (lv_at jl 0 rfl) ?_
      refine va_get (D := D) (ci := 0) (v := .ref uE) (C := RX0) (T := TX0) (N := 9) hx hb hts in0 hown jK.1 jP 0 rfl rfl 0 (by decide) (hts _ w_45) (fun _ h9 => h9) rfl dX0_endOfRun_6 ?_
      refine va_get (D := D) (ci := 3) (v := .int E_x1) (C := RX3) (T := TX3) (N := 2) hx hb hts in3 hown jK.1 jP 1 rfl rfl 1 (by decide) (hts _ w_137) (fun _ h9 => h9) rfl dX0_endOfRun_9 ?_
      refine lv_icmp_ge (tgt := 49) hx hb dX0_endOfRun_12 (by decide) (fun c2 => ?_) (fun c2 => ?_)
      · have hv1 := itp c2 hv1
        obtain rfl := Option.some.inj hv1
        obtain rfl := nxt_r hq1
        exact hE1 _ _ _ jP jD jS (lv_sub jl [3] rfl)
      · have hv1 := itn c2 hv1
        refine lv_aload_n hx hb dX0_endOfRun_15 rfl (lv_at jl 0 rfl) ?_
        refine va_get (D := D) (ci := 0) (v := .ref uE) (C := RX0) (T := TX0) (N := 9) hx hb hts in0 hown jK.1 jP 0 rfl rfl 0 (by decide) (hts _ w_45) (fun _ h9 => h9) rfl dX0_endOfRun_16 ?_
        refine va_get (D := D) (ci := 3) (v := .ref (aE 0)) (C := RX3) (T := TX3) (N := 2) hx hb hts in3 hown jK.1 jP 1 rfl rfl 0 (by decide) (hts _ w_138) (fun _ h9 => h9) rfl dX0_endOfRun_19 ?_
        refine lv_iload hx hb dX0_endOfRun_22 (lv_at jl 3 rfl) ?_
        obtain ⟨hin, hv1⟩ := ckI_some hv1
        refine va_bald (f := E_r0) hx hb jK.1 jP 2 1 rfl rfl hin dX0_endOfRun_24 ?_
        refine lv_iload_n hx hb dX0_endOfRun_25 rfl (lv_at jl 1 rfl) ?_
        refine lv_icmp_lt (tgt := 49) hx hb dX0_endOfRun_26 (by decide) (fun c3 => ?_) (fun c3 => ?_)
        · have hv1 := itp c3 hv1
          obtain rfl := Option.some.inj hv1
          obtain rfl := nxt_r hq1
          exact hE1 _ _ _ jP jD jS (lv_sub jl [3] rfl)
        · have hv1 := itn c3 hv1
          refine lv_aload_n hx hb dX0_endOfRun_29 rfl (lv_at jl 0 rfl) ?_
          refine va_get (D := D) (ci := 0) (v := .ref uE) (C := RX0) (T := TX0) (N := 9) hx hb hts in0 hown jK.1 jP 0 rfl rfl 0 (by decide) (hts _ w_45) (fun _ h9 => h9) rfl dX0_endOfRun_30 ?_
          refine va_get (D := D) (ci := 3) (v := .ref (aE 0)) (C := RX3) (T := TX3) (N := 2) hx hb hts in3 hown jK.1 jP 1 rfl rfl 0 (by decide) (hts _ w_138) (fun _ h9 => h9) rfl dX0_endOfRun_33 ?_
          refine lv_iload hx hb dX0_endOfRun_36 (lv_at jl 3 rfl) ?_
          obtain ⟨hin, hv1⟩ := ckI_some hv1
          refine va_bald (f := E_r0) hx hb jK.1 jP 2 1 rfl rfl hin dX0_endOfRun_38 ?_
          refine lv_iload_n hx hb dX0_endOfRun_39 rfl (lv_at jl 2 rfl) ?_
          refine lv_icmp_gt (tgt := 49) hx hb dX0_endOfRun_40 (by decide) (fun c4 => ?_) (fun c4 => ?_)
          · have hv1 := itp c4 hv1
            obtain rfl := Option.some.inj hv1
            obtain rfl := nxt_r hq1
            exact hE1 _ _ _ jP jD jS (lv_sub jl [3] rfl)
          · have hv1 := itn c4 hv1
            refine lv_iinc (v := (v1 + (1 : Int32))) (lv' := [(4, .int (v1 + (1 : Int32))), (0, .ref uD), (2, .int a2), (3, .int a3)]) hx hb dX0_endOfRun_43 jl (k := 3) rfl rfl (by decide) rfl (fun ls jl => ?_)
            refine lv_goto (tgt := 3) hx hb dX0_endOfRun_46 (by decide) ?_
            obtain rfl := Option.some.inj hv1
            exact ih _ (nxt_l hq1) _ _ _ jP jD jS (lv_sub jl [1, 2, 3, 0] rfl)
  exact hL1 1000 _ hT1 _ _ _ jP jD jS (lv_sub jl [1, 3, 4, 0] rfl)
theorem okX0_isKnown : okS yX0_isKnown cX0_isKnown 1 (some .boolean) 1 := ⟨w_149, w_150, w_19, by decide, by decide, by decide +kernel⟩
def fX0_isKnown (a0 : Int32) : Option Int32 :=
  if a0 = (1717660012 : Int32) then (some (1 : Int32)) else (if a0 = (1801807214 : Int32) then (some (1 : Int32)) else (if a0 = (1819242347 : Int32) then (some (1 : Int32)) else (if a0 = (1835102827 : Int32) then (some (1 : Int32)) else (if a0 = (1836413812 : Int32) then (some (1 : Int32)) else (if a0 = (1936683636 : Int32) then (some (1 : Int32)) else (some (0 : Int32)))))))
set_option maxRecDepth 100000 in
set_option maxHeartbeats 4000000 in
theorem kX0_isKnown (l : Launch) (D : va_G) (cI cB cS : ClassId) (a0 : Int32) (z : Int32) (h : fX0_isKnown a0 = some z) : Mt l yX0_isKnown cX0_isKnown 1 (some .boolean) 0 0 D cI cB cS [] [] [.int a0] (some (.int z)) := by
  refine entryZ (by decide +kernel) rfl (Nat.le_of_ble_eq_true rfl) ?_
  intro p e s m below meth c A ls QQ R ar F hRet jP jD jS jl
  obtain ⟨hx, hb, hml, hown, hts, jK, hA, hf1, hf2⟩ := id F
  have jl : lv_has ls 1 [(0, .int a0)] := jl
  unfold fX0_isKnown at h
  refine lv_iload_n hx hb dX0_isKnown_0 rfl (lv_at jl 0 rfl) ?_
  by_cases hk1 : a0 = (1717660012 : Int32)
  · have h := itp hk1 h
    refine swLk (k := 1717660012) (tgt := 60) hx hb hk1 dX0_isKnown_1 (by decide) rfl (by decide) ?_
    refine lv_iconst (v := (1 : Int32)) hx hb dX0_isKnown_60 (by decide) ?_
    obtain rfl := Option.some.inj h
    exact hRet _ _ _ _ (Or.inr rfl) jP jD jS dX0_isKnown_61
  · have h := itn hk1 h
    by_cases hk2 : a0 = (1801807214 : Int32)
    · have h := itp hk2 h
      refine swLk (k := 1801807214) (tgt := 60) hx hb hk2 dX0_isKnown_1 (by decide) rfl (by decide) ?_
      refine lv_iconst (v := (1 : Int32)) hx hb dX0_isKnown_60 (by decide) ?_
      obtain rfl := Option.some.inj h
      exact hRet _ _ _ _ (Or.inr rfl) jP jD jS dX0_isKnown_61
    · have h := itn hk2 h
      by_cases hk3 : a0 = (1819242347 : Int32)
      · have h := itp hk3 h
        refine swLk (k := 1819242347) (tgt := 60) hx hb hk3 dX0_isKnown_1 (by decide) rfl (by decide) ?_
        refine lv_iconst (v := (1 : Int32)) hx hb dX0_isKnown_60 (by decide) ?_
        obtain rfl := Option.some.inj h
        exact hRet _ _ _ _ (Or.inr rfl) jP jD jS dX0_isKnown_61
      · have h := itn hk3 h
        by_cases hk4 : a0 = (1835102827 : Int32)
        · have h := itp hk4 h
          refine swLk (k := 1835102827) (tgt := 60) hx hb hk4 dX0_isKnown_1 (by decide) rfl (by decide) ?_
          refine lv_iconst (v := (1 : Int32)) hx hb dX0_isKnown_60 (by decide) ?_
          obtain rfl := Option.some.inj h
          exact hRet _ _ _ _ (Or.inr rfl) jP jD jS dX0_isKnown_61
        · have h := itn hk4 h
          by_cases hk5 : a0 = (1836413812 : Int32)
          · have h := itp hk5 h
            refine swLk (k := 1836413812) (tgt := 60) hx hb hk5 dX0_isKnown_1 (by decide) rfl (by decide) ?_
            refine lv_iconst (v := (1 : Int32)) hx hb dX0_isKnown_60 (by decide) ?_
            obtain rfl := Option.some.inj h
            exact hRet _ _ _ _ (Or.inr rfl) jP jD jS dX0_isKnown_61
          · have h := itn hk5 h
            by_cases hk6 : a0 = (1936683636 : Int32)
            · have h := itp hk6 h
              refine swLk (k := 1936683636) (tgt := 60) hx hb hk6 dX0_isKnown_1 (by decide) rfl (by decide) ?_
              refine lv_iconst (v := (1 : Int32)) hx hb dX0_isKnown_60 (by decide) ?_
              obtain rfl := Option.some.inj h
              exact hRet _ _ _ _ (Or.inr rfl) jP jD jS dX0_isKnown_61
            · have h := itn hk6 h
              refine lv_lookup (off := 61) (tgt := 62) hx hb dX0_isKnown_1 (by decide) ((lv_osw hk1 (by decide)).trans ((lv_osw hk2 (by decide)).trans ((lv_osw hk3 (by decide)).trans ((lv_osw hk4 (by decide)).trans ((lv_osw hk5 (by decide)).trans ((lv_osw hk6 (by decide)).trans rfl)))))) (by decide) ?_
              refine lv_iconst (v := (0 : Int32)) hx hb dX0_isKnown_62 (by decide) ?_
              obtain rfl := Option.some.inj h
              exact hRet _ _ _ _ (Or.inl rfl) jP jD jS dX0_isKnown_63
theorem okX0_numberAtHand : okV yX0_numberAtHand cX0_numberAtHand 3 (some .int) 0 := ⟨w_152, w_153, w_154, w_19, by decide, by decide, by decide +kernel⟩
def fX0_numberAtHand_b7 (D_x4 : Int32) (E_r0 : (Nat → Int32)) (v1 : (Int32 × Int32)) : Option ((Int32 × Int32) ⊕ Int32) :=
  if D_x4 ≤ v1.2 then (some (.inr v1.1)) else (ckI v1.2 240 (some (.inl (((((10 : Int32) * v1.1) + (E_r0 v1.2.toNatClampNeg)) - (48 : Int32)), (v1.2 + (1 : Int32))))))
def fX0_numberAtHand (D_x4 : Int32) (D_x7 : Int32) (E_r0 : (Nat → Int32)) : Option Int32 :=
  bd (loopF (fX0_numberAtHand_b7 D_x4 E_r0) 1000 ((0 : Int32), D_x7)) (fun T1 => some T1)
set_option maxRecDepth 100000 in
set_option maxHeartbeats 4000000 in
theorem kX0_numberAtHand (l : Launch) (D : va_G) (cI cB cS : ClassId) (uD : Nat) (D_x1 : Int32) (D_x2 : Int32) (D_x3 : Int32) (D_x4 : Int32) (D_x5 : Int32) (D_x6 : Int32) (D_x7 : Int32) (D_x8 : Int32) (uE : Nat) (aE : Nat → Nat) (E_x1 : Int32) (E_r0 : (Nat → Int32)) (z : Int32) (h : fX0_numberAtHand D_x4 D_x7 E_r0 = some z) : Mt l yX0_numberAtHand cX0_numberAtHand 3 (some .int) 0 0 D cI cB cS (dW uD uE D_x1 D_x2 D_x3 D_x4 D_x5 D_x6 D_x7 D_x8 ++ (eW cB uE aE E_x1 E_r0)) (dW uD uE D_x1 D_x2 D_x3 D_x4 D_x5 D_x6 D_x7 D_x8 ++ (eW cB uE aE E_x1 E_r0)) [.ref uD] (some (.int z)) := by
  refine entryI (by decide +kernel) rfl (Nat.le_of_ble_eq_true rfl) ?_
  intro p e s m below meth c A ls QQ R ar F hRet jP jD jS jl
  obtain ⟨hx, hb, hml, hown, hts, jK, hA, hf1, hf2⟩ := id F
  have jl : lv_has ls 3 [(0, .ref uD)] := jl
  unfold fX0_numberAtHand at h
  refine lv_iconst (v := (0 : Int32)) hx hb dX0_numberAtHand_0 (by decide) ?_
  refine lv_istore_n (lv' := [(1, .int (0 : Int32)), (0, .ref uD)]) hx hb dX0_numberAtHand_1 rfl jl (by decide) rfl (fun ls jl => ?_)
  refine lv_aload_n hx hb dX0_numberAtHand_2 rfl (lv_at jl 1 rfl) ?_
  refine va_get (D := D) (ci := 0) (v := .int D_x7) (C := RX0) (T := TX0) (N := 9) hx hb hts in0 hown jK.1 jP 0 rfl rfl 7 (by decide) (hts _ w_136) (fun _ h9 => h9) rfl dX0_numberAtHand_3 ?_
  refine lv_istore_n (lv' := [(2, .int D_x7), (1, .int (0 : Int32)), (0, .ref uD)]) hx hb dX0_numberAtHand_6 rfl jl (by decide) rfl (fun ls jl => ?_)
  obtain ⟨T1, hT1, hz1⟩ := bd_some h
  clear h
  have hE1 : ∀ (H : Heap) (locs : List Loc) (ls : Array Slot), va_P D vwCl (dW uD uE D_x1 D_x2 D_x3 D_x4 D_x5 D_x6 D_x7 D_x8 ++ (eW cB uE aE E_x1 E_r0)) H → va_D A (dW uD uE D_x1 D_x2 D_x3 D_x4 D_x5 D_x6 D_x7 D_x8 ++ (eW cB uE aE E_x1 E_r0)) → va_S A s.heap H locs → lv_has ls 3 [(1, .int T1)] → W p l e R s m ar below meth c H locs 0 0 QQ (F0 m 39 ls []) := by
    clear jP jD jS jl
    intro H locs ls jP jD jS jl
    refine lv_iload_n hx hb dX0_numberAtHand_39 rfl (lv_at jl 0 rfl) ?_
    obtain rfl := Option.some.inj hz1
    exact hRet _ _ _ _ jP jD jS dX0_numberAtHand_40
  have hL1 : ∀ (n : Nat) (v1 : (Int32 × Int32)), loopF (fX0_numberAtHand_b7 D_x4 E_r0) n v1 = some T1 → ∀ (H : Heap) (locs : List Loc) (ls : Array Slot), va_P D vwCl (dW uD uE D_x1 D_x2 D_x3 D_x4 D_x5 D_x6 D_x7 D_x8 ++ (eW cB uE aE E_x1 E_r0)) H → va_D A (dW uD uE D_x1 D_x2 D_x3 D_x4 D_x5 D_x6 D_x7 D_x8 ++ (eW cB uE aE E_x1 E_r0)) → va_S A s.heap H locs → lv_has ls 3 [(0, .ref uD), (1, .int v1.1), (2, .int v1.2)] → W p l e R s m ar below meth c H locs 0 0 QQ (F0 m 7 ls []) := by
    clear jP jD jS jl hT1
    intro n
    induction n with
    | zero => intro v1 hq; exact (loop_none hq).elim
    | succ n ih =>
      intro v1 hq H locs ls jP jD jS jl
      obtain ⟨o1, hv1, hq1⟩ := loop_some hq
      clear hq
      unfold fX0_numberAtHand_b7 at hv1
      refine lv_iload_n hx hb dX0_numberAtHand_7 rfl (lv_at jl 2 rfl) ?_
      refine lv_aload_n hx hb dX0_numberAtHand_8 rfl (lv_at jl 0 rfl) ?_
      refine va_get (D := D) (ci := 0) (v := .int D_x4) (C := RX0) (T := TX0) (N := 9) hx hb hts in0 hown jK.1 jP 0 rfl rfl 4 (by decide) (hts _ w_129) (fun _ h9 => h9) rfl dX0_numberAtHand_9 ?_
      refine lv_icmp_ge (tgt := 39) hx hb dX0_numberAtHand_12 (by decide) (fun c2 => ?_) (fun c2 => ?_)
      · have hv1 := itp c2 hv1
        obtain rfl := Option.some.inj hv1
        obtain rfl := nxt_r hq1
        exact hE1 _ _ _ jP jD jS (lv_sub jl [1] rfl)
      · have hv1 := itn c2 hv1
        refine lv_bipush (v := (10 : Int32)) hx hb dX0_numberAtHand_15 (by decide) ?_
        refine lv_iload_n hx hb dX0_numberAtHand_17 rfl (lv_at jl 1 rfl) ?_
        refine lv_imul hx hb dX0_numberAtHand_18 ?_
        refine lv_aload_n hx hb dX0_numberAtHand_19 rfl (lv_at jl 0 rfl) ?_
        refine va_get (D := D) (ci := 0) (v := .ref uE) (C := RX0) (T := TX0) (N := 9) hx hb hts in0 hown jK.1 jP 0 rfl rfl 0 (by decide) (hts _ w_45) (fun _ h9 => h9) rfl dX0_numberAtHand_20 ?_
        refine va_get (D := D) (ci := 3) (v := .ref (aE 0)) (C := RX3) (T := TX3) (N := 2) hx hb hts in3 hown jK.1 jP 1 rfl rfl 0 (by decide) (hts _ w_138) (fun _ h9 => h9) rfl dX0_numberAtHand_23 ?_
        refine lv_iload_n hx hb dX0_numberAtHand_26 rfl (lv_at jl 2 rfl) ?_
        obtain ⟨hin, hv1⟩ := ckI_some hv1
        refine va_bald (f := E_r0) hx hb jK.1 jP 2 1 rfl rfl hin dX0_numberAtHand_27 ?_
        refine lv_iadd hx hb dX0_numberAtHand_28 ?_
        refine lv_bipush (v := (48 : Int32)) hx hb dX0_numberAtHand_29 (by decide) ?_
        refine lv_isub hx hb dX0_numberAtHand_31 ?_
        refine lv_istore_n (lv' := [(1, .int ((((10 : Int32) * v1.1) + (E_r0 v1.2.toNatClampNeg)) - (48 : Int32))), (0, .ref uD), (2, .int v1.2)]) hx hb dX0_numberAtHand_32 rfl jl (by decide) rfl (fun ls jl => ?_)
        refine lv_iinc (v := (v1.2 + (1 : Int32))) (lv' := [(2, .int (v1.2 + (1 : Int32))), (1, .int ((((10 : Int32) * v1.1) + (E_r0 v1.2.toNatClampNeg)) - (48 : Int32))), (0, .ref uD)]) hx hb dX0_numberAtHand_33 jl (k := 2) rfl rfl (by decide) rfl (fun ls jl => ?_)
        refine lv_goto (tgt := 7) hx hb dX0_numberAtHand_36 (by decide) ?_
        obtain rfl := Option.some.inj hv1
        exact ih _ (nxt_l hq1) _ _ _ jP jD jS (lv_sub jl [2, 1, 0] rfl)
  exact hL1 1000 _ hT1 _ _ _ jP jD jS (lv_sub jl [2, 1, 0] rfl)
theorem okX0_nameAtHand : okV yX0_nameAtHand cX0_nameAtHand 3 (some .int) 0 := ⟨w_145, w_146, w_147, w_19, by decide, by decide, by decide +kernel⟩
def fX0_nameAtHand_b22 (D_x4 : Int32) (E_r0 : (Nat → Int32)) (v1 : (Int32 × Int32)) : Option ((Int32 × Int32) ⊕ Int32) :=
  if D_x4 ≤ v1.2 then (some (.inr v1.1)) else (ckI v1.2 240 (some (.inl (((v1.1 <<< ((8 : Int32) &&& 31)) ||| (E_r0 v1.2.toNatClampNeg)), (v1.2 + (1 : Int32))))))
def fX0_nameAtHand (D_x4 : Int32) (D_x7 : Int32) (E_r0 : (Nat → Int32)) : Option Int32 :=
  if (D_x4 - D_x7) = (4 : Int32) then (bd (loopF (fX0_nameAtHand_b22 D_x4 E_r0) 1000 ((0 : Int32), D_x7)) (fun T2 => some T2)) else (some (0 : Int32))
set_option maxRecDepth 100000 in
set_option maxHeartbeats 4000000 in
theorem kX0_nameAtHand (l : Launch) (D : va_G) (cI cB cS : ClassId) (uD : Nat) (D_x1 : Int32) (D_x2 : Int32) (D_x3 : Int32) (D_x4 : Int32) (D_x5 : Int32) (D_x6 : Int32) (D_x7 : Int32) (D_x8 : Int32) (uE : Nat) (aE : Nat → Nat) (E_x1 : Int32) (E_r0 : (Nat → Int32)) (z : Int32) (h : fX0_nameAtHand D_x4 D_x7 E_r0 = some z) : Mt l yX0_nameAtHand cX0_nameAtHand 3 (some .int) 0 0 D cI cB cS (dW uD uE D_x1 D_x2 D_x3 D_x4 D_x5 D_x6 D_x7 D_x8 ++ (eW cB uE aE E_x1 E_r0)) (dW uD uE D_x1 D_x2 D_x3 D_x4 D_x5 D_x6 D_x7 D_x8 ++ (eW cB uE aE E_x1 E_r0)) [.ref uD] (some (.int z)) := by
  refine entryI (by decide +kernel) rfl (Nat.le_of_ble_eq_true rfl) ?_
  intro p e s m below meth c A ls QQ R ar F hRet jP jD jS jl
  obtain ⟨hx, hb, hml, hown, hts, jK, hA, hf1, hf2⟩ := id F
  have jl : lv_has ls 3 [(0, .ref uD)] := jl
  unfold fX0_nameAtHand at h
  refine lv_aload_n hx hb dX0_nameAtHand_0 rfl (lv_at jl 0 rfl) ?_
  refine va_get (D := D) (ci := 0) (v := .int D_x4) (C := RX0) (T := TX0) (N := 9) hx hb hts in0 hown jK.1 jP 0 rfl rfl 4 (by decide) (hts _ w_129) (fun _ h9 => h9) rfl dX0_nameAtHand_1 ?_
  refine lv_aload_n hx hb dX0_nameAtHand_4 rfl (lv_at jl 0 rfl) ?_
  refine va_get (D := D) (ci := 0) (v := .int D_x7) (C := RX0) (T := TX0) (N := 9) hx hb hts in0 hown jK.1 jP 0 rfl rfl 7 (by decide) (hts _ w_136) (fun _ h9 => h9) rfl dX0_nameAtHand_5 ?_
  refine lv_isub hx hb dX0_nameAtHand_8 ?_
  refine lv_iconst (v := (4 : Int32)) hx hb dX0_nameAtHand_9 (by decide) ?_
  refine lv_icmp_eq (tgt := 15) hx hb dX0_nameAtHand_10 (by decide) (fun c1 => ?_) (fun c1 => ?_)
  · have h := itp c1 h
    refine lv_iconst (v := (0 : Int32)) hx hb dX0_nameAtHand_15 (by decide) ?_
    refine lv_istore_n (lv' := [(1, .int (0 : Int32)), (0, .ref uD)]) hx hb dX0_nameAtHand_16 rfl jl (by decide) rfl (fun ls jl => ?_)
    refine lv_aload_n hx hb dX0_nameAtHand_17 rfl (lv_at jl 1 rfl) ?_
    refine va_get (D := D) (ci := 0) (v := .int D_x7) (C := RX0) (T := TX0) (N := 9) hx hb hts in0 hown jK.1 jP 0 rfl rfl 7 (by decide) (hts _ w_136) (fun _ h9 => h9) rfl dX0_nameAtHand_18 ?_
    refine lv_istore_n (lv' := [(2, .int D_x7), (1, .int (0 : Int32)), (0, .ref uD)]) hx hb dX0_nameAtHand_21 rfl jl (by decide) rfl (fun ls jl => ?_)
    obtain ⟨T2, hT2, hz2⟩ := bd_some h
    clear h
    have hE2 : ∀ (H : Heap) (locs : List Loc) (ls : Array Slot), va_P D vwCl (dW uD uE D_x1 D_x2 D_x3 D_x4 D_x5 D_x6 D_x7 D_x8 ++ (eW cB uE aE E_x1 E_r0)) H → va_D A (dW uD uE D_x1 D_x2 D_x3 D_x4 D_x5 D_x6 D_x7 D_x8 ++ (eW cB uE aE E_x1 E_r0)) → va_S A s.heap H locs → lv_has ls 3 [(1, .int T2)] → W p l e R s m ar below meth c H locs 0 0 QQ (F0 m 51 ls []) := by
      clear jP jD jS jl
      intro H locs ls jP jD jS jl
      refine lv_iload_n hx hb dX0_nameAtHand_51 rfl (lv_at jl 0 rfl) ?_
      obtain rfl := Option.some.inj hz2
      exact hRet _ _ _ _ jP jD jS dX0_nameAtHand_52
    have hL2 : ∀ (n : Nat) (v2 : (Int32 × Int32)), loopF (fX0_nameAtHand_b22 D_x4 E_r0) n v2 = some T2 → ∀ (H : Heap) (locs : List Loc) (ls : Array Slot), va_P D vwCl (dW uD uE D_x1 D_x2 D_x3 D_x4 D_x5 D_x6 D_x7 D_x8 ++ (eW cB uE aE E_x1 E_r0)) H → va_D A (dW uD uE D_x1 D_x2 D_x3 D_x4 D_x5 D_x6 D_x7 D_x8 ++ (eW cB uE aE E_x1 E_r0)) → va_S A s.heap H locs → lv_has ls 3 [(0, .ref uD), (1, .int v2.1), (2, .int v2.2)] → W p l e R s m ar below meth c H locs 0 0 QQ (F0 m 22 ls []) := by
      clear jP jD jS jl hT2
      intro n
      induction n with
      | zero => intro v2 hq; exact (loop_none hq).elim
      | succ n ih =>
        intro v2 hq H locs ls jP jD jS jl
        obtain ⟨o2, hv2, hq2⟩ := loop_some hq
        clear hq
        unfold fX0_nameAtHand_b22 at hv2
        refine lv_iload_n hx hb dX0_nameAtHand_22 rfl (lv_at jl 2 rfl) ?_
        refine lv_aload_n hx hb dX0_nameAtHand_23 rfl (lv_at jl 0 rfl) ?_
        refine va_get (D := D) (ci := 0) (v := .int D_x4) (C := RX0) (T := TX0) (N := 9) hx hb hts in0 hown jK.1 jP 0 rfl rfl 4 (by decide) (hts _ w_129) (fun _ h9 => h9) rfl dX0_nameAtHand_24 ?_
        refine lv_icmp_ge (tgt := 51) hx hb dX0_nameAtHand_27 (by decide) (fun c3 => ?_) (fun c3 => ?_)
        · have hv2 := itp c3 hv2
          obtain rfl := Option.some.inj hv2
          obtain rfl := nxt_r hq2
          exact hE2 _ _ _ jP jD jS (lv_sub jl [1] rfl)
        · have hv2 := itn c3 hv2
          refine lv_iload_n hx hb dX0_nameAtHand_30 rfl (lv_at jl 1 rfl) ?_
          refine lv_bipush (v := (8 : Int32)) hx hb dX0_nameAtHand_31 (by decide) ?_
          refine lv_ishl hx hb dX0_nameAtHand_33 ?_
          refine lv_aload_n hx hb dX0_nameAtHand_34 rfl (lv_at jl 0 rfl) ?_
          refine va_get (D := D) (ci := 0) (v := .ref uE) (C := RX0) (T := TX0) (N := 9) hx hb hts in0 hown jK.1 jP 0 rfl rfl 0 (by decide) (hts _ w_45) (fun _ h9 => h9) rfl dX0_nameAtHand_35 ?_
          refine va_get (D := D) (ci := 3) (v := .ref (aE 0)) (C := RX3) (T := TX3) (N := 2) hx hb hts in3 hown jK.1 jP 1 rfl rfl 0 (by decide) (hts _ w_138) (fun _ h9 => h9) rfl dX0_nameAtHand_38 ?_
          refine lv_iload_n hx hb dX0_nameAtHand_41 rfl (lv_at jl 2 rfl) ?_
          obtain ⟨hin, hv2⟩ := ckI_some hv2
          refine va_bald (f := E_r0) hx hb jK.1 jP 2 1 rfl rfl hin dX0_nameAtHand_42 ?_
          refine lv_ior hx hb dX0_nameAtHand_43 ?_
          refine lv_istore_n (lv' := [(1, .int ((v2.1 <<< ((8 : Int32) &&& 31)) ||| (E_r0 v2.2.toNatClampNeg))), (0, .ref uD), (2, .int v2.2)]) hx hb dX0_nameAtHand_44 rfl jl (by decide) rfl (fun ls jl => ?_)
          refine lv_iinc (v := (v2.2 + (1 : Int32))) (lv' := [(2, .int (v2.2 + (1 : Int32))), (1, .int ((v2.1 <<< ((8 : Int32) &&& 31)) ||| (E_r0 v2.2.toNatClampNeg))), (0, .ref uD)]) hx hb dX0_nameAtHand_45 jl (k := 2) rfl rfl (by decide) rfl (fun ls jl => ?_)
          refine lv_goto (tgt := 22) hx hb dX0_nameAtHand_48 (by decide) ?_
          obtain rfl := Option.some.inj hv2
          exact ih _ (nxt_l hq2) _ _ _ jP jD jS (lv_sub jl [2, 1, 0] rfl)
    exact hL2 1000 _ hT2 _ _ _ jP jD jS (lv_sub jl [2, 1, 0] rfl)
  · have h := itn c1 h
    refine lv_iconst (v := (0 : Int32)) hx hb dX0_nameAtHand_13 (by decide) ?_
    obtain rfl := Option.some.inj h
    exact hRet _ _ _ _ jP jD jS dX0_nameAtHand_14
theorem okX0_refuse : okV yX0_refuse cX0_refuse 2 none 1 := ⟨w_156, w_157, w_158, w_19, by decide, by decide, by decide +kernel⟩
def fX0_refuse (D_x7 : Int32) (a1 : Int32) : Option (Int32 × Int32) :=
  some (a1, D_x7)
set_option maxRecDepth 100000 in
set_option maxHeartbeats 4000000 in
theorem kX0_refuse (l : Launch) (D : va_G) (cI cB cS : ClassId) (uD : Nat) (D_x1 : Int32) (D_x2 : Int32) (D_x3 : Int32) (D_x4 : Int32) (D_x5 : Int32) (D_x6 : Int32) (D_x7 : Int32) (D_x8 : Int32) (uE : Nat) (a1 : Int32) (z : (Int32 × Int32)) (h : fX0_refuse D_x7 a1 = some z) : Mt l yX0_refuse cX0_refuse 2 none 0 0 D cI cB cS (dW uD uE D_x1 D_x2 D_x3 D_x4 D_x5 D_x6 D_x7 D_x8) (dW uD uE z.1 z.2 D_x3 D_x4 D_x5 D_x6 D_x7 D_x8) [.ref uD, .int a1] none := by
  refine entryV (by decide +kernel) rfl (Nat.le_of_ble_eq_true rfl) ?_
  intro p e s m below meth c A ls QQ R ar F hRet jP jD jS jl
  obtain ⟨hx, hb, hml, hown, hts, jK, hA, hf1, hf2⟩ := id F
  have jl : lv_has ls 2 [(0, .ref uD), (1, .int a1)] := jl
  unfold fX0_refuse at h
  refine lv_aload_n hx hb dX0_refuse_0 rfl (lv_at jl 0 rfl) ?_
  refine lv_iload_n hx hb dX0_refuse_1 rfl (lv_at jl 1 rfl) ?_
  refine va_put (D := D) (ci := 0) (v := .int a1) (ty := .int) (C := RX0) (T := TX0) (N := 9) hx hb hts in0 tyX0 tyX0_ok nmX0 hown jK.1 jP jD jS 0 rfl rfl 1 (by decide) (hts _ w_126) (fun _ h9 => h9) rfl (by decide +kernel) rfl rfl (Nat.le_of_ble_eq_true rfl) dX0_refuse_2 (fun H locs jP jD jS => ?_)
  have jP : va_P D vwCl (dW uD uE a1 D_x2 D_x3 D_x4 D_x5 D_x6 D_x7 D_x8) H := jP
  have jD : va_D A (dW uD uE a1 D_x2 D_x3 D_x4 D_x5 D_x6 D_x7 D_x8) := jD
  refine lv_aload_n hx hb dX0_refuse_5 rfl (lv_at jl 0 rfl) ?_
  refine lv_aload_n hx hb dX0_refuse_6 rfl (lv_at jl 0 rfl) ?_
  refine va_get (D := D) (ci := 0) (v := .int D_x7) (C := RX0) (T := TX0) (N := 9) hx hb hts in0 hown jK.1 jP 0 rfl rfl 7 (by decide) (hts _ w_136) (fun _ h9 => h9) rfl dX0_refuse_7 ?_
  refine va_put (D := D) (ci := 0) (v := .int D_x7) (ty := .int) (C := RX0) (T := TX0) (N := 9) hx hb hts in0 tyX0 tyX0_ok nmX0 hown jK.1 jP jD jS 0 rfl rfl 2 (by decide) (hts _ w_127) (fun _ h9 => h9) rfl (by decide +kernel) rfl rfl (Nat.le_of_ble_eq_true rfl) dX0_refuse_10 (fun H locs jP jD jS => ?_)
  have jP : va_P D vwCl (dW uD uE a1 D_x7 D_x3 D_x4 D_x5 D_x6 D_x7 D_x8) H := jP
  have jD : va_D A (dW uD uE a1 D_x7 D_x3 D_x4 D_x5 D_x6 D_x7 D_x8) := jD
  obtain rfl := Option.some.inj h
  exact hRet _ _ _ _ jP jD jS dX0_refuse_13
theorem okX0_readToken : okV yX0_readToken cX0_readToken 3 none 0 := ⟨w_133, w_134, w_135, w_19, by decide, by decide, by decide +kernel⟩
def fX0_readToken (D_x1 : Int32) (D_x2 : Int32) (D_x4 : Int32) (D_x8 : Int32) (E_r0 : (Nat → Int32)) (E_x1 : Int32) : Option (Int32 × Int32 × Int32 × Int32 × Int32 × Int32) :=
  bd (fX0_endOfRun (E_r0) (E_x1) (D_x4) (32 : Int32) (32 : Int32)) (fun t1 => if t1 < E_x1 then (ckI t1 240 (bd (fX5_isWithin (E_r0 t1.toNatClampNeg) (97 : Int32) (122 : Int32)) (fun t4 => bd (if t4 = (0 : Int32) then (bd (fX5_isWithin (E_r0 t1.toNatClampNeg) (48 : Int32) (57 : Int32)) (fun t7 => if t7 = (0 : Int32) then (bd (if (E_r0 t1.toNatClampNeg) = (59 : Int32) then (some (1 : Int32)) else (some (0 : Int32))) (fun t11 => some (t11, (t1 + (1 : Int32)), (3 : Int32), D_x8))) else (bd (fX0_endOfRun (E_r0) (E_x1) t1 (48 : Int32) (57 : Int32)) (fun t12 => bd (fX0_numberAtHand t12 t1 (E_r0)) (fun t14 => bd (if (2 : Int32) < (t12 - t1) then (some (0 : Int32)) else (some (1 : Int32))) (fun t17 => some (t17, t12, (2 : Int32), t14))))))) else (bd (fX0_endOfRun (E_r0) (E_x1) t1 (97 : Int32) (122 : Int32)) (fun t18 => bd (fX0_nameAtHand t18 t1 (E_r0)) (fun t20 => bd (fX0_isKnown t20) (fun t22 => some (t22, t18, (1 : Int32), t20)))))) (fun t24 => if t24.1 = (0 : Int32) then (bd (fX0_refuse t1 (1 : Int32)) (fun t26 => some (t26.1, t26.2, t24.2.1, t24.2.2.1, t1, t24.2.2.2))) else (some (D_x1, D_x2, t24.2.1, t24.2.2.1, t1, t24.2.2.2)))))) else (some (D_x1, D_x2, t1, (0 : Int32), t1, D_x8)))
set_option maxRecDepth 100000 in
set_option maxHeartbeats 4000000 in
theorem kX0_readToken (l : Launch) (D : va_G) (cI cB cS : ClassId) (uD : Nat) (D_x1 : Int32) (D_x2 : Int32) (D_x3 : Int32) (D_x4 : Int32) (D_x5 : Int32) (D_x6 : Int32) (D_x7 : Int32) (D_x8 : Int32) (uE : Nat) (aE : Nat → Nat) (E_x1 : Int32) (E_r0 : (Nat → Int32)) (z : (Int32 × Int32 × Int32 × Int32 × Int32 × Int32)) (h : fX0_readToken D_x1 D_x2 D_x4 D_x8 E_r0 E_x1 = some z) : Mt l yX0_readToken cX0_readToken 3 none 1 24 D cI cB cS (dW uD uE D_x1 D_x2 D_x3 D_x4 D_x5 D_x6 D_x7 D_x8 ++ (eW cB uE aE E_x1 E_r0)) (dW uD uE z.1 z.2.1 D_x3 z.2.2.1 D_x5 z.2.2.2.1 z.2.2.2.2.1 z.2.2.2.2.2 ++ (eW cB uE aE E_x1 E_r0)) [.ref uD] none := by
  refine entryV (by decide +kernel) rfl (Nat.le_of_ble_eq_true rfl) ?_
  intro p e s m below meth c A ls QQ R ar F hRet jP jD jS jl
  obtain ⟨hx, hb, hml, hown, hts, jK, hA, hf1, hf2⟩ := id F
  have jl : lv_has ls 3 [(0, .ref uD)] := jl
  unfold fX0_readToken at h
  refine lv_aload_n hx hb dX0_readToken_0 rfl (lv_at jl 0 rfl) ?_
  refine lv_aload_n hx hb dX0_readToken_1 rfl (lv_at jl 0 rfl) ?_
  refine lv_aload_n hx hb dX0_readToken_2 rfl (lv_at jl 0 rfl) ?_
  refine va_get (D := D) (ci := 0) (v := .int D_x4) (C := RX0) (T := TX0) (N := 9) hx hb hts in0 hown jK.1 jP 0 rfl rfl 4 (by decide) (hts _ w_129) (fun _ h9 => h9) rfl dX0_readToken_3 ?_
  refine lv_bipush (v := (32 : Int32)) hx hb dX0_readToken_6 (by decide) ?_
  refine lv_bipush (v := (32 : Int32)) hx hb dX0_readToken_8 (by decide) ?_
  obtain ⟨t1, hc2, h⟩ := bd_some h
  refine callW (w1 := (dW uD uE D_x1 D_x2 D_x3 D_x4 D_x5 D_x6 D_x7 D_x8 ++ (eW cB uE aE E_x1 E_r0))) (As := [.int D_x4, .int (32 : Int32), .int (32 : Int32)]) (rest := [.ref uD]) (st1 := [.int t1, .ref uD]) 0 F (kX0_endOfRun l D cI cB cS uD D_x1 D_x2 D_x3 D_x4 D_x5 D_x6 D_x7 D_x8 uE aE E_x1 E_r0 D_x4 (32 : Int32) (32 : Int32) _ hc2 ) okX0_endOfRun w_140 (by decide) (by decide) ⟨Nat.zero_le _, Nat.zero_le _⟩ rfl rfl rfl jP jD jS rfl jl.1 rfl rfl (Nat.le_of_ble_eq_true rfl) dX0_readToken_10 (fun H locs jP jD jS => ?_)
  refine va_put (D := D) (ci := 0) (v := .int t1) (ty := .int) (C := RX0) (T := TX0) (N := 9) hx hb hts in0 tyX0 tyX0_ok nmX0 hown jK.1 jP jD jS 0 rfl rfl 4 (by decide) (hts _ w_129) (fun _ h9 => h9) rfl (by decide +kernel) rfl rfl (Nat.le_of_ble_eq_true rfl) dX0_readToken_13 (fun H locs jP jD jS => ?_)
  have jP : va_P D vwCl (dW uD uE D_x1 D_x2 D_x3 t1 D_x5 D_x6 D_x7 D_x8 ++ (eW cB uE aE E_x1 E_r0)) H := jP
  have jD : va_D A (dW uD uE D_x1 D_x2 D_x3 t1 D_x5 D_x6 D_x7 D_x8 ++ (eW cB uE aE E_x1 E_r0)) := jD
  refine lv_aload_n hx hb dX0_readToken_16 rfl (lv_at jl 0 rfl) ?_
  refine lv_aload_n hx hb dX0_readToken_17 rfl (lv_at jl 0 rfl) ?_
  refine va_get (D := D) (ci := 0) (v := .int t1) (C := RX0) (T := TX0) (N := 9) hx hb hts in0 hown jK.1 jP 0 rfl rfl 4 (by decide) (hts _ w_129) (fun _ h9 => h9) rfl dX0_readToken_18 ?_
  refine va_put (D := D) (ci := 0) (v := .int t1) (ty := .int) (C := RX0) (T := TX0) (N := 9) hx hb hts in0 tyX0 tyX0_ok nmX0 hown jK.1 jP jD jS 0 rfl rfl 7 (by decide) (hts _ w_136) (fun _ h9 => h9) rfl (by decide +kernel) rfl rfl (Nat.le_of_ble_eq_true rfl) dX0_readToken_21 (fun H locs jP jD jS => ?_)
  have jP : va_P D vwCl (dW uD uE D_x1 D_x2 D_x3 t1 D_x5 D_x6 t1 D_x8 ++ (eW cB uE aE E_x1 E_r0)) H := jP
  have jD : va_D A (dW uD uE D_x1 D_x2 D_x3 t1 D_x5 D_x6 t1 D_x8 ++ (eW cB uE aE E_x1 E_r0)) := jD
  refine lv_aload_n hx hb dX0_readToken_24 rfl (lv_at jl 0 rfl) ?_
  refine va_get (D := D) (ci := 0) (v := .int t1) (C := RX0) (T := TX0) (N := 9) hx hb hts in0 hown jK.1 jP 0 rfl rfl 4 (by decide) (hts _ w_129) (fun _ h9 => h9) rfl dX0_readToken_25 ?_
  refine lv_aload_n hx hb dX0_readToken_28 rfl (lv_at jl 0 rfl) ?_
  refine va_get (D := D) (ci := 0) (v := .ref uE) (C := RX0) (T := TX0) (N := 9) hx hb hts in0 hown jK.1 jP 0 rfl rfl 0 (by decide) (hts _ w_45) (fun _ h9 => h9) rfl dX0_readToken_29 ?_
  refine va_get (D := D) (ci := 3) (v := .int E_x1) (C := RX3) (T := TX3) (N := 2) hx hb hts in3 hown jK.1 jP 1 rfl rfl 1 (by decide) (hts _ w_137) (fun _ h9 => h9) rfl dX0_readToken_32 ?_
  refine lv_icmp_lt (tgt := 44) hx hb dX0_readToken_35 (by decide) (fun c3 => ?_) (fun c3 => ?_)
  · have h := itp c3 h
    refine lv_aload_n hx hb dX0_readToken_44 rfl (lv_at jl 0 rfl) ?_
    refine va_get (D := D) (ci := 0) (v := .ref uE) (C := RX0) (T := TX0) (N := 9) hx hb hts in0 hown jK.1 jP 0 rfl rfl 0 (by decide) (hts _ w_45) (fun _ h9 => h9) rfl dX0_readToken_45 ?_
    refine va_get (D := D) (ci := 3) (v := .ref (aE 0)) (C := RX3) (T := TX3) (N := 2) hx hb hts in3 hown jK.1 jP 1 rfl rfl 0 (by decide) (hts _ w_138) (fun _ h9 => h9) rfl dX0_readToken_48 ?_
    refine lv_aload_n hx hb dX0_readToken_51 rfl (lv_at jl 0 rfl) ?_
    refine va_get (D := D) (ci := 0) (v := .int t1) (C := RX0) (T := TX0) (N := 9) hx hb hts in0 hown jK.1 jP 0 rfl rfl 4 (by decide) (hts _ w_129) (fun _ h9 => h9) rfl dX0_readToken_52 ?_
    obtain ⟨hin, h⟩ := ckI_some h
    refine va_bald (f := E_r0) hx hb jK.1 jP 2 1 rfl rfl hin dX0_readToken_55 ?_
    refine lv_istore_n (lv' := [(1, .int (E_r0 t1.toNatClampNeg)), (0, .ref uD)]) hx hb dX0_readToken_56 rfl jl (by decide) rfl (fun ls jl => ?_)
    refine lv_iconst (v := (1 : Int32)) hx hb dX0_readToken_57 (by decide) ?_
    refine lv_istore_n (lv' := [(2, .int (1 : Int32)), (1, .int (E_r0 t1.toNatClampNeg)), (0, .ref uD)]) hx hb dX0_readToken_58 rfl jl (by decide) rfl (fun ls jl => ?_)
    refine lv_iload_n hx hb dX0_readToken_59 rfl (lv_at jl 1 rfl) ?_
    refine lv_bipush (v := (97 : Int32)) hx hb dX0_readToken_60 (by decide) ?_
    refine lv_bipush (v := (122 : Int32)) hx hb dX0_readToken_62 (by decide) ?_
    obtain ⟨t4, hc5, h⟩ := bd_some h
    refine call0N (As := [.int (E_r0 t1.toNatClampNeg), .int (97 : Int32), .int (122 : Int32)]) (rest := []) (st1 := [.int t4]) F (kX5_isWithin l D cI cB cS  (E_r0 t1.toNatClampNeg) (97 : Int32) (122 : Int32) _ hc5 ) okX5_isWithin nl_0 (by decide) (by decide) ⟨Nat.zero_le _, Nat.zero_le _⟩ jP jD jS rfl jl.1 rfl rfl (Nat.le_of_ble_eq_true rfl) dX0_readToken_64 (fun H locs jP jD jS => ?_)
    obtain ⟨t24, hvt24, h⟩ := bd_some h
    have hJt24 : ∀ (H : Heap) (locs : List Loc) (ls : Array Slot), va_P D vwCl (dW uD uE D_x1 D_x2 D_x3 t24.2.1 D_x5 t24.2.2.1 t1 t24.2.2.2 ++ (eW cB uE aE E_x1 E_r0)) H → va_D A (dW uD uE D_x1 D_x2 D_x3 t24.2.1 D_x5 t24.2.2.1 t1 t24.2.2.2 ++ (eW cB uE aE E_x1 E_r0)) → va_S A s.heap H locs → lv_has ls 3 [(0, .ref uD), (2, .int t24.1)] → W p l e R s m ar below meth c H locs 0 0 QQ (F0 m 199 ls []) := by
      clear jP jD jS jl
      intro H locs ls jP jD jS jl
      refine lv_iload_n hx hb dX0_readToken_199 rfl (lv_at jl 1 rfl) ?_
      refine lv_if_ne (tgt := 208) hx hb dX0_readToken_200 (by decide) (fun c25 => ?_) (fun c25 => ?_)
      · have h := itn c25 h
        obtain rfl := Option.some.inj h
        exact hRet _ _ _ _ jP jD jS dX0_readToken_208
      · have h := itp c25 h
        refine lv_aload_n hx hb dX0_readToken_203 rfl (lv_at jl 0 rfl) ?_
        refine lv_iconst (v := (1 : Int32)) hx hb dX0_readToken_204 (by decide) ?_
        obtain ⟨t26, hc27, h⟩ := bd_some h
        refine callP (wc := (dW uD uE D_x1 D_x2 D_x3 t24.2.1 D_x5 t24.2.2.1 t1 t24.2.2.2)) (wr := (eW cB uE aE E_x1 E_r0)) (w1 := (dW uD uE t26.1 t26.2 D_x3 t24.2.1 D_x5 t24.2.2.1 t1 t24.2.2.2)) (ws1 := (dW uD uE t26.1 t26.2 D_x3 t24.2.1 D_x5 t24.2.2.1 t1 t24.2.2.2 ++ (eW cB uE aE E_x1 E_r0))) (As := [.int (1 : Int32)]) (rest := []) (st1 := []) 0 [0] [1, 2] [2, 0, 1] F (kX0_refuse l D cI cB cS uD D_x1 D_x2 D_x3 t24.2.1 D_x5 t24.2.2.1 t1 t24.2.2.2 uE (1 : Int32) _ hc27 ) okX0_refuse w_155 (by decide) (by decide) ⟨Nat.zero_le _, Nat.zero_le _⟩ rfl rfl rfl jP jD jS rfl jl.1 rfl rfl (Nat.le_of_ble_eq_true rfl) dX0_readToken_205 rfl rfl (by decide) (by decide) (by decide) rfl (by decide) (fun H locs jP jD jS => ?_)
        obtain rfl := Option.some.inj h
        exact hRet _ _ _ _ jP jD jS dX0_readToken_208
    clear h
    refine lv_if_eq (tgt := 110) hx hb dX0_readToken_67 (by decide) (fun c6 => ?_) (fun c6 => ?_)
    · have hvt24 := itp c6 hvt24
      refine lv_iload_n hx hb dX0_readToken_110 rfl (lv_at jl 1 rfl) ?_
      refine lv_bipush (v := (48 : Int32)) hx hb dX0_readToken_111 (by decide) ?_
      refine lv_bipush (v := (57 : Int32)) hx hb dX0_readToken_113 (by decide) ?_
      obtain ⟨t7, hc8, hvt24⟩ := bd_some hvt24
      refine call0N (As := [.int (E_r0 t1.toNatClampNeg), .int (48 : Int32), .int (57 : Int32)]) (rest := []) (st1 := [.int t7]) F (kX5_isWithin l D cI cB cS  (E_r0 t1.toNatClampNeg) (48 : Int32) (57 : Int32) _ hc8 ) okX5_isWithin nl_0 (by decide) (by decide) ⟨Nat.zero_le _, Nat.zero_le _⟩ jP jD jS rfl jl.1 rfl rfl (Nat.le_of_ble_eq_true rfl) dX0_readToken_115 (fun H locs jP jD jS => ?_)
      refine lv_if_eq (tgt := 172) hx hb dX0_readToken_118 (by decide) (fun c9 => ?_) (fun c9 => ?_)
      · have hvt24 := itp c9 hvt24
        refine lv_aload_n hx hb dX0_readToken_172 rfl (lv_at jl 2 rfl) ?_
        refine lv_iconst (v := (3 : Int32)) hx hb dX0_readToken_173 (by decide) ?_
        refine va_put (D := D) (ci := 0) (v := .int (3 : Int32)) (ty := .int) (C := RX0) (T := TX0) (N := 9) hx hb hts in0 tyX0 tyX0_ok nmX0 hown jK.1 jP jD jS 0 rfl rfl 6 (by decide) (hts _ w_131) (fun _ h9 => h9) rfl (by decide +kernel) rfl rfl (Nat.le_of_ble_eq_true rfl) dX0_readToken_174 (fun H locs jP jD jS => ?_)
        have jP : va_P D vwCl (dW uD uE D_x1 D_x2 D_x3 t1 D_x5 (3 : Int32) t1 D_x8 ++ (eW cB uE aE E_x1 E_r0)) H := jP
        have jD : va_D A (dW uD uE D_x1 D_x2 D_x3 t1 D_x5 (3 : Int32) t1 D_x8 ++ (eW cB uE aE E_x1 E_r0)) := jD
        refine lv_aload_n hx hb dX0_readToken_177 rfl (lv_at jl 2 rfl) ?_
        refine lv_dup hx hb dX0_readToken_178 rfl ?_
        refine va_get (D := D) (ci := 0) (v := .int t1) (C := RX0) (T := TX0) (N := 9) hx hb hts in0 hown jK.1 jP 0 rfl rfl 4 (by decide) (hts _ w_129) (fun _ h9 => h9) rfl dX0_readToken_179 ?_
        refine lv_iconst (v := (1 : Int32)) hx hb dX0_readToken_182 (by decide) ?_
        refine lv_iadd hx hb dX0_readToken_183 ?_
        refine va_put (D := D) (ci := 0) (v := .int (t1 + (1 : Int32))) (ty := .int) (C := RX0) (T := TX0) (N := 9) hx hb hts in0 tyX0 tyX0_ok nmX0 hown jK.1 jP jD jS 0 rfl rfl 4 (by decide) (hts _ w_129) (fun _ h9 => h9) rfl (by decide +kernel) rfl rfl (Nat.le_of_ble_eq_true rfl) dX0_readToken_184 (fun H locs jP jD jS => ?_)
        have jP : va_P D vwCl (dW uD uE D_x1 D_x2 D_x3 (t1 + (1 : Int32)) D_x5 (3 : Int32) t1 D_x8 ++ (eW cB uE aE E_x1 E_r0)) H := jP
        have jD : va_D A (dW uD uE D_x1 D_x2 D_x3 (t1 + (1 : Int32)) D_x5 (3 : Int32) t1 D_x8 ++ (eW cB uE aE E_x1 E_r0)) := jD
        refine lv_iload_n hx hb dX0_readToken_187 rfl (lv_at jl 1 rfl) ?_
        refine lv_bipush (v := (59 : Int32)) hx hb dX0_readToken_188 (by decide) ?_
        obtain ⟨t11, hvt11, hvt24⟩ := bd_some hvt24
        have hJt11 : ∀ (H : Heap) (locs : List Loc) (ls : Array Slot), va_P D vwCl (dW uD uE D_x1 D_x2 D_x3 (t1 + (1 : Int32)) D_x5 (3 : Int32) t1 D_x8 ++ (eW cB uE aE E_x1 E_r0)) H → va_D A (dW uD uE D_x1 D_x2 D_x3 (t1 + (1 : Int32)) D_x5 (3 : Int32) t1 D_x8 ++ (eW cB uE aE E_x1 E_r0)) → va_S A s.heap H locs → lv_has ls 3 [(0, .ref uD)] → W p l e R s m ar below meth c H locs 0 0 QQ (F0 m 198 ls [.int t11]) := by
          clear jP jD jS jl
          intro H locs ls jP jD jS jl
          refine lv_istore_n (lv' := [(2, .int t11), (0, .ref uD)]) hx hb dX0_readToken_198 rfl jl (by decide) rfl (fun ls jl => ?_)
          obtain rfl := Option.some.inj hvt24
          exact hJt24 _ _ _ jP jD jS (lv_sub jl [1, 0] rfl)
        clear hvt24
        refine lv_icmp_ne (tgt := 197) hx hb dX0_readToken_190 (by decide) (fun c10 => ?_) (fun c10 => ?_)
        · have hvt11 := itn c10 hvt11
          refine lv_iconst (v := (0 : Int32)) hx hb dX0_readToken_197 (by decide) ?_
          obtain rfl := Option.some.inj hvt11
          exact hJt11 _ _ _ jP jD jS (lv_sub jl [2] rfl)
        · have hvt11 := itp c10 hvt11
          refine lv_iconst (v := (1 : Int32)) hx hb dX0_readToken_193 (by decide) ?_
          refine lv_goto (tgt := 198) hx hb dX0_readToken_194 (by decide) ?_
          obtain rfl := Option.some.inj hvt11
          exact hJt11 _ _ _ jP jD jS (lv_sub jl [2] rfl)
      · have hvt24 := itn c9 hvt24
        refine lv_aload_n hx hb dX0_readToken_121 rfl (lv_at jl 2 rfl) ?_
        refine lv_iconst (v := (2 : Int32)) hx hb dX0_readToken_122 (by decide) ?_
        refine va_put (D := D) (ci := 0) (v := .int (2 : Int32)) (ty := .int) (C := RX0) (T := TX0) (N := 9) hx hb hts in0 tyX0 tyX0_ok nmX0 hown jK.1 jP jD jS 0 rfl rfl 6 (by decide) (hts _ w_131) (fun _ h9 => h9) rfl (by decide +kernel) rfl rfl (Nat.le_of_ble_eq_true rfl) dX0_readToken_123 (fun H locs jP jD jS => ?_)
        have jP : va_P D vwCl (dW uD uE D_x1 D_x2 D_x3 t1 D_x5 (2 : Int32) t1 D_x8 ++ (eW cB uE aE E_x1 E_r0)) H := jP
        have jD : va_D A (dW uD uE D_x1 D_x2 D_x3 t1 D_x5 (2 : Int32) t1 D_x8 ++ (eW cB uE aE E_x1 E_r0)) := jD
        refine lv_aload_n hx hb dX0_readToken_126 rfl (lv_at jl 2 rfl) ?_
        refine lv_aload_n hx hb dX0_readToken_127 rfl (lv_at jl 2 rfl) ?_
        refine lv_aload_n hx hb dX0_readToken_128 rfl (lv_at jl 2 rfl) ?_
        refine va_get (D := D) (ci := 0) (v := .int t1) (C := RX0) (T := TX0) (N := 9) hx hb hts in0 hown jK.1 jP 0 rfl rfl 4 (by decide) (hts _ w_129) (fun _ h9 => h9) rfl dX0_readToken_129 ?_
        refine lv_bipush (v := (48 : Int32)) hx hb dX0_readToken_132 (by decide) ?_
        refine lv_bipush (v := (57 : Int32)) hx hb dX0_readToken_134 (by decide) ?_
        obtain ⟨t12, hc13, hvt24⟩ := bd_some hvt24
        refine callW (w1 := (dW uD uE D_x1 D_x2 D_x3 t1 D_x5 (2 : Int32) t1 D_x8 ++ (eW cB uE aE E_x1 E_r0))) (As := [.int t1, .int (48 : Int32), .int (57 : Int32)]) (rest := [.ref uD]) (st1 := [.int t12, .ref uD]) 0 F (kX0_endOfRun l D cI cB cS uD D_x1 D_x2 D_x3 t1 D_x5 (2 : Int32) t1 D_x8 uE aE E_x1 E_r0 t1 (48 : Int32) (57 : Int32) _ hc13 ) okX0_endOfRun w_140 (by decide) (by decide) ⟨Nat.zero_le _, Nat.zero_le _⟩ rfl rfl rfl jP jD jS rfl jl.1 rfl rfl (Nat.le_of_ble_eq_true rfl) dX0_readToken_136 (fun H locs jP jD jS => ?_)
        refine va_put (D := D) (ci := 0) (v := .int t12) (ty := .int) (C := RX0) (T := TX0) (N := 9) hx hb hts in0 tyX0 tyX0_ok nmX0 hown jK.1 jP jD jS 0 rfl rfl 4 (by decide) (hts _ w_129) (fun _ h9 => h9) rfl (by decide +kernel) rfl rfl (Nat.le_of_ble_eq_true rfl) dX0_readToken_139 (fun H locs jP jD jS => ?_)
        have jP : va_P D vwCl (dW uD uE D_x1 D_x2 D_x3 t12 D_x5 (2 : Int32) t1 D_x8 ++ (eW cB uE aE E_x1 E_r0)) H := jP
        have jD : va_D A (dW uD uE D_x1 D_x2 D_x3 t12 D_x5 (2 : Int32) t1 D_x8 ++ (eW cB uE aE E_x1 E_r0)) := jD
        refine lv_aload_n hx hb dX0_readToken_142 rfl (lv_at jl 2 rfl) ?_
        refine lv_aload_n hx hb dX0_readToken_143 rfl (lv_at jl 2 rfl) ?_
        obtain ⟨t14, hc15, hvt24⟩ := bd_some hvt24
        refine callW (w1 := (dW uD uE D_x1 D_x2 D_x3 t12 D_x5 (2 : Int32) t1 D_x8 ++ (eW cB uE aE E_x1 E_r0))) (As := []) (rest := [.ref uD]) (st1 := [.int t14, .ref uD]) 0 F (kX0_numberAtHand l D cI cB cS uD D_x1 D_x2 D_x3 t12 D_x5 (2 : Int32) t1 D_x8 uE aE E_x1 E_r0  _ hc15 ) okX0_numberAtHand w_151 (by decide) (by decide) ⟨Nat.zero_le _, Nat.zero_le _⟩ rfl rfl rfl jP jD jS rfl jl.1 rfl rfl (Nat.le_of_ble_eq_true rfl) dX0_readToken_144 (fun H locs jP jD jS => ?_)
        refine va_put (D := D) (ci := 0) (v := .int t14) (ty := .int) (C := RX0) (T := TX0) (N := 9) hx hb hts in0 tyX0 tyX0_ok nmX0 hown jK.1 jP jD jS 0 rfl rfl 8 (by decide) (hts _ w_139) (fun _ h9 => h9) rfl (by decide +kernel) rfl rfl (Nat.le_of_ble_eq_true rfl) dX0_readToken_147 (fun H locs jP jD jS => ?_)
        have jP : va_P D vwCl (dW uD uE D_x1 D_x2 D_x3 t12 D_x5 (2 : Int32) t1 t14 ++ (eW cB uE aE E_x1 E_r0)) H := jP
        have jD : va_D A (dW uD uE D_x1 D_x2 D_x3 t12 D_x5 (2 : Int32) t1 t14 ++ (eW cB uE aE E_x1 E_r0)) := jD
        refine lv_aload_n hx hb dX0_readToken_150 rfl (lv_at jl 2 rfl) ?_
        refine va_get (D := D) (ci := 0) (v := .int t12) (C := RX0) (T := TX0) (N := 9) hx hb hts in0 hown jK.1 jP 0 rfl rfl 4 (by decide) (hts _ w_129) (fun _ h9 => h9) rfl dX0_readToken_151 ?_
        refine lv_aload_n hx hb dX0_readToken_154 rfl (lv_at jl 2 rfl) ?_
        refine va_get (D := D) (ci := 0) (v := .int t1) (C := RX0) (T := TX0) (N := 9) hx hb hts in0 hown jK.1 jP 0 rfl rfl 7 (by decide) (hts _ w_136) (fun _ h9 => h9) rfl dX0_readToken_155 ?_
        refine lv_isub hx hb dX0_readToken_158 ?_
        refine lv_iconst (v := (2 : Int32)) hx hb dX0_readToken_159 (by decide) ?_
        obtain ⟨t17, hvt17, hvt24⟩ := bd_some hvt24
        have hJt17 : ∀ (H : Heap) (locs : List Loc) (ls : Array Slot), va_P D vwCl (dW uD uE D_x1 D_x2 D_x3 t12 D_x5 (2 : Int32) t1 t14 ++ (eW cB uE aE E_x1 E_r0)) H → va_D A (dW uD uE D_x1 D_x2 D_x3 t12 D_x5 (2 : Int32) t1 t14 ++ (eW cB uE aE E_x1 E_r0)) → va_S A s.heap H locs → lv_has ls 3 [(0, .ref uD)] → W p l e R s m ar below meth c H locs 0 0 QQ (F0 m 168 ls [.int t17]) := by
          clear jP jD jS jl
          intro H locs ls jP jD jS jl
          refine lv_istore_n (lv' := [(2, .int t17), (0, .ref uD)]) hx hb dX0_readToken_168 rfl jl (by decide) rfl (fun ls jl => ?_)
          refine lv_goto (tgt := 199) hx hb dX0_readToken_169 (by decide) ?_
          obtain rfl := Option.some.inj hvt24
          exact hJt24 _ _ _ jP jD jS (lv_sub jl [1, 0] rfl)
        clear hvt24
        refine lv_icmp_gt (tgt := 167) hx hb dX0_readToken_160 (by decide) (fun c16 => ?_) (fun c16 => ?_)
        · have hvt17 := itp c16 hvt17
          refine lv_iconst (v := (0 : Int32)) hx hb dX0_readToken_167 (by decide) ?_
          obtain rfl := Option.some.inj hvt17
          exact hJt17 _ _ _ jP jD jS (lv_sub jl [2] rfl)
        · have hvt17 := itn c16 hvt17
          refine lv_iconst (v := (1 : Int32)) hx hb dX0_readToken_163 (by decide) ?_
          refine lv_goto (tgt := 168) hx hb dX0_readToken_164 (by decide) ?_
          obtain rfl := Option.some.inj hvt17
          exact hJt17 _ _ _ jP jD jS (lv_sub jl [2] rfl)
    · have hvt24 := itn c6 hvt24
      refine lv_aload_n hx hb dX0_readToken_70 rfl (lv_at jl 2 rfl) ?_
      refine lv_iconst (v := (1 : Int32)) hx hb dX0_readToken_71 (by decide) ?_
      refine va_put (D := D) (ci := 0) (v := .int (1 : Int32)) (ty := .int) (C := RX0) (T := TX0) (N := 9) hx hb hts in0 tyX0 tyX0_ok nmX0 hown jK.1 jP jD jS 0 rfl rfl 6 (by decide) (hts _ w_131) (fun _ h9 => h9) rfl (by decide +kernel) rfl rfl (Nat.le_of_ble_eq_true rfl) dX0_readToken_72 (fun H locs jP jD jS => ?_)
      have jP : va_P D vwCl (dW uD uE D_x1 D_x2 D_x3 t1 D_x5 (1 : Int32) t1 D_x8 ++ (eW cB uE aE E_x1 E_r0)) H := jP
      have jD : va_D A (dW uD uE D_x1 D_x2 D_x3 t1 D_x5 (1 : Int32) t1 D_x8 ++ (eW cB uE aE E_x1 E_r0)) := jD
      refine lv_aload_n hx hb dX0_readToken_75 rfl (lv_at jl 2 rfl) ?_
      refine lv_aload_n hx hb dX0_readToken_76 rfl (lv_at jl 2 rfl) ?_
      refine lv_aload_n hx hb dX0_readToken_77 rfl (lv_at jl 2 rfl) ?_
      refine va_get (D := D) (ci := 0) (v := .int t1) (C := RX0) (T := TX0) (N := 9) hx hb hts in0 hown jK.1 jP 0 rfl rfl 4 (by decide) (hts _ w_129) (fun _ h9 => h9) rfl dX0_readToken_78 ?_
      refine lv_bipush (v := (97 : Int32)) hx hb dX0_readToken_81 (by decide) ?_
      refine lv_bipush (v := (122 : Int32)) hx hb dX0_readToken_83 (by decide) ?_
      obtain ⟨t18, hc19, hvt24⟩ := bd_some hvt24
      refine callW (w1 := (dW uD uE D_x1 D_x2 D_x3 t1 D_x5 (1 : Int32) t1 D_x8 ++ (eW cB uE aE E_x1 E_r0))) (As := [.int t1, .int (97 : Int32), .int (122 : Int32)]) (rest := [.ref uD]) (st1 := [.int t18, .ref uD]) 0 F (kX0_endOfRun l D cI cB cS uD D_x1 D_x2 D_x3 t1 D_x5 (1 : Int32) t1 D_x8 uE aE E_x1 E_r0 t1 (97 : Int32) (122 : Int32) _ hc19 ) okX0_endOfRun w_140 (by decide) (by decide) ⟨Nat.zero_le _, Nat.zero_le _⟩ rfl rfl rfl jP jD jS rfl jl.1 rfl rfl (Nat.le_of_ble_eq_true rfl) dX0_readToken_85 (fun H locs jP jD jS => ?_)
      refine va_put (D := D) (ci := 0) (v := .int t18) (ty := .int) (C := RX0) (T := TX0) (N := 9) hx hb hts in0 tyX0 tyX0_ok nmX0 hown jK.1 jP jD jS 0 rfl rfl 4 (by decide) (hts _ w_129) (fun _ h9 => h9) rfl (by decide +kernel) rfl rfl (Nat.le_of_ble_eq_true rfl) dX0_readToken_88 (fun H locs jP jD jS => ?_)
      have jP : va_P D vwCl (dW uD uE D_x1 D_x2 D_x3 t18 D_x5 (1 : Int32) t1 D_x8 ++ (eW cB uE aE E_x1 E_r0)) H := jP
      have jD : va_D A (dW uD uE D_x1 D_x2 D_x3 t18 D_x5 (1 : Int32) t1 D_x8 ++ (eW cB uE aE E_x1 E_r0)) := jD
      refine lv_aload_n hx hb dX0_readToken_91 rfl (lv_at jl 2 rfl) ?_
      refine lv_aload_n hx hb dX0_readToken_92 rfl (lv_at jl 2 rfl) ?_
      obtain ⟨t20, hc21, hvt24⟩ := bd_some hvt24
      refine callW (w1 := (dW uD uE D_x1 D_x2 D_x3 t18 D_x5 (1 : Int32) t1 D_x8 ++ (eW cB uE aE E_x1 E_r0))) (As := []) (rest := [.ref uD]) (st1 := [.int t20, .ref uD]) 0 F (kX0_nameAtHand l D cI cB cS uD D_x1 D_x2 D_x3 t18 D_x5 (1 : Int32) t1 D_x8 uE aE E_x1 E_r0  _ hc21 ) okX0_nameAtHand w_144 (by decide) (by decide) ⟨Nat.zero_le _, Nat.zero_le _⟩ rfl rfl rfl jP jD jS rfl jl.1 rfl rfl (Nat.le_of_ble_eq_true rfl) dX0_readToken_93 (fun H locs jP jD jS => ?_)
      refine va_put (D := D) (ci := 0) (v := .int t20) (ty := .int) (C := RX0) (T := TX0) (N := 9) hx hb hts in0 tyX0 tyX0_ok nmX0 hown jK.1 jP jD jS 0 rfl rfl 8 (by decide) (hts _ w_139) (fun _ h9 => h9) rfl (by decide +kernel) rfl rfl (Nat.le_of_ble_eq_true rfl) dX0_readToken_96 (fun H locs jP jD jS => ?_)
      have jP : va_P D vwCl (dW uD uE D_x1 D_x2 D_x3 t18 D_x5 (1 : Int32) t1 t20 ++ (eW cB uE aE E_x1 E_r0)) H := jP
      have jD : va_D A (dW uD uE D_x1 D_x2 D_x3 t18 D_x5 (1 : Int32) t1 t20 ++ (eW cB uE aE E_x1 E_r0)) := jD
      refine lv_aload_n hx hb dX0_readToken_99 rfl (lv_at jl 2 rfl) ?_
      refine va_get (D := D) (ci := 0) (v := .int t20) (C := RX0) (T := TX0) (N := 9) hx hb hts in0 hown jK.1 jP 0 rfl rfl 8 (by decide) (hts _ w_139) (fun _ h9 => h9) rfl dX0_readToken_100 ?_
      obtain ⟨t22, hc23, hvt24⟩ := bd_some hvt24
      refine call0 (As := [.int t20]) (rest := []) (st1 := [.int t22]) F (kX0_isKnown l D cI cB cS  t20 _ hc23 ) okX0_isKnown w_148 (by decide) (by decide) ⟨Nat.zero_le _, Nat.zero_le _⟩ jP jD jS rfl jl.1 rfl rfl (Nat.le_of_ble_eq_true rfl) dX0_readToken_103 (fun H locs jP jD jS => ?_)
      refine lv_istore_n (lv' := [(2, .int t22), (1, .int (E_r0 t1.toNatClampNeg)), (0, .ref uD)]) hx hb dX0_readToken_106 rfl jl (by decide) rfl (fun ls jl => ?_)
      refine lv_goto (tgt := 199) hx hb dX0_readToken_107 (by decide) ?_
      obtain rfl := Option.some.inj hvt24
      exact hJt24 _ _ _ jP jD jS (lv_sub jl [2, 0] rfl)
  · have h := itn c3 h
    refine lv_aload_n hx hb dX0_readToken_38 rfl (lv_at jl 0 rfl) ?_
    refine lv_iconst (v := (0 : Int32)) hx hb dX0_readToken_39 (by decide) ?_
    refine va_put (D := D) (ci := 0) (v := .int (0 : Int32)) (ty := .int) (C := RX0) (T := TX0) (N := 9) hx hb hts in0 tyX0 tyX0_ok nmX0 hown jK.1 jP jD jS 0 rfl rfl 6 (by decide) (hts _ w_131) (fun _ h9 => h9) rfl (by decide +kernel) rfl rfl (Nat.le_of_ble_eq_true rfl) dX0_readToken_40 (fun H locs jP jD jS => ?_)
    have jP : va_P D vwCl (dW uD uE D_x1 D_x2 D_x3 t1 D_x5 (0 : Int32) t1 D_x8 ++ (eW cB uE aE E_x1 E_r0)) H := jP
    have jD : va_D A (dW uD uE D_x1 D_x2 D_x3 t1 D_x5 (0 : Int32) t1 D_x8 ++ (eW cB uE aE E_x1 E_r0)) := jD
    obtain rfl := Option.some.inj h
    exact hRet _ _ _ _ jP jD jS dX0_readToken_43
theorem okX0_tellOnce : okV yX0_tellOnce cX0_tellOnce 2 none 1 := ⟨w_182, w_183, w_184, w_19, by decide, by decide, by decide +kernel⟩
def fX0_tellOnce (D_x1 : Int32) (D_x2 : Int32) (D_x5 : Int32) (D_x7 : Int32) (a1 : Int32) : Option (Int32 × Int32 × Int32) :=
  bd (if D_x1 = (0 : Int32) then (if ((D_x5 >>> (a1 &&& 31)) &&& (1 : Int32)) = (0 : Int32) then (some (D_x1, D_x2)) else (bd (fX0_refuse (D_x7) (4 : Int32)) (fun t3 => some (t3.1, t3.2)))) else (some (D_x1, D_x2))) (fun t5 => some (t5.1, t5.2, (D_x5 ||| ((1 : Int32) <<< (a1 &&& 31)))))
set_option maxRecDepth 100000 in
set_option maxHeartbeats 4000000 in
theorem kX0_tellOnce (l : Launch) (D : va_G) (cI cB cS : ClassId) (uD : Nat) (D_x1 : Int32) (D_x2 : Int32) (D_x3 : Int32) (D_x4 : Int32) (D_x5 : Int32) (D_x6 : Int32) (D_x7 : Int32) (D_x8 : Int32) (uE : Nat) (a1 : Int32) (z : (Int32 × Int32 × Int32)) (h : fX0_tellOnce D_x1 D_x2 D_x5 D_x7 a1 = some z) : Mt l yX0_tellOnce cX0_tellOnce 2 none 1 21 D cI cB cS (dW uD uE D_x1 D_x2 D_x3 D_x4 D_x5 D_x6 D_x7 D_x8) (dW uD uE z.1 z.2.1 D_x3 D_x4 z.2.2 D_x6 D_x7 D_x8) [.ref uD, .int a1] none := by
  refine entryV (by decide +kernel) rfl (Nat.le_of_ble_eq_true rfl) ?_
  intro p e s m below meth c A ls QQ R ar F hRet jP jD jS jl
  obtain ⟨hx, hb, hml, hown, hts, jK, hA, hf1, hf2⟩ := id F
  have jl : lv_has ls 2 [(0, .ref uD), (1, .int a1)] := jl
  unfold fX0_tellOnce at h
  refine lv_aload_n hx hb dX0_tellOnce_0 rfl (lv_at jl 0 rfl) ?_
  refine va_get (D := D) (ci := 0) (v := .int D_x1) (C := RX0) (T := TX0) (N := 9) hx hb hts in0 hown jK.1 jP 0 rfl rfl 1 (by decide) (hts _ w_126) (fun _ h9 => h9) rfl dX0_tellOnce_1 ?_
  obtain ⟨t5, hvt5, h⟩ := bd_some h
  have hJt5 : ∀ (H : Heap) (locs : List Loc) (ls : Array Slot), va_P D vwCl (dW uD uE t5.1 t5.2 D_x3 D_x4 D_x5 D_x6 D_x7 D_x8) H → va_D A (dW uD uE t5.1 t5.2 D_x3 D_x4 D_x5 D_x6 D_x7 D_x8) → va_S A s.heap H locs → lv_has ls 2 [(0, .ref uD), (1, .int a1)] → W p l e R s m ar below meth c H locs 0 0 QQ (F0 m 23 ls []) := by
    clear jP jD jS jl
    intro H locs ls jP jD jS jl
    refine lv_aload_n hx hb dX0_tellOnce_23 rfl (lv_at jl 0 rfl) ?_
    refine lv_dup hx hb dX0_tellOnce_24 rfl ?_
    refine va_get (D := D) (ci := 0) (v := .int D_x5) (C := RX0) (T := TX0) (N := 9) hx hb hts in0 hown jK.1 jP 0 rfl rfl 5 (by decide) (hts _ w_130) (fun _ h9 => h9) rfl dX0_tellOnce_25 ?_
    refine lv_iconst (v := (1 : Int32)) hx hb dX0_tellOnce_28 (by decide) ?_
    refine lv_iload_n hx hb dX0_tellOnce_29 rfl (lv_at jl 1 rfl) ?_
    refine lv_ishl hx hb dX0_tellOnce_30 ?_
    refine lv_ior hx hb dX0_tellOnce_31 ?_
    refine va_put (D := D) (ci := 0) (v := .int (D_x5 ||| ((1 : Int32) <<< (a1 &&& 31)))) (ty := .int) (C := RX0) (T := TX0) (N := 9) hx hb hts in0 tyX0 tyX0_ok nmX0 hown jK.1 jP jD jS 0 rfl rfl 5 (by decide) (hts _ w_130) (fun _ h9 => h9) rfl (by decide +kernel) rfl rfl (Nat.le_of_ble_eq_true rfl) dX0_tellOnce_32 (fun H locs jP jD jS => ?_)
    have jP : va_P D vwCl (dW uD uE t5.1 t5.2 D_x3 D_x4 (D_x5 ||| ((1 : Int32) <<< (a1 &&& 31))) D_x6 D_x7 D_x8) H := jP
    have jD : va_D A (dW uD uE t5.1 t5.2 D_x3 D_x4 (D_x5 ||| ((1 : Int32) <<< (a1 &&& 31))) D_x6 D_x7 D_x8) := jD
    obtain rfl := Option.some.inj h
    exact hRet _ _ _ _ jP jD jS dX0_tellOnce_35
  clear h
  refine lv_if_ne (tgt := 23) hx hb dX0_tellOnce_4 (by decide) (fun c1 => ?_) (fun c1 => ?_)
  · have hvt5 := itn c1 hvt5
    obtain rfl := Option.some.inj hvt5
    exact hJt5 _ _ _ jP jD jS (lv_sub jl [0, 1] rfl)
  · have hvt5 := itp c1 hvt5
    refine lv_aload_n hx hb dX0_tellOnce_7 rfl (lv_at jl 0 rfl) ?_
    refine va_get (D := D) (ci := 0) (v := .int D_x5) (C := RX0) (T := TX0) (N := 9) hx hb hts in0 hown jK.1 jP 0 rfl rfl 5 (by decide) (hts _ w_130) (fun _ h9 => h9) rfl dX0_tellOnce_8 ?_
    refine lv_iload_n hx hb dX0_tellOnce_11 rfl (lv_at jl 1 rfl) ?_
    refine lv_ishr hx hb dX0_tellOnce_12 ?_
    refine lv_iconst (v := (1 : Int32)) hx hb dX0_tellOnce_13 (by decide) ?_
    refine lv_iand hx hb dX0_tellOnce_14 ?_
    refine lv_if_eq (tgt := 23) hx hb dX0_tellOnce_15 (by decide) (fun c2 => ?_) (fun c2 => ?_)
    · have hvt5 := itp c2 hvt5
      obtain rfl := Option.some.inj hvt5
      exact hJt5 _ _ _ jP jD jS (lv_sub jl [0, 1] rfl)
    · have hvt5 := itn c2 hvt5
      refine lv_aload_n hx hb dX0_tellOnce_18 rfl (lv_at jl 0 rfl) ?_
      refine lv_iconst (v := (4 : Int32)) hx hb dX0_tellOnce_19 (by decide) ?_
      obtain ⟨t3, hc4, hvt5⟩ := bd_some hvt5
      refine callW (w1 := (dW uD uE t3.1 t3.2 D_x3 D_x4 D_x5 D_x6 D_x7 D_x8)) (As := [.int (4 : Int32)]) (rest := []) (st1 := []) 0 F (kX0_refuse l D cI cB cS uD D_x1 D_x2 D_x3 D_x4 D_x5 D_x6 D_x7 D_x8 uE (4 : Int32) _ hc4 ) okX0_refuse w_155 (by decide) (by decide) ⟨Nat.zero_le _, Nat.zero_le _⟩ rfl rfl rfl jP jD jS rfl jl.1 rfl rfl (Nat.le_of_ble_eq_true rfl) dX0_tellOnce_20 (fun H locs jP jD jS => ?_)
      obtain rfl := Option.some.inj hvt5
      exact hJt5 _ _ _ jP jD jS (lv_sub jl [0, 1] rfl)
theorem okX0_takeStop : okV yX0_takeStop cX0_takeStop 1 none 0 := ⟨w_208, w_209, w_210, w_19, by decide, by decide, by decide +kernel⟩
def fX0_takeStop (D_x1 : Int32) (D_x2 : Int32) (D_x4 : Int32) (D_x6 : Int32) (D_x7 : Int32) (D_x8 : Int32) (E_r0 : (Nat → Int32)) (E_x1 : Int32) : Option (Int32 × Int32 × Int32 × Int32 × Int32 × Int32) :=
  bd (if D_x1 = (0 : Int32) then (bd (fX0_readToken (D_x1) (D_x2) (D_x4) (D_x8) (E_r0) (E_x1)) (fun t2 => some (t2.1, t2.2.1, t2.2.2.1, t2.2.2.2.1, t2.2.2.2.2.1, t2.2.2.2.2.2))) else (some (D_x1, D_x2, D_x4, D_x6, D_x7, D_x8))) (fun t4 => if t4.1 = (0 : Int32) then (if t4.2.2.2.1 = (3 : Int32) then (some (t4.1, t4.2.1, t4.2.2.1, t4.2.2.2.1, t4.2.2.2.2.1, t4.2.2.2.2.2)) else (bd (fX0_refuse t4.2.2.2.2.1 (2 : Int32)) (fun t7 => some (t7.1, t7.2, t4.2.2.1, t4.2.2.2.1, t4.2.2.2.2.1, t4.2.2.2.2.2)))) else (some (t4.1, t4.2.1, t4.2.2.1, t4.2.2.2.1, t4.2.2.2.2.1, t4.2.2.2.2.2)))
set_option maxRecDepth 100000 in
set_option maxHeartbeats 4000000 in
theorem kX0_takeStop (l : Launch) (D : va_G) (cI cB cS : ClassId) (uD : Nat) (D_x1 : Int32) (D_x2 : Int32) (D_x3 : Int32) (D_x4 : Int32) (D_x5 : Int32) (D_x6 : Int32) (D_x7 : Int32) (D_x8 : Int32) (uE : Nat) (aE : Nat → Nat) (E_x1 : Int32) (E_r0 : (Nat → Int32)) (z : (Int32 × Int32 × Int32 × Int32 × Int32 × Int32)) (h : fX0_takeStop D_x1 D_x2 D_x4 D_x6 D_x7 D_x8 E_r0 E_x1 = some z) : Mt l yX0_takeStop cX0_takeStop 1 none 2 46 D cI cB cS (dW uD uE D_x1 D_x2 D_x3 D_x4 D_x5 D_x6 D_x7 D_x8 ++ (eW cB uE aE E_x1 E_r0)) (dW uD uE z.1 z.2.1 D_x3 z.2.2.1 D_x5 z.2.2.2.1 z.2.2.2.2.1 z.2.2.2.2.2 ++ (eW cB uE aE E_x1 E_r0)) [.ref uD] none := by
  refine entryV (by decide +kernel) rfl (Nat.le_of_ble_eq_true rfl) ?_
  intro p e s m below meth c A ls QQ R ar F hRet jP jD jS jl
  obtain ⟨hx, hb, hml, hown, hts, jK, hA, hf1, hf2⟩ := id F
  have jl : lv_has ls 1 [(0, .ref uD)] := jl
  unfold fX0_takeStop at h
  refine lv_aload_n hx hb dX0_takeStop_0 rfl (lv_at jl 0 rfl) ?_
  refine va_get (D := D) (ci := 0) (v := .int D_x1) (C := RX0) (T := TX0) (N := 9) hx hb hts in0 hown jK.1 jP 0 rfl rfl 1 (by decide) (hts _ w_126) (fun _ h9 => h9) rfl dX0_takeStop_1 ?_
  obtain ⟨t4, hvt4, h⟩ := bd_some h
  have hJt4 : ∀ (H : Heap) (locs : List Loc) (ls : Array Slot), va_P D vwCl (dW uD uE t4.1 t4.2.1 D_x3 t4.2.2.1 D_x5 t4.2.2.2.1 t4.2.2.2.2.1 t4.2.2.2.2.2 ++ (eW cB uE aE E_x1 E_r0)) H → va_D A (dW uD uE t4.1 t4.2.1 D_x3 t4.2.2.1 D_x5 t4.2.2.2.1 t4.2.2.2.2.1 t4.2.2.2.2.2 ++ (eW cB uE aE E_x1 E_r0)) → va_S A s.heap H locs → lv_has ls 1 [(0, .ref uD)] → W p l e R s m ar below meth c H locs 0 0 QQ (F0 m 11 ls []) := by
    clear jP jD jS jl
    intro H locs ls jP jD jS jl
    refine lv_aload_n hx hb dX0_takeStop_11 rfl (lv_at jl 0 rfl) ?_
    refine va_get (D := D) (ci := 0) (v := .int t4.1) (C := RX0) (T := TX0) (N := 9) hx hb hts in0 hown jK.1 jP 0 rfl rfl 1 (by decide) (hts _ w_126) (fun _ h9 => h9) rfl dX0_takeStop_12 ?_
    refine lv_if_ne (tgt := 31) hx hb dX0_takeStop_15 (by decide) (fun c5 => ?_) (fun c5 => ?_)
    · have h := itn c5 h
      obtain rfl := Option.some.inj h
      exact hRet _ _ _ _ jP jD jS dX0_takeStop_31
    · have h := itp c5 h
      refine lv_aload_n hx hb dX0_takeStop_18 rfl (lv_at jl 0 rfl) ?_
      refine va_get (D := D) (ci := 0) (v := .int t4.2.2.2.1) (C := RX0) (T := TX0) (N := 9) hx hb hts in0 hown jK.1 jP 0 rfl rfl 6 (by decide) (hts _ w_131) (fun _ h9 => h9) rfl dX0_takeStop_19 ?_
      refine lv_iconst (v := (3 : Int32)) hx hb dX0_takeStop_22 (by decide) ?_
      refine lv_icmp_eq (tgt := 31) hx hb dX0_takeStop_23 (by decide) (fun c6 => ?_) (fun c6 => ?_)
      · have h := itp c6 h
        obtain rfl := Option.some.inj h
        exact hRet _ _ _ _ jP jD jS dX0_takeStop_31
      · have h := itn c6 h
        refine lv_aload_n hx hb dX0_takeStop_26 rfl (lv_at jl 0 rfl) ?_
        refine lv_iconst (v := (2 : Int32)) hx hb dX0_takeStop_27 (by decide) ?_
        obtain ⟨t7, hc8, h⟩ := bd_some h
        refine callP (wc := (dW uD uE t4.1 t4.2.1 D_x3 t4.2.2.1 D_x5 t4.2.2.2.1 t4.2.2.2.2.1 t4.2.2.2.2.2)) (wr := (eW cB uE aE E_x1 E_r0)) (w1 := (dW uD uE t7.1 t7.2 D_x3 t4.2.2.1 D_x5 t4.2.2.2.1 t4.2.2.2.2.1 t4.2.2.2.2.2)) (ws1 := (dW uD uE t7.1 t7.2 D_x3 t4.2.2.1 D_x5 t4.2.2.2.1 t4.2.2.2.2.1 t4.2.2.2.2.2 ++ (eW cB uE aE E_x1 E_r0))) (As := [.int (2 : Int32)]) (rest := []) (st1 := []) 0 [0] [1, 2] [2, 0, 1] F (kX0_refuse l D cI cB cS uD t4.1 t4.2.1 D_x3 t4.2.2.1 D_x5 t4.2.2.2.1 t4.2.2.2.2.1 t4.2.2.2.2.2 uE (2 : Int32) _ hc8 ) okX0_refuse w_155 (by decide) (by decide) ⟨Nat.zero_le _, Nat.zero_le _⟩ rfl rfl rfl jP jD jS rfl jl.1 rfl rfl (Nat.le_of_ble_eq_true rfl) dX0_takeStop_28 rfl rfl (by decide) (by decide) (by decide) rfl (by decide) (fun H locs jP jD jS => ?_)
        obtain rfl := Option.some.inj h
        exact hRet _ _ _ _ jP jD jS dX0_takeStop_31
  clear h
  refine lv_if_ne (tgt := 11) hx hb dX0_takeStop_4 (by decide) (fun c1 => ?_) (fun c1 => ?_)
  · have hvt4 := itn c1 hvt4
    obtain rfl := Option.some.inj hvt4
    exact hJt4 _ _ _ jP jD jS (lv_sub jl [0] rfl)
  · have hvt4 := itp c1 hvt4
    refine lv_aload_n hx hb dX0_takeStop_7 rfl (lv_at jl 0 rfl) ?_
    obtain ⟨t2, hc3, hvt4⟩ := bd_some hvt4
    refine callW (w1 := (dW uD uE t2.1 t2.2.1 D_x3 t2.2.2.1 D_x5 t2.2.2.2.1 t2.2.2.2.2.1 t2.2.2.2.2.2 ++ (eW cB uE aE E_x1 E_r0))) (As := []) (rest := []) (st1 := []) 0 F (kX0_readToken l D cI cB cS uD D_x1 D_x2 D_x3 D_x4 D_x5 D_x6 D_x7 D_x8 uE aE E_x1 E_r0  _ hc3 ) okX0_readToken w_132 (by decide) (by decide) ⟨Nat.zero_le _, Nat.zero_le _⟩ rfl rfl rfl jP jD jS rfl jl.1 rfl rfl (Nat.le_of_ble_eq_true rfl) dX0_takeStop_8 (fun H locs jP jD jS => ?_)
    obtain rfl := Option.some.inj hvt4
    exact hJt4 _ _ _ jP jD jS (lv_sub jl [0] rfl)
theorem okX0_takeNumber : okV yX0_takeNumber cX0_takeNumber 3 (some .int) 2 := ⟨w_169, w_170, w_171, w_19, by decide, by decide, by decide +kernel⟩
def fX0_takeNumber (D_x1 : Int32) (D_x2 : Int32) (D_x4 : Int32) (D_x6 : Int32) (D_x7 : Int32) (D_x8 : Int32) (E_r0 : (Nat → Int32)) (E_x1 : Int32) (a1 : Int32) (a2 : Int32) : Option (Int32 × Int32 × Int32 × Int32 × Int32 × Int32 × Int32) :=
  bd (if D_x1 = (0 : Int32) then (bd (fX0_readToken (D_x1) (D_x2) (D_x4) (D_x8) (E_r0) (E_x1)) (fun t2 => some (t2.1, t2.2.1, t2.2.2.1, t2.2.2.2.1, t2.2.2.2.2.1, t2.2.2.2.2.2))) else (some (D_x1, D_x2, D_x4, D_x6, D_x7, D_x8))) (fun t4 => bd (if t4.1 = (0 : Int32) then (if t4.2.2.2.1 = (2 : Int32) then (some (t4.1, t4.2.1)) else (bd (fX0_refuse t4.2.2.2.2.1 (2 : Int32)) (fun t7 => some (t7.1, t7.2)))) else (some (t4.1, t4.2.1))) (fun t9 => bd (if t9.1 = (0 : Int32) then (bd (fX5_isWithin t4.2.2.2.2.2 a1 a2) (fun t11 => if t11 = (0 : Int32) then (bd (fX0_refuse t4.2.2.2.2.1 (3 : Int32)) (fun t14 => some (t14.1, t14.2))) else (some (t9.1, t9.2)))) else (some (t9.1, t9.2))) (fun t16 => if t16.1 = (0 : Int32) then (some (t4.2.2.2.2.2, t16.1, t16.2, t4.2.2.1, t4.2.2.2.1, t4.2.2.2.2.1, t4.2.2.2.2.2)) else (some ((0 : Int32), t16.1, t16.2, t4.2.2.1, t4.2.2.2.1, t4.2.2.2.2.1, t4.2.2.2.2.2)))))
set_option maxRecDepth 100000 in
set_option maxHeartbeats 4000000 in
theorem kX0_takeNumber (l : Launch) (D : va_G) (cI cB cS : ClassId) (uD : Nat) (D_x1 : Int32) (D_x2 : Int32) (D_x3 : Int32) (D_x4 : Int32) (D_x5 : Int32) (D_x6 : Int32) (D_x7 : Int32) (D_x8 : Int32) (uE : Nat) (aE : Nat → Nat) (E_x1 : Int32) (E_r0 : (Nat → Int32)) (a1 : Int32) (a2 : Int32) (z : (Int32 × Int32 × Int32 × Int32 × Int32 × Int32 × Int32)) (h : fX0_takeNumber D_x1 D_x2 D_x4 D_x6 D_x7 D_x8 E_r0 E_x1 a1 a2 = some z) : Mt l yX0_takeNumber cX0_takeNumber 3 (some .int) 2 46 D cI cB cS (dW uD uE D_x1 D_x2 D_x3 D_x4 D_x5 D_x6 D_x7 D_x8 ++ (eW cB uE aE E_x1 E_r0)) (dW uD uE z.2.1 z.2.2.1 D_x3 z.2.2.2.1 D_x5 z.2.2.2.2.1 z.2.2.2.2.2.1 z.2.2.2.2.2.2 ++ (eW cB uE aE E_x1 E_r0)) [.ref uD, .int a1, .int a2] (some (.int z.1)) := by
  refine entryI (by decide +kernel) rfl (Nat.le_of_ble_eq_true rfl) ?_
  intro p e s m below meth c A ls QQ R ar F hRet jP jD jS jl
  obtain ⟨hx, hb, hml, hown, hts, jK, hA, hf1, hf2⟩ := id F
  have jl : lv_has ls 3 [(0, .ref uD), (1, .int a1), (2, .int a2)] := jl
  unfold fX0_takeNumber at h
  refine lv_aload_n hx hb dX0_takeNumber_0 rfl (lv_at jl 0 rfl) ?_
  refine va_get (D := D) (ci := 0) (v := .int D_x1) (C := RX0) (T := TX0) (N := 9) hx hb hts in0 hown jK.1 jP 0 rfl rfl 1 (by decide) (hts _ w_126) (fun _ h9 => h9) rfl dX0_takeNumber_1 ?_
  obtain ⟨t4, hvt4, h⟩ := bd_some h
  have hJt4 : ∀ (H : Heap) (locs : List Loc) (ls : Array Slot), va_P D vwCl (dW uD uE t4.1 t4.2.1 D_x3 t4.2.2.1 D_x5 t4.2.2.2.1 t4.2.2.2.2.1 t4.2.2.2.2.2 ++ (eW cB uE aE E_x1 E_r0)) H → va_D A (dW uD uE t4.1 t4.2.1 D_x3 t4.2.2.1 D_x5 t4.2.2.2.1 t4.2.2.2.2.1 t4.2.2.2.2.2 ++ (eW cB uE aE E_x1 E_r0)) → va_S A s.heap H locs → lv_has ls 3 [(0, .ref uD), (1, .int a1), (2, .int a2)] → W p l e R s m ar below meth c H locs 0 0 QQ (F0 m 11 ls []) := by
    clear jP jD jS jl
    intro H locs ls jP jD jS jl
    refine lv_aload_n hx hb dX0_takeNumber_11 rfl (lv_at jl 0 rfl) ?_
    refine va_get (D := D) (ci := 0) (v := .int t4.1) (C := RX0) (T := TX0) (N := 9) hx hb hts in0 hown jK.1 jP 0 rfl rfl 1 (by decide) (hts _ w_126) (fun _ h9 => h9) rfl dX0_takeNumber_12 ?_
    obtain ⟨t9, hvt9, h⟩ := bd_some h
    have hJt9 : ∀ (H : Heap) (locs : List Loc) (ls : Array Slot), va_P D vwCl (dW uD uE t9.1 t9.2 D_x3 t4.2.2.1 D_x5 t4.2.2.2.1 t4.2.2.2.2.1 t4.2.2.2.2.2 ++ (eW cB uE aE E_x1 E_r0)) H → va_D A (dW uD uE t9.1 t9.2 D_x3 t4.2.2.1 D_x5 t4.2.2.2.1 t4.2.2.2.2.1 t4.2.2.2.2.2 ++ (eW cB uE aE E_x1 E_r0)) → va_S A s.heap H locs → lv_has ls 3 [(0, .ref uD), (1, .int a1), (2, .int a2)] → W p l e R s m ar below meth c H locs 0 0 QQ (F0 m 31 ls []) := by
      clear jP jD jS jl
      intro H locs ls jP jD jS jl
      refine lv_aload_n hx hb dX0_takeNumber_31 rfl (lv_at jl 0 rfl) ?_
      refine va_get (D := D) (ci := 0) (v := .int t9.1) (C := RX0) (T := TX0) (N := 9) hx hb hts in0 hown jK.1 jP 0 rfl rfl 1 (by decide) (hts _ w_126) (fun _ h9 => h9) rfl dX0_takeNumber_32 ?_
      obtain ⟨t16, hvt16, h⟩ := bd_some h
      have hJt16 : ∀ (H : Heap) (locs : List Loc) (ls : Array Slot), va_P D vwCl (dW uD uE t16.1 t16.2 D_x3 t4.2.2.1 D_x5 t4.2.2.2.1 t4.2.2.2.2.1 t4.2.2.2.2.2 ++ (eW cB uE aE E_x1 E_r0)) H → va_D A (dW uD uE t16.1 t16.2 D_x3 t4.2.2.1 D_x5 t4.2.2.2.1 t4.2.2.2.2.1 t4.2.2.2.2.2 ++ (eW cB uE aE E_x1 E_r0)) → va_S A s.heap H locs → lv_has ls 3 [(0, .ref uD)] → W p l e R s m ar below meth c H locs 0 0 QQ (F0 m 55 ls []) := by
        clear jP jD jS jl
        intro H locs ls jP jD jS jl
        refine lv_aload_n hx hb dX0_takeNumber_55 rfl (lv_at jl 0 rfl) ?_
        refine va_get (D := D) (ci := 0) (v := .int t16.1) (C := RX0) (T := TX0) (N := 9) hx hb hts in0 hown jK.1 jP 0 rfl rfl 1 (by decide) (hts _ w_126) (fun _ h9 => h9) rfl dX0_takeNumber_56 ?_
        refine lv_if_ne (tgt := 69) hx hb dX0_takeNumber_59 (by decide) (fun c17 => ?_) (fun c17 => ?_)
        · have h := itn c17 h
          refine lv_iconst (v := (0 : Int32)) hx hb dX0_takeNumber_69 (by decide) ?_
          obtain rfl := Option.some.inj h
          exact hRet _ _ _ _ jP jD jS dX0_takeNumber_70
        · have h := itp c17 h
          refine lv_aload_n hx hb dX0_takeNumber_62 rfl (lv_at jl 0 rfl) ?_
          refine va_get (D := D) (ci := 0) (v := .int t4.2.2.2.2.2) (C := RX0) (T := TX0) (N := 9) hx hb hts in0 hown jK.1 jP 0 rfl rfl 8 (by decide) (hts _ w_139) (fun _ h9 => h9) rfl dX0_takeNumber_63 ?_
          refine lv_goto (tgt := 70) hx hb dX0_takeNumber_66 (by decide) ?_
          obtain rfl := Option.some.inj h
          exact hRet _ _ _ _ jP jD jS dX0_takeNumber_70
      clear h
      refine lv_if_ne (tgt := 55) hx hb dX0_takeNumber_35 (by decide) (fun c10 => ?_) (fun c10 => ?_)
      · have hvt16 := itn c10 hvt16
        obtain rfl := Option.some.inj hvt16
        exact hJt16 _ _ _ jP jD jS (lv_sub jl [0] rfl)
      · have hvt16 := itp c10 hvt16
        refine lv_aload_n hx hb dX0_takeNumber_38 rfl (lv_at jl 0 rfl) ?_
        refine va_get (D := D) (ci := 0) (v := .int t4.2.2.2.2.2) (C := RX0) (T := TX0) (N := 9) hx hb hts in0 hown jK.1 jP 0 rfl rfl 8 (by decide) (hts _ w_139) (fun _ h9 => h9) rfl dX0_takeNumber_39 ?_
        refine lv_iload_n hx hb dX0_takeNumber_42 rfl (lv_at jl 1 rfl) ?_
        refine lv_iload_n hx hb dX0_takeNumber_43 rfl (lv_at jl 2 rfl) ?_
        obtain ⟨t11, hc12, hvt16⟩ := bd_some hvt16
        refine call0N (As := [.int t4.2.2.2.2.2, .int a1, .int a2]) (rest := []) (st1 := [.int t11]) F (kX5_isWithin l D cI cB cS  t4.2.2.2.2.2 a1 a2 _ hc12 ) okX5_isWithin nl_0 (by decide) (by decide) ⟨Nat.zero_le _, Nat.zero_le _⟩ jP jD jS rfl jl.1 rfl rfl (Nat.le_of_ble_eq_true rfl) dX0_takeNumber_44 (fun H locs jP jD jS => ?_)
        refine lv_if_ne (tgt := 55) hx hb dX0_takeNumber_47 (by decide) (fun c13 => ?_) (fun c13 => ?_)
        · have hvt16 := itn c13 hvt16
          obtain rfl := Option.some.inj hvt16
          exact hJt16 _ _ _ jP jD jS (lv_sub jl [0] rfl)
        · have hvt16 := itp c13 hvt16
          refine lv_aload_n hx hb dX0_takeNumber_50 rfl (lv_at jl 0 rfl) ?_
          refine lv_iconst (v := (3 : Int32)) hx hb dX0_takeNumber_51 (by decide) ?_
          obtain ⟨t14, hc15, hvt16⟩ := bd_some hvt16
          refine callP (wc := (dW uD uE t9.1 t9.2 D_x3 t4.2.2.1 D_x5 t4.2.2.2.1 t4.2.2.2.2.1 t4.2.2.2.2.2)) (wr := (eW cB uE aE E_x1 E_r0)) (w1 := (dW uD uE t14.1 t14.2 D_x3 t4.2.2.1 D_x5 t4.2.2.2.1 t4.2.2.2.2.1 t4.2.2.2.2.2)) (ws1 := (dW uD uE t14.1 t14.2 D_x3 t4.2.2.1 D_x5 t4.2.2.2.1 t4.2.2.2.2.1 t4.2.2.2.2.2 ++ (eW cB uE aE E_x1 E_r0))) (As := [.int (3 : Int32)]) (rest := []) (st1 := []) 0 [0] [1, 2] [2, 0, 1] F (kX0_refuse l D cI cB cS uD t9.1 t9.2 D_x3 t4.2.2.1 D_x5 t4.2.2.2.1 t4.2.2.2.2.1 t4.2.2.2.2.2 uE (3 : Int32) _ hc15 ) okX0_refuse w_155 (by decide) (by decide) ⟨Nat.zero_le _, Nat.zero_le _⟩ rfl rfl rfl jP jD jS rfl jl.1 rfl rfl (Nat.le_of_ble_eq_true rfl) dX0_takeNumber_52 rfl rfl (by decide) (by decide) (by decide) rfl (by decide) (fun H locs jP jD jS => ?_)
          obtain rfl := Option.some.inj hvt16
          exact hJt16 _ _ _ jP jD jS (lv_sub jl [0] rfl)
    clear h
    refine lv_if_ne (tgt := 31) hx hb dX0_takeNumber_15 (by decide) (fun c5 => ?_) (fun c5 => ?_)
    · have hvt9 := itn c5 hvt9
      obtain rfl := Option.some.inj hvt9
      exact hJt9 _ _ _ jP jD jS (lv_sub jl [0, 1, 2] rfl)
    · have hvt9 := itp c5 hvt9
      refine lv_aload_n hx hb dX0_takeNumber_18 rfl (lv_at jl 0 rfl) ?_
      refine va_get (D := D) (ci := 0) (v := .int t4.2.2.2.1) (C := RX0) (T := TX0) (N := 9) hx hb hts in0 hown jK.1 jP 0 rfl rfl 6 (by decide) (hts _ w_131) (fun _ h9 => h9) rfl dX0_takeNumber_19 ?_
      refine lv_iconst (v := (2 : Int32)) hx hb dX0_takeNumber_22 (by decide) ?_
      refine lv_icmp_eq (tgt := 31) hx hb dX0_takeNumber_23 (by decide) (fun c6 => ?_) (fun c6 => ?_)
      · have hvt9 := itp c6 hvt9
        obtain rfl := Option.some.inj hvt9
        exact hJt9 _ _ _ jP jD jS (lv_sub jl [0, 1, 2] rfl)
      · have hvt9 := itn c6 hvt9
        refine lv_aload_n hx hb dX0_takeNumber_26 rfl (lv_at jl 0 rfl) ?_
        refine lv_iconst (v := (2 : Int32)) hx hb dX0_takeNumber_27 (by decide) ?_
        obtain ⟨t7, hc8, hvt9⟩ := bd_some hvt9
        refine callP (wc := (dW uD uE t4.1 t4.2.1 D_x3 t4.2.2.1 D_x5 t4.2.2.2.1 t4.2.2.2.2.1 t4.2.2.2.2.2)) (wr := (eW cB uE aE E_x1 E_r0)) (w1 := (dW uD uE t7.1 t7.2 D_x3 t4.2.2.1 D_x5 t4.2.2.2.1 t4.2.2.2.2.1 t4.2.2.2.2.2)) (ws1 := (dW uD uE t7.1 t7.2 D_x3 t4.2.2.1 D_x5 t4.2.2.2.1 t4.2.2.2.2.1 t4.2.2.2.2.2 ++ (eW cB uE aE E_x1 E_r0))) (As := [.int (2 : Int32)]) (rest := []) (st1 := []) 0 [0] [1, 2] [2, 0, 1] F (kX0_refuse l D cI cB cS uD t4.1 t4.2.1 D_x3 t4.2.2.1 D_x5 t4.2.2.2.1 t4.2.2.2.2.1 t4.2.2.2.2.2 uE (2 : Int32) _ hc8 ) okX0_refuse w_155 (by decide) (by decide) ⟨Nat.zero_le _, Nat.zero_le _⟩ rfl rfl rfl jP jD jS rfl jl.1 rfl rfl (Nat.le_of_ble_eq_true rfl) dX0_takeNumber_28 rfl rfl (by decide) (by decide) (by decide) rfl (by decide) (fun H locs jP jD jS => ?_)
        obtain rfl := Option.some.inj hvt9
        exact hJt9 _ _ _ jP jD jS (lv_sub jl [0, 1, 2] rfl)
  clear h
  refine lv_if_ne (tgt := 11) hx hb dX0_takeNumber_4 (by decide) (fun c1 => ?_) (fun c1 => ?_)
  · have hvt4 := itn c1 hvt4
    obtain rfl := Option.some.inj hvt4
    exact hJt4 _ _ _ jP jD jS (lv_sub jl [0, 1, 2] rfl)
  · have hvt4 := itp c1 hvt4
    refine lv_aload_n hx hb dX0_takeNumber_7 rfl (lv_at jl 0 rfl) ?_
    obtain ⟨t2, hc3, hvt4⟩ := bd_some hvt4
    refine callW (w1 := (dW uD uE t2.1 t2.2.1 D_x3 t2.2.2.1 D_x5 t2.2.2.2.1 t2.2.2.2.2.1 t2.2.2.2.2.2 ++ (eW cB uE aE E_x1 E_r0))) (As := []) (rest := []) (st1 := []) 0 F (kX0_readToken l D cI cB cS uD D_x1 D_x2 D_x3 D_x4 D_x5 D_x6 D_x7 D_x8 uE aE E_x1 E_r0  _ hc3 ) okX0_readToken w_132 (by decide) (by decide) ⟨Nat.zero_le _, Nat.zero_le _⟩ rfl rfl rfl jP jD jS rfl jl.1 rfl rfl (Nat.le_of_ble_eq_true rfl) dX0_takeNumber_8 (fun H locs jP jD jS => ?_)
    obtain rfl := Option.some.inj hvt4
    exact hJt4 _ _ _ jP jD jS (lv_sub jl [0, 1, 2] rfl)
theorem okX0_takeSort : okV yX0_takeSort cX0_takeSort 5 none 1 := ⟨w_164, w_165, w_166, w_19, by decide, by decide, by decide +kernel⟩
def fX0_takeSort (D_x1 : Int32) (D_x2 : Int32) (D_x4 : Int32) (D_x6 : Int32) (D_x7 : Int32) (D_x8 : Int32) (E_r0 : (Nat → Int32)) (E_x1 : Int32) (S_r0 : (Nat → Int32)) (S_r1 : (Nat → Int32)) (S_r2 : (Nat → Int32)) (S_r3 : (Nat → Int32)) (S_r4 : (Nat → Int32)) (S_x5 : Int32) : Option (Int32 × Int32 × Int32 × Int32 × Int32 × Int32 × (Nat → Int32) × (Nat → Int32) × (Nat → Int32) × (Nat → Int32) × (Nat → Int32) × Int32) :=
  bd (if S_x5 < (8 : Int32) then (some (D_x1, D_x2)) else (bd (fX0_refuse (D_x7) (5 : Int32)) (fun t2 => some (t2.1, t2.2)))) (fun t4 => bd (fX0_takeNumber t4.1 t4.2 (D_x4) (D_x6) (D_x7) (D_x8) (E_r0) (E_x1) (1 : Int32) (50 : Int32)) (fun t5 => bd (fX0_takeNumber t5.2.1 t5.2.2.1 t5.2.2.2.1 t5.2.2.2.2.1 t5.2.2.2.2.2.1 t5.2.2.2.2.2.2 (E_r0) (E_x1) (0 : Int32) (99 : Int32)) (fun t7 => bd (fX0_takeNumber t7.2.1 t7.2.2.1 t7.2.2.2.1 t7.2.2.2.2.1 t7.2.2.2.2.2.1 t7.2.2.2.2.2.2 (E_r0) (E_x1) (0 : Int32) (99 : Int32)) (fun t9 => bd (fX2_add (S_r0) (S_r1) (S_r2) (S_r3) (S_r4) (S_x5) t5.1 t7.1 t9.1 (0 : Int32)) (fun t11 => some (t9.2.1, t9.2.2.1, t9.2.2.2.1, t9.2.2.2.2.1, t9.2.2.2.2.2.1, t9.2.2.2.2.2.2, t11.1, t11.2.1, t11.2.2.1, t11.2.2.2.1, t11.2.2.2.2.1, t11.2.2.2.2.2))))))
set_option maxRecDepth 100000 in
set_option maxHeartbeats 4000000 in
theorem kX0_takeSort (l : Launch) (D : va_G) (cI cB cS : ClassId) (uD : Nat) (D_x1 : Int32) (D_x2 : Int32) (D_x3 : Int32) (D_x4 : Int32) (D_x5 : Int32) (D_x6 : Int32) (D_x7 : Int32) (D_x8 : Int32) (uE : Nat) (aE : Nat → Nat) (E_x1 : Int32) (E_r0 : (Nat → Int32)) (uS : Nat) (aS : Nat → Nat) (S_x5 : Int32) (S_x6 : Int32) (S_x7 : Int32) (S_x8 : Int32) (S_x9 : Int32) (S_r0 : (Nat → Int32)) (S_r1 : (Nat → Int32)) (S_r2 : (Nat → Int32)) (S_r3 : (Nat → Int32)) (S_r4 : (Nat → Int32)) (z : (Int32 × Int32 × Int32 × Int32 × Int32 × Int32 × (Nat → Int32) × (Nat → Int32) × (Nat → Int32) × (Nat → Int32) × (Nat → Int32) × Int32)) (h : fX0_takeSort D_x1 D_x2 D_x4 D_x6 D_x7 D_x8 E_r0 E_x1 S_r0 S_r1 S_r2 S_r3 S_r4 S_x5 = some z) : Mt l yX0_takeSort cX0_takeSort 5 none 3 68 D cI cB cS (dW uD uE D_x1 D_x2 D_x3 D_x4 D_x5 D_x6 D_x7 D_x8 ++ (eW cB uE aE E_x1 E_r0 ++ (sW cI uS aS S_x5 S_x6 S_x7 S_x8 S_x9 S_r0 S_r1 S_r2 S_r3 S_r4))) (dW uD uE z.1 z.2.1 D_x3 z.2.2.1 D_x5 z.2.2.2.1 z.2.2.2.2.1 z.2.2.2.2.2.1 ++ (eW cB uE aE E_x1 E_r0 ++ (sW cI uS aS z.2.2.2.2.2.2.2.2.2.2.2 S_x6 S_x7 S_x8 S_x9 z.2.2.2.2.2.2.1 z.2.2.2.2.2.2.2.1 z.2.2.2.2.2.2.2.2.1 z.2.2.2.2.2.2.2.2.2.1 z.2.2.2.2.2.2.2.2.2.2.1))) [.ref uD, .ref uS] none := by
  refine entryV (by decide +kernel) rfl (Nat.le_of_ble_eq_true rfl) ?_
  intro p e s m below meth c A ls QQ R ar F hRet jP jD jS jl
  obtain ⟨hx, hb, hml, hown, hts, jK, hA, hf1, hf2⟩ := id F
  have jl : lv_has ls 5 [(0, .ref uD), (1, .ref uS)] := jl
  unfold fX0_takeSort at h
  refine lv_aload_n hx hb dX0_takeSort_0 rfl (lv_at jl 1 rfl) ?_
  refine va_get (D := D) (ci := 2) (v := .int S_x5) (C := RX2) (T := TX2) (N := 10) hx hb hts in2 hown jK.1 jP 3 rfl rfl 5 (by decide) (hts _ w_167) (fun _ h9 => h9) rfl dX0_takeSort_1 ?_
  refine lv_bipush (v := (8 : Int32)) hx hb dX0_takeSort_4 (by decide) ?_
  obtain ⟨t4, hvt4, h⟩ := bd_some h
  have hJt4 : ∀ (H : Heap) (locs : List Loc) (ls : Array Slot), va_P D vwCl (dW uD uE t4.1 t4.2 D_x3 D_x4 D_x5 D_x6 D_x7 D_x8 ++ (eW cB uE aE E_x1 E_r0 ++ (sW cI uS aS S_x5 S_x6 S_x7 S_x8 S_x9 S_r0 S_r1 S_r2 S_r3 S_r4))) H → va_D A (dW uD uE t4.1 t4.2 D_x3 D_x4 D_x5 D_x6 D_x7 D_x8 ++ (eW cB uE aE E_x1 E_r0 ++ (sW cI uS aS S_x5 S_x6 S_x7 S_x8 S_x9 S_r0 S_r1 S_r2 S_r3 S_r4))) → va_S A s.heap H locs → lv_has ls 5 [(0, .ref uD), (1, .ref uS)] → W p l e R s m ar below meth c H locs 0 0 QQ (F0 m 14 ls []) := by
    clear jP jD jS jl
    intro H locs ls jP jD jS jl
    refine lv_aload_n hx hb dX0_takeSort_14 rfl (lv_at jl 0 rfl) ?_
    refine lv_iconst (v := (1 : Int32)) hx hb dX0_takeSort_15 (by decide) ?_
    refine lv_bipush (v := (50 : Int32)) hx hb dX0_takeSort_16 (by decide) ?_
    obtain ⟨t5, hc6, h⟩ := bd_some h
    refine callP (wc := (dW uD uE t4.1 t4.2 D_x3 D_x4 D_x5 D_x6 D_x7 D_x8 ++ (eW cB uE aE E_x1 E_r0))) (wr := (sW cI uS aS S_x5 S_x6 S_x7 S_x8 S_x9 S_r0 S_r1 S_r2 S_r3 S_r4)) (w1 := (dW uD uE t5.2.1 t5.2.2.1 D_x3 t5.2.2.2.1 D_x5 t5.2.2.2.2.1 t5.2.2.2.2.2.1 t5.2.2.2.2.2.2 ++ (eW cB uE aE E_x1 E_r0))) (ws1 := (dW uD uE t5.2.1 t5.2.2.1 D_x3 t5.2.2.2.1 D_x5 t5.2.2.2.2.1 t5.2.2.2.2.2.1 t5.2.2.2.2.2.2 ++ (eW cB uE aE E_x1 E_r0 ++ (sW cI uS aS S_x5 S_x6 S_x7 S_x8 S_x9 S_r0 S_r1 S_r2 S_r3 S_r4)))) (As := [.int (1 : Int32), .int (50 : Int32)]) (rest := []) (st1 := [.int t5.1]) 0 [0, 1, 2] [3, 4, 5, 6, 7, 8] [6, 7, 8, 0, 1, 2, 3, 4, 5] F (kX0_takeNumber l D cI cB cS uD t4.1 t4.2 D_x3 D_x4 D_x5 D_x6 D_x7 D_x8 uE aE E_x1 E_r0 (1 : Int32) (50 : Int32) _ hc6 ) okX0_takeNumber w_168 (by decide) (by decide) ⟨Nat.zero_le _, Nat.zero_le _⟩ rfl rfl rfl jP jD jS rfl jl.1 rfl rfl (Nat.le_of_ble_eq_true rfl) dX0_takeSort_18 rfl rfl (by decide) (by decide) (by decide) rfl (by decide) (fun H locs jP jD jS => ?_)
    refine lv_istore_n (lv' := [(2, .int t5.1), (0, .ref uD), (1, .ref uS)]) hx hb dX0_takeSort_21 rfl jl (by decide) rfl (fun ls jl => ?_)
    refine lv_aload_n hx hb dX0_takeSort_22 rfl (lv_at jl 1 rfl) ?_
    refine lv_iconst (v := (0 : Int32)) hx hb dX0_takeSort_23 (by decide) ?_
    refine lv_bipush (v := (99 : Int32)) hx hb dX0_takeSort_24 (by decide) ?_
    obtain ⟨t7, hc8, h⟩ := bd_some h
    refine callP (wc := (dW uD uE t5.2.1 t5.2.2.1 D_x3 t5.2.2.2.1 D_x5 t5.2.2.2.2.1 t5.2.2.2.2.2.1 t5.2.2.2.2.2.2 ++ (eW cB uE aE E_x1 E_r0))) (wr := (sW cI uS aS S_x5 S_x6 S_x7 S_x8 S_x9 S_r0 S_r1 S_r2 S_r3 S_r4)) (w1 := (dW uD uE t7.2.1 t7.2.2.1 D_x3 t7.2.2.2.1 D_x5 t7.2.2.2.2.1 t7.2.2.2.2.2.1 t7.2.2.2.2.2.2 ++ (eW cB uE aE E_x1 E_r0))) (ws1 := (dW uD uE t7.2.1 t7.2.2.1 D_x3 t7.2.2.2.1 D_x5 t7.2.2.2.2.1 t7.2.2.2.2.2.1 t7.2.2.2.2.2.2 ++ (eW cB uE aE E_x1 E_r0 ++ (sW cI uS aS S_x5 S_x6 S_x7 S_x8 S_x9 S_r0 S_r1 S_r2 S_r3 S_r4)))) (As := [.int (0 : Int32), .int (99 : Int32)]) (rest := []) (st1 := [.int t7.1]) 0 [0, 1, 2] [3, 4, 5, 6, 7, 8] [6, 7, 8, 0, 1, 2, 3, 4, 5] F (kX0_takeNumber l D cI cB cS uD t5.2.1 t5.2.2.1 D_x3 t5.2.2.2.1 D_x5 t5.2.2.2.2.1 t5.2.2.2.2.2.1 t5.2.2.2.2.2.2 uE aE E_x1 E_r0 (0 : Int32) (99 : Int32) _ hc8 ) okX0_takeNumber w_168 (by decide) (by decide) ⟨Nat.zero_le _, Nat.zero_le _⟩ rfl rfl rfl jP jD jS rfl jl.1 rfl rfl (Nat.le_of_ble_eq_true rfl) dX0_takeSort_26 rfl rfl (by decide) (by decide) (by decide) rfl (by decide) (fun H locs jP jD jS => ?_)
    refine lv_istore_n (lv' := [(3, .int t7.1), (2, .int t5.1), (0, .ref uD), (1, .ref uS)]) hx hb dX0_takeSort_29 rfl jl (by decide) rfl (fun ls jl => ?_)
    refine lv_aload_n hx hb dX0_takeSort_30 rfl (lv_at jl 2 rfl) ?_
    refine lv_iconst (v := (0 : Int32)) hx hb dX0_takeSort_31 (by decide) ?_
    refine lv_bipush (v := (99 : Int32)) hx hb dX0_takeSort_32 (by decide) ?_
    obtain ⟨t9, hc10, h⟩ := bd_some h
    refine callP (wc := (dW uD uE t7.2.1 t7.2.2.1 D_x3 t7.2.2.2.1 D_x5 t7.2.2.2.2.1 t7.2.2.2.2.2.1 t7.2.2.2.2.2.2 ++ (eW cB uE aE E_x1 E_r0))) (wr := (sW cI uS aS S_x5 S_x6 S_x7 S_x8 S_x9 S_r0 S_r1 S_r2 S_r3 S_r4)) (w1 := (dW uD uE t9.2.1 t9.2.2.1 D_x3 t9.2.2.2.1 D_x5 t9.2.2.2.2.1 t9.2.2.2.2.2.1 t9.2.2.2.2.2.2 ++ (eW cB uE aE E_x1 E_r0))) (ws1 := (dW uD uE t9.2.1 t9.2.2.1 D_x3 t9.2.2.2.1 D_x5 t9.2.2.2.2.1 t9.2.2.2.2.2.1 t9.2.2.2.2.2.2 ++ (eW cB uE aE E_x1 E_r0 ++ (sW cI uS aS S_x5 S_x6 S_x7 S_x8 S_x9 S_r0 S_r1 S_r2 S_r3 S_r4)))) (As := [.int (0 : Int32), .int (99 : Int32)]) (rest := []) (st1 := [.int t9.1]) 0 [0, 1, 2] [3, 4, 5, 6, 7, 8] [6, 7, 8, 0, 1, 2, 3, 4, 5] F (kX0_takeNumber l D cI cB cS uD t7.2.1 t7.2.2.1 D_x3 t7.2.2.2.1 D_x5 t7.2.2.2.2.1 t7.2.2.2.2.2.1 t7.2.2.2.2.2.2 uE aE E_x1 E_r0 (0 : Int32) (99 : Int32) _ hc10 ) okX0_takeNumber w_168 (by decide) (by decide) ⟨Nat.zero_le _, Nat.zero_le _⟩ rfl rfl rfl jP jD jS rfl jl.1 rfl rfl (Nat.le_of_ble_eq_true rfl) dX0_takeSort_34 rfl rfl (by decide) (by decide) (by decide) rfl (by decide) (fun H locs jP jD jS => ?_)
    refine lv_istore (lv' := [(4, .int t9.1), (3, .int t7.1), (2, .int t5.1), (0, .ref uD), (1, .ref uS)]) hx hb dX0_takeSort_37 jl (by decide) rfl (fun ls jl => ?_)
    refine lv_aload_n hx hb dX0_takeSort_39 rfl (lv_at jl 4 rfl) ?_
    refine lv_iload_n hx hb dX0_takeSort_40 rfl (lv_at jl 2 rfl) ?_
    refine lv_iload_n hx hb dX0_takeSort_41 rfl (lv_at jl 1 rfl) ?_
    refine lv_iload hx hb dX0_takeSort_42 (lv_at jl 0 rfl) ?_
    refine lv_iconst (v := (0 : Int32)) hx hb dX0_takeSort_44 (by decide) ?_
    obtain ⟨t11, hc12, h⟩ := bd_some h
    refine callP (wc := (sW cI uS aS S_x5 S_x6 S_x7 S_x8 S_x9 S_r0 S_r1 S_r2 S_r3 S_r4)) (wr := (dW uD uE t9.2.1 t9.2.2.1 D_x3 t9.2.2.2.1 D_x5 t9.2.2.2.2.1 t9.2.2.2.2.2.1 t9.2.2.2.2.2.2 ++ (eW cB uE aE E_x1 E_r0))) (w1 := (sW cI uS aS t11.2.2.2.2.2 S_x6 S_x7 S_x8 S_x9 t11.1 t11.2.1 t11.2.2.1 t11.2.2.2.1 t11.2.2.2.2.1)) (ws1 := (dW uD uE t9.2.1 t9.2.2.1 D_x3 t9.2.2.2.1 D_x5 t9.2.2.2.2.1 t9.2.2.2.2.2.1 t9.2.2.2.2.2.2 ++ (eW cB uE aE E_x1 E_r0 ++ (sW cI uS aS t11.2.2.2.2.2 S_x6 S_x7 S_x8 S_x9 t11.1 t11.2.1 t11.2.2.1 t11.2.2.2.1 t11.2.2.2.2.1)))) (As := [.int t5.1, .int t7.1, .int t9.1, .int (0 : Int32)]) (rest := []) (st1 := []) 0 [3, 4, 5, 6, 7, 8] [0, 1, 2] [0, 1, 2, 3, 4, 5, 6, 7, 8] F (kX2_add l D cI cB cS uS aS S_x5 S_x6 S_x7 S_x8 S_x9 S_r0 S_r1 S_r2 S_r3 S_r4 t5.1 t7.1 t9.1 (0 : Int32) _ hc12 ) okX2_add w_172 (by decide) (by decide) ⟨Nat.zero_le _, Nat.zero_le _⟩ rfl rfl rfl jP jD jS rfl jl.1 rfl rfl (Nat.le_of_ble_eq_true rfl) dX0_takeSort_45 rfl rfl (by decide) (by decide) (by decide) rfl (by decide) (fun H locs jP jD jS => ?_)
    obtain rfl := Option.some.inj h
    exact hRet _ _ _ _ jP jD jS dX0_takeSort_48
  clear h
  refine lv_icmp_lt (tgt := 14) hx hb dX0_takeSort_6 (by decide) (fun c1 => ?_) (fun c1 => ?_)
  · have hvt4 := itp c1 hvt4
    obtain rfl := Option.some.inj hvt4
    exact hJt4 _ _ _ jP jD jS (lv_sub jl [0, 1] rfl)
  · have hvt4 := itn c1 hvt4
    refine lv_aload_n hx hb dX0_takeSort_9 rfl (lv_at jl 0 rfl) ?_
    refine lv_iconst (v := (5 : Int32)) hx hb dX0_takeSort_10 (by decide) ?_
    obtain ⟨t2, hc3, hvt4⟩ := bd_some hvt4
    refine callP (wc := (dW uD uE D_x1 D_x2 D_x3 D_x4 D_x5 D_x6 D_x7 D_x8)) (wr := (eW cB uE aE E_x1 E_r0 ++ (sW cI uS aS S_x5 S_x6 S_x7 S_x8 S_x9 S_r0 S_r1 S_r2 S_r3 S_r4))) (w1 := (dW uD uE t2.1 t2.2 D_x3 D_x4 D_x5 D_x6 D_x7 D_x8)) (ws1 := (dW uD uE t2.1 t2.2 D_x3 D_x4 D_x5 D_x6 D_x7 D_x8 ++ (eW cB uE aE E_x1 E_r0 ++ (sW cI uS aS S_x5 S_x6 S_x7 S_x8 S_x9 S_r0 S_r1 S_r2 S_r3 S_r4)))) (As := [.int (5 : Int32)]) (rest := []) (st1 := []) 0 [0] [1, 2, 3, 4, 5, 6, 7, 8] [8, 0, 1, 2, 3, 4, 5, 6, 7] F (kX0_refuse l D cI cB cS uD D_x1 D_x2 D_x3 D_x4 D_x5 D_x6 D_x7 D_x8 uE (5 : Int32) _ hc3 ) okX0_refuse w_155 (by decide) (by decide) ⟨Nat.zero_le _, Nat.zero_le _⟩ rfl rfl rfl jP jD jS rfl jl.1 rfl rfl (Nat.le_of_ble_eq_true rfl) dX0_takeSort_11 rfl rfl (by decide) (by decide) (by decide) rfl (by decide) (fun H locs jP jD jS => ?_)
    obtain rfl := Option.some.inj hvt4
    exact hJt4 _ _ _ jP jD jS (lv_sub jl [0, 1] rfl)
theorem okX0_takeFail : okV yX0_takeFail cX0_takeFail 3 none 1 := ⟨w_177, w_178, w_179, w_19, by decide, by decide, by decide +kernel⟩
def fX0_takeFail (D_x1 : Int32) (D_x2 : Int32) (D_x4 : Int32) (D_x5 : Int32) (D_x6 : Int32) (D_x7 : Int32) (D_x8 : Int32) (E_r0 : (Nat → Int32)) (E_x1 : Int32) (S_r3 : (Nat → Int32)) (S_x5 : Int32) : Option (Int32 × Int32 × Int32 × Int32 × Int32 × Int32 × Int32 × (Nat → Int32)) :=
  bd (fX0_takeNumber (D_x1) (D_x2) (D_x4) (D_x6) (D_x7) (D_x8) (E_r0) (E_x1) (0 : Int32) (S_x5 - (1 : Int32))) (fun t1 => bd (fX0_tellOnce t1.2.1 t1.2.2.1 (D_x5) t1.2.2.2.2.2.1 ((0 : Int32) + t1.1)) (fun t3 => bd (fX0_takeNumber t3.1 t3.2.1 t1.2.2.2.1 t1.2.2.2.2.1 t1.2.2.2.2.2.1 t1.2.2.2.2.2.2 (E_r0) (E_x1) (0 : Int32) (10 : Int32)) (fun t5 => ckI t1.1 8 (some (t5.2.1, t5.2.2.1, t5.2.2.2.1, t3.2.2, t5.2.2.2.2.1, t5.2.2.2.2.2.1, t5.2.2.2.2.2.2, (upd S_r3 t1.1.toNatClampNeg t5.1))))))
set_option maxRecDepth 100000 in
set_option maxHeartbeats 4000000 in
theorem kX0_takeFail (l : Launch) (D : va_G) (cI cB cS : ClassId) (uD : Nat) (D_x1 : Int32) (D_x2 : Int32) (D_x3 : Int32) (D_x4 : Int32) (D_x5 : Int32) (D_x6 : Int32) (D_x7 : Int32) (D_x8 : Int32) (uE : Nat) (aE : Nat → Nat) (E_x1 : Int32) (E_r0 : (Nat → Int32)) (uS : Nat) (aS : Nat → Nat) (S_x5 : Int32) (S_x6 : Int32) (S_x7 : Int32) (S_x8 : Int32) (S_x9 : Int32) (S_r0 : (Nat → Int32)) (S_r1 : (Nat → Int32)) (S_r2 : (Nat → Int32)) (S_r3 : (Nat → Int32)) (S_r4 : (Nat → Int32)) (z : (Int32 × Int32 × Int32 × Int32 × Int32 × Int32 × Int32 × (Nat → Int32))) (h : fX0_takeFail D_x1 D_x2 D_x4 D_x5 D_x6 D_x7 D_x8 E_r0 E_x1 S_r3 S_x5 = some z) : Mt l yX0_takeFail cX0_takeFail 3 none 3 68 D cI cB cS (dW uD uE D_x1 D_x2 D_x3 D_x4 D_x5 D_x6 D_x7 D_x8 ++ (eW cB uE aE E_x1 E_r0 ++ (sW cI uS aS S_x5 S_x6 S_x7 S_x8 S_x9 S_r0 S_r1 S_r2 S_r3 S_r4))) (dW uD uE z.1 z.2.1 D_x3 z.2.2.1 z.2.2.2.1 z.2.2.2.2.1 z.2.2.2.2.2.1 z.2.2.2.2.2.2.1 ++ (eW cB uE aE E_x1 E_r0 ++ (sW cI uS aS S_x5 S_x6 S_x7 S_x8 S_x9 S_r0 S_r1 S_r2 z.2.2.2.2.2.2.2 S_r4))) [.ref uD, .ref uS] none := by
  refine entryV (by decide +kernel) rfl (Nat.le_of_ble_eq_true rfl) ?_
  intro p e s m below meth c A ls QQ R ar F hRet jP jD jS jl
  obtain ⟨hx, hb, hml, hown, hts, jK, hA, hf1, hf2⟩ := id F
  have jl : lv_has ls 3 [(0, .ref uD), (1, .ref uS)] := jl
  unfold fX0_takeFail at h
  refine lv_aload_n hx hb dX0_takeFail_0 rfl (lv_at jl 0 rfl) ?_
  refine lv_iconst (v := (0 : Int32)) hx hb dX0_takeFail_1 (by decide) ?_
  refine lv_aload_n hx hb dX0_takeFail_2 rfl (lv_at jl 1 rfl) ?_
  refine va_get (D := D) (ci := 2) (v := .int S_x5) (C := RX2) (T := TX2) (N := 10) hx hb hts in2 hown jK.1 jP 3 rfl rfl 5 (by decide) (hts _ w_167) (fun _ h9 => h9) rfl dX0_takeFail_3 ?_
  refine lv_iconst (v := (1 : Int32)) hx hb dX0_takeFail_6 (by decide) ?_
  refine lv_isub hx hb dX0_takeFail_7 ?_
  obtain ⟨t1, hc2, h⟩ := bd_some h
  refine callP (wc := (dW uD uE D_x1 D_x2 D_x3 D_x4 D_x5 D_x6 D_x7 D_x8 ++ (eW cB uE aE E_x1 E_r0))) (wr := (sW cI uS aS S_x5 S_x6 S_x7 S_x8 S_x9 S_r0 S_r1 S_r2 S_r3 S_r4)) (w1 := (dW uD uE t1.2.1 t1.2.2.1 D_x3 t1.2.2.2.1 D_x5 t1.2.2.2.2.1 t1.2.2.2.2.2.1 t1.2.2.2.2.2.2 ++ (eW cB uE aE E_x1 E_r0))) (ws1 := (dW uD uE t1.2.1 t1.2.2.1 D_x3 t1.2.2.2.1 D_x5 t1.2.2.2.2.1 t1.2.2.2.2.2.1 t1.2.2.2.2.2.2 ++ (eW cB uE aE E_x1 E_r0 ++ (sW cI uS aS S_x5 S_x6 S_x7 S_x8 S_x9 S_r0 S_r1 S_r2 S_r3 S_r4)))) (As := [.int (0 : Int32), .int (S_x5 - (1 : Int32))]) (rest := []) (st1 := [.int t1.1]) 0 [0, 1, 2] [3, 4, 5, 6, 7, 8] [6, 7, 8, 0, 1, 2, 3, 4, 5] F (kX0_takeNumber l D cI cB cS uD D_x1 D_x2 D_x3 D_x4 D_x5 D_x6 D_x7 D_x8 uE aE E_x1 E_r0 (0 : Int32) (S_x5 - (1 : Int32)) _ hc2 ) okX0_takeNumber w_168 (by decide) (by decide) ⟨Nat.zero_le _, Nat.zero_le _⟩ rfl rfl rfl jP jD jS rfl jl.1 rfl rfl (Nat.le_of_ble_eq_true rfl) dX0_takeFail_8 rfl rfl (by decide) (by decide) (by decide) rfl (by decide) (fun H locs jP jD jS => ?_)
  refine lv_istore_n (lv' := [(2, .int t1.1), (0, .ref uD), (1, .ref uS)]) hx hb dX0_takeFail_11 rfl jl (by decide) rfl (fun ls jl => ?_)
  refine lv_aload_n hx hb dX0_takeFail_12 rfl (lv_at jl 1 rfl) ?_
  refine lv_iconst (v := (0 : Int32)) hx hb dX0_takeFail_13 (by decide) ?_
  refine lv_iload_n hx hb dX0_takeFail_14 rfl (lv_at jl 0 rfl) ?_
  refine lv_iadd hx hb dX0_takeFail_15 ?_
  obtain ⟨t3, hc4, h⟩ := bd_some h
  refine callP (wc := (dW uD uE t1.2.1 t1.2.2.1 D_x3 t1.2.2.2.1 D_x5 t1.2.2.2.2.1 t1.2.2.2.2.2.1 t1.2.2.2.2.2.2)) (wr := (eW cB uE aE E_x1 E_r0 ++ (sW cI uS aS S_x5 S_x6 S_x7 S_x8 S_x9 S_r0 S_r1 S_r2 S_r3 S_r4))) (w1 := (dW uD uE t3.1 t3.2.1 D_x3 t1.2.2.2.1 t3.2.2 t1.2.2.2.2.1 t1.2.2.2.2.2.1 t1.2.2.2.2.2.2)) (ws1 := (dW uD uE t3.1 t3.2.1 D_x3 t1.2.2.2.1 t3.2.2 t1.2.2.2.2.1 t1.2.2.2.2.2.1 t1.2.2.2.2.2.2 ++ (eW cB uE aE E_x1 E_r0 ++ (sW cI uS aS S_x5 S_x6 S_x7 S_x8 S_x9 S_r0 S_r1 S_r2 S_r3 S_r4)))) (As := [.int ((0 : Int32) + t1.1)]) (rest := []) (st1 := []) 0 [0] [1, 2, 3, 4, 5, 6, 7, 8] [8, 0, 1, 2, 3, 4, 5, 6, 7] F (kX0_tellOnce l D cI cB cS uD t1.2.1 t1.2.2.1 D_x3 t1.2.2.2.1 D_x5 t1.2.2.2.2.1 t1.2.2.2.2.2.1 t1.2.2.2.2.2.2 uE ((0 : Int32) + t1.1) _ hc4 ) okX0_tellOnce w_181 (by decide) (by decide) ⟨Nat.zero_le _, Nat.zero_le _⟩ rfl rfl rfl jP jD jS rfl jl.1 rfl rfl (Nat.le_of_ble_eq_true rfl) dX0_takeFail_16 rfl rfl (by decide) (by decide) (by decide) rfl (by decide) (fun H locs jP jD jS => ?_)
  refine lv_aload_n hx hb dX0_takeFail_19 rfl (lv_at jl 2 rfl) ?_
  refine va_get (D := D) (ci := 2) (v := .ref (aS 3)) (C := RX2) (T := TX2) (N := 10) hx hb hts in2 hown jK.1 jP 3 rfl rfl 3 (by decide) (hts _ w_180) (fun _ h9 => h9) rfl dX0_takeFail_20 ?_
  refine lv_iload_n hx hb dX0_takeFail_23 rfl (lv_at jl 0 rfl) ?_
  refine lv_aload_n hx hb dX0_takeFail_24 rfl (lv_at jl 1 rfl) ?_
  refine lv_iconst (v := (0 : Int32)) hx hb dX0_takeFail_25 (by decide) ?_
  refine lv_bipush (v := (10 : Int32)) hx hb dX0_takeFail_26 (by decide) ?_
  obtain ⟨t5, hc6, h⟩ := bd_some h
  refine callP (wc := (dW uD uE t3.1 t3.2.1 D_x3 t1.2.2.2.1 t3.2.2 t1.2.2.2.2.1 t1.2.2.2.2.2.1 t1.2.2.2.2.2.2 ++ (eW cB uE aE E_x1 E_r0))) (wr := (sW cI uS aS S_x5 S_x6 S_x7 S_x8 S_x9 S_r0 S_r1 S_r2 S_r3 S_r4)) (w1 := (dW uD uE t5.2.1 t5.2.2.1 D_x3 t5.2.2.2.1 t3.2.2 t5.2.2.2.2.1 t5.2.2.2.2.2.1 t5.2.2.2.2.2.2 ++ (eW cB uE aE E_x1 E_r0))) (ws1 := (dW uD uE t5.2.1 t5.2.2.1 D_x3 t5.2.2.2.1 t3.2.2 t5.2.2.2.2.1 t5.2.2.2.2.2.1 t5.2.2.2.2.2.2 ++ (eW cB uE aE E_x1 E_r0 ++ (sW cI uS aS S_x5 S_x6 S_x7 S_x8 S_x9 S_r0 S_r1 S_r2 S_r3 S_r4)))) (As := [.int (0 : Int32), .int (10 : Int32)]) (rest := [.int t1.1, .ref (aS 3)]) (st1 := [.int t5.1, .int t1.1, .ref (aS 3)]) 0 [0, 1, 2] [3, 4, 5, 6, 7, 8] [6, 7, 8, 0, 1, 2, 3, 4, 5] F (kX0_takeNumber l D cI cB cS uD t3.1 t3.2.1 D_x3 t1.2.2.2.1 t3.2.2 t1.2.2.2.2.1 t1.2.2.2.2.2.1 t1.2.2.2.2.2.2 uE aE E_x1 E_r0 (0 : Int32) (10 : Int32) _ hc6 ) okX0_takeNumber w_168 (by decide) (by decide) ⟨Nat.zero_le _, Nat.zero_le _⟩ rfl rfl rfl jP jD jS rfl jl.1 rfl rfl (Nat.le_of_ble_eq_true rfl) dX0_takeFail_28 rfl rfl (by decide) (by decide) (by decide) rfl (by decide) (fun H locs jP jD jS => ?_)
  obtain ⟨hin, h⟩ := ckI_some h
  refine va_iast (f := S_r3) hx hb jK.1 jP jD jS 7 0 rfl rfl hin dX0_takeFail_31 (fun H locs jP jD jS => ?_)
  have jP : va_P D vwCl (dW uD uE t5.2.1 t5.2.2.1 D_x3 t5.2.2.2.1 t3.2.2 t5.2.2.2.2.1 t5.2.2.2.2.2.1 t5.2.2.2.2.2.2 ++ (eW cB uE aE E_x1 E_r0 ++ (sW cI uS aS S_x5 S_x6 S_x7 S_x8 S_x9 S_r0 S_r1 S_r2 (upd S_r3 t1.1.toNatClampNeg t5.1) S_r4))) H := jP
  have jD : va_D A (dW uD uE t5.2.1 t5.2.2.1 D_x3 t5.2.2.2.1 t3.2.2 t5.2.2.2.2.1 t5.2.2.2.2.2.1 t5.2.2.2.2.2.2 ++ (eW cB uE aE E_x1 E_r0 ++ (sW cI uS aS S_x5 S_x6 S_x7 S_x8 S_x9 S_r0 S_r1 S_r2 (upd S_r3 t1.1.toNatClampNeg t5.1) S_r4))) := jD
  obtain rfl := Option.some.inj h
  exact hRet _ _ _ _ jP jD jS dX0_takeFail_32
theorem okX0_takeMust : okV yX0_takeMust cX0_takeMust 3 none 1 := ⟨w_186, w_187, w_188, w_19, by decide, by decide, by decide +kernel⟩
def fX0_takeMust (D_x1 : Int32) (D_x2 : Int32) (D_x4 : Int32) (D_x5 : Int32) (D_x6 : Int32) (D_x7 : Int32) (D_x8 : Int32) (E_r0 : (Nat → Int32)) (E_x1 : Int32) (S_r0 : (Nat → Int32)) (S_r4 : (Nat → Int32)) (S_x5 : Int32) : Option (Int32 × Int32 × Int32 × Int32 × Int32 × Int32 × Int32 × (Nat → Int32)) :=
  bd (fX0_takeNumber (D_x1) (D_x2) (D_x4) (D_x6) (D_x7) (D_x8) (E_r0) (E_x1) (0 : Int32) (S_x5 - (1 : Int32))) (fun t1 => bd (fX0_tellOnce t1.2.1 t1.2.2.1 (D_x5) t1.2.2.2.2.2.1 ((8 : Int32) + t1.1)) (fun t3 => ckI t1.1 8 (bd (fX0_takeNumber t3.1 t3.2.1 t1.2.2.2.1 t1.2.2.2.2.1 t1.2.2.2.2.2.1 t1.2.2.2.2.2.2 (E_r0) (E_x1) (0 : Int32) (S_r0 t1.1.toNatClampNeg)) (fun t5 => ckI t1.1 8 (some (t5.2.1, t5.2.2.1, t5.2.2.2.1, t3.2.2, t5.2.2.2.2.1, t5.2.2.2.2.2.1, t5.2.2.2.2.2.2, (upd S_r4 t1.1.toNatClampNeg t5.1)))))))
set_option maxRecDepth 100000 in
set_option maxHeartbeats 4000000 in
theorem kX0_takeMust (l : Launch) (D : va_G) (cI cB cS : ClassId) (uD : Nat) (D_x1 : Int32) (D_x2 : Int32) (D_x3 : Int32) (D_x4 : Int32) (D_x5 : Int32) (D_x6 : Int32) (D_x7 : Int32) (D_x8 : Int32) (uE : Nat) (aE : Nat → Nat) (E_x1 : Int32) (E_r0 : (Nat → Int32)) (uS : Nat) (aS : Nat → Nat) (S_x5 : Int32) (S_x6 : Int32) (S_x7 : Int32) (S_x8 : Int32) (S_x9 : Int32) (S_r0 : (Nat → Int32)) (S_r1 : (Nat → Int32)) (S_r2 : (Nat → Int32)) (S_r3 : (Nat → Int32)) (S_r4 : (Nat → Int32)) (z : (Int32 × Int32 × Int32 × Int32 × Int32 × Int32 × Int32 × (Nat → Int32))) (h : fX0_takeMust D_x1 D_x2 D_x4 D_x5 D_x6 D_x7 D_x8 E_r0 E_x1 S_r0 S_r4 S_x5 = some z) : Mt l yX0_takeMust cX0_takeMust 3 none 3 68 D cI cB cS (dW uD uE D_x1 D_x2 D_x3 D_x4 D_x5 D_x6 D_x7 D_x8 ++ (eW cB uE aE E_x1 E_r0 ++ (sW cI uS aS S_x5 S_x6 S_x7 S_x8 S_x9 S_r0 S_r1 S_r2 S_r3 S_r4))) (dW uD uE z.1 z.2.1 D_x3 z.2.2.1 z.2.2.2.1 z.2.2.2.2.1 z.2.2.2.2.2.1 z.2.2.2.2.2.2.1 ++ (eW cB uE aE E_x1 E_r0 ++ (sW cI uS aS S_x5 S_x6 S_x7 S_x8 S_x9 S_r0 S_r1 S_r2 S_r3 z.2.2.2.2.2.2.2))) [.ref uD, .ref uS] none := by
  refine entryV (by decide +kernel) rfl (Nat.le_of_ble_eq_true rfl) ?_
  intro p e s m below meth c A ls QQ R ar F hRet jP jD jS jl
  obtain ⟨hx, hb, hml, hown, hts, jK, hA, hf1, hf2⟩ := id F
  have jl : lv_has ls 3 [(0, .ref uD), (1, .ref uS)] := jl
  unfold fX0_takeMust at h
  refine lv_aload_n hx hb dX0_takeMust_0 rfl (lv_at jl 0 rfl) ?_
  refine lv_iconst (v := (0 : Int32)) hx hb dX0_takeMust_1 (by decide) ?_
  refine lv_aload_n hx hb dX0_takeMust_2 rfl (lv_at jl 1 rfl) ?_
  refine va_get (D := D) (ci := 2) (v := .int S_x5) (C := RX2) (T := TX2) (N := 10) hx hb hts in2 hown jK.1 jP 3 rfl rfl 5 (by decide) (hts _ w_167) (fun _ h9 => h9) rfl dX0_takeMust_3 ?_
  refine lv_iconst (v := (1 : Int32)) hx hb dX0_takeMust_6 (by decide) ?_
  refine lv_isub hx hb dX0_takeMust_7 ?_
  obtain ⟨t1, hc2, h⟩ := bd_some h
  refine callP (wc := (dW uD uE D_x1 D_x2 D_x3 D_x4 D_x5 D_x6 D_x7 D_x8 ++ (eW cB uE aE E_x1 E_r0))) (wr := (sW cI uS aS S_x5 S_x6 S_x7 S_x8 S_x9 S_r0 S_r1 S_r2 S_r3 S_r4)) (w1 := (dW uD uE t1.2.1 t1.2.2.1 D_x3 t1.2.2.2.1 D_x5 t1.2.2.2.2.1 t1.2.2.2.2.2.1 t1.2.2.2.2.2.2 ++ (eW cB uE aE E_x1 E_r0))) (ws1 := (dW uD uE t1.2.1 t1.2.2.1 D_x3 t1.2.2.2.1 D_x5 t1.2.2.2.2.1 t1.2.2.2.2.2.1 t1.2.2.2.2.2.2 ++ (eW cB uE aE E_x1 E_r0 ++ (sW cI uS aS S_x5 S_x6 S_x7 S_x8 S_x9 S_r0 S_r1 S_r2 S_r3 S_r4)))) (As := [.int (0 : Int32), .int (S_x5 - (1 : Int32))]) (rest := []) (st1 := [.int t1.1]) 0 [0, 1, 2] [3, 4, 5, 6, 7, 8] [6, 7, 8, 0, 1, 2, 3, 4, 5] F (kX0_takeNumber l D cI cB cS uD D_x1 D_x2 D_x3 D_x4 D_x5 D_x6 D_x7 D_x8 uE aE E_x1 E_r0 (0 : Int32) (S_x5 - (1 : Int32)) _ hc2 ) okX0_takeNumber w_168 (by decide) (by decide) ⟨Nat.zero_le _, Nat.zero_le _⟩ rfl rfl rfl jP jD jS rfl jl.1 rfl rfl (Nat.le_of_ble_eq_true rfl) dX0_takeMust_8 rfl rfl (by decide) (by decide) (by decide) rfl (by decide) (fun H locs jP jD jS => ?_)
  refine lv_istore_n (lv' := [(2, .int t1.1), (0, .ref uD), (1, .ref uS)]) hx hb dX0_takeMust_11 rfl jl (by decide) rfl (fun ls jl => ?_)
  refine lv_aload_n hx hb dX0_takeMust_12 rfl (lv_at jl 1 rfl) ?_
  refine lv_bipush (v := (8 : Int32)) hx hb dX0_takeMust_13 (by decide) ?_
  refine lv_iload_n hx hb dX0_takeMust_15 rfl (lv_at jl 0 rfl) ?_
  refine lv_iadd hx hb dX0_takeMust_16 ?_
  obtain ⟨t3, hc4, h⟩ := bd_some h
  refine callP (wc := (dW uD uE t1.2.1 t1.2.2.1 D_x3 t1.2.2.2.1 D_x5 t1.2.2.2.2.1 t1.2.2.2.2.2.1 t1.2.2.2.2.2.2)) (wr := (eW cB uE aE E_x1 E_r0 ++ (sW cI uS aS S_x5 S_x6 S_x7 S_x8 S_x9 S_r0 S_r1 S_r2 S_r3 S_r4))) (w1 := (dW uD uE t3.1 t3.2.1 D_x3 t1.2.2.2.1 t3.2.2 t1.2.2.2.2.1 t1.2.2.2.2.2.1 t1.2.2.2.2.2.2)) (ws1 := (dW uD uE t3.1 t3.2.1 D_x3 t1.2.2.2.1 t3.2.2 t1.2.2.2.2.1 t1.2.2.2.2.2.1 t1.2.2.2.2.2.2 ++ (eW cB uE aE E_x1 E_r0 ++ (sW cI uS aS S_x5 S_x6 S_x7 S_x8 S_x9 S_r0 S_r1 S_r2 S_r3 S_r4)))) (As := [.int ((8 : Int32) + t1.1)]) (rest := []) (st1 := []) 0 [0] [1, 2, 3, 4, 5, 6, 7, 8] [8, 0, 1, 2, 3, 4, 5, 6, 7] F (kX0_tellOnce l D cI cB cS uD t1.2.1 t1.2.2.1 D_x3 t1.2.2.2.1 D_x5 t1.2.2.2.2.1 t1.2.2.2.2.2.1 t1.2.2.2.2.2.2 uE ((8 : Int32) + t1.1) _ hc4 ) okX0_tellOnce w_181 (by decide) (by decide) ⟨Nat.zero_le _, Nat.zero_le _⟩ rfl rfl rfl jP jD jS rfl jl.1 rfl rfl (Nat.le_of_ble_eq_true rfl) dX0_takeMust_17 rfl rfl (by decide) (by decide) (by decide) rfl (by decide) (fun H locs jP jD jS => ?_)
  refine lv_aload_n hx hb dX0_takeMust_20 rfl (lv_at jl 2 rfl) ?_
  refine va_get (D := D) (ci := 2) (v := .ref (aS 4)) (C := RX2) (T := TX2) (N := 10) hx hb hts in2 hown jK.1 jP 3 rfl rfl 4 (by decide) (hts _ w_189) (fun _ h9 => h9) rfl dX0_takeMust_21 ?_
  refine lv_iload_n hx hb dX0_takeMust_24 rfl (lv_at jl 0 rfl) ?_
  refine lv_aload_n hx hb dX0_takeMust_25 rfl (lv_at jl 1 rfl) ?_
  refine lv_iconst (v := (0 : Int32)) hx hb dX0_takeMust_26 (by decide) ?_
  refine lv_aload_n hx hb dX0_takeMust_27 rfl (lv_at jl 2 rfl) ?_
  refine va_get (D := D) (ci := 2) (v := .ref (aS 0)) (C := RX2) (T := TX2) (N := 10) hx hb hts in2 hown jK.1 jP 3 rfl rfl 0 (by decide) (hts _ w_190) (fun _ h9 => h9) rfl dX0_takeMust_28 ?_
  refine lv_iload_n hx hb dX0_takeMust_31 rfl (lv_at jl 0 rfl) ?_
  obtain ⟨hin, h⟩ := ckI_some h
  refine va_iald (f := S_r0) hx hb jK.1 jP 4 0 rfl rfl hin dX0_takeMust_32 ?_
  obtain ⟨t5, hc6, h⟩ := bd_some h
  refine callP (wc := (dW uD uE t3.1 t3.2.1 D_x3 t1.2.2.2.1 t3.2.2 t1.2.2.2.2.1 t1.2.2.2.2.2.1 t1.2.2.2.2.2.2 ++ (eW cB uE aE E_x1 E_r0))) (wr := (sW cI uS aS S_x5 S_x6 S_x7 S_x8 S_x9 S_r0 S_r1 S_r2 S_r3 S_r4)) (w1 := (dW uD uE t5.2.1 t5.2.2.1 D_x3 t5.2.2.2.1 t3.2.2 t5.2.2.2.2.1 t5.2.2.2.2.2.1 t5.2.2.2.2.2.2 ++ (eW cB uE aE E_x1 E_r0))) (ws1 := (dW uD uE t5.2.1 t5.2.2.1 D_x3 t5.2.2.2.1 t3.2.2 t5.2.2.2.2.1 t5.2.2.2.2.2.1 t5.2.2.2.2.2.2 ++ (eW cB uE aE E_x1 E_r0 ++ (sW cI uS aS S_x5 S_x6 S_x7 S_x8 S_x9 S_r0 S_r1 S_r2 S_r3 S_r4)))) (As := [.int (0 : Int32), .int (S_r0 t1.1.toNatClampNeg)]) (rest := [.int t1.1, .ref (aS 4)]) (st1 := [.int t5.1, .int t1.1, .ref (aS 4)]) 0 [0, 1, 2] [3, 4, 5, 6, 7, 8] [6, 7, 8, 0, 1, 2, 3, 4, 5] F (kX0_takeNumber l D cI cB cS uD t3.1 t3.2.1 D_x3 t1.2.2.2.1 t3.2.2 t1.2.2.2.2.1 t1.2.2.2.2.2.1 t1.2.2.2.2.2.2 uE aE E_x1 E_r0 (0 : Int32) (S_r0 t1.1.toNatClampNeg) _ hc6 ) okX0_takeNumber w_168 (by decide) (by decide) ⟨Nat.zero_le _, Nat.zero_le _⟩ rfl rfl rfl jP jD jS rfl jl.1 rfl rfl (Nat.le_of_ble_eq_true rfl) dX0_takeMust_33 rfl rfl (by decide) (by decide) (by decide) rfl (by decide) (fun H locs jP jD jS => ?_)
  obtain ⟨hin, h⟩ := ckI_some h
  refine va_iast (f := S_r4) hx hb jK.1 jP jD jS 8 0 rfl rfl hin dX0_takeMust_36 (fun H locs jP jD jS => ?_)
  have jP : va_P D vwCl (dW uD uE t5.2.1 t5.2.2.1 D_x3 t5.2.2.2.1 t3.2.2 t5.2.2.2.2.1 t5.2.2.2.2.2.1 t5.2.2.2.2.2.2 ++ (eW cB uE aE E_x1 E_r0 ++ (sW cI uS aS S_x5 S_x6 S_x7 S_x8 S_x9 S_r0 S_r1 S_r2 S_r3 (upd S_r4 t1.1.toNatClampNeg t5.1)))) H := jP
  have jD : va_D A (dW uD uE t5.2.1 t5.2.2.1 D_x3 t5.2.2.2.1 t3.2.2 t5.2.2.2.2.1 t5.2.2.2.2.2.1 t5.2.2.2.2.2.2 ++ (eW cB uE aE E_x1 E_r0 ++ (sW cI uS aS S_x5 S_x6 S_x7 S_x8 S_x9 S_r0 S_r1 S_r2 S_r3 (upd S_r4 t1.1.toNatClampNeg t5.1)))) := jD
  obtain rfl := Option.some.inj h
  exact hRet _ _ _ _ jP jD jS dX0_takeMust_37
theorem okX0_takeMark : okV yX0_takeMark cX0_takeMark 2 none 1 := ⟨w_192, w_193, w_194, w_19, by decide, by decide, by decide +kernel⟩
def fX0_takeMark (D_x1 : Int32) (D_x2 : Int32) (D_x4 : Int32) (D_x5 : Int32) (D_x6 : Int32) (D_x7 : Int32) (D_x8 : Int32) (E_r0 : (Nat → Int32)) (E_x1 : Int32) : Option (Int32 × Int32 × Int32 × Int32 × Int32 × Int32 × Int32 × Int32) :=
  bd (fX0_tellOnce (D_x1) (D_x2) (D_x5) (D_x7) (16 : Int32)) (fun t1 => bd (fX0_takeNumber t1.1 t1.2.1 (D_x4) (D_x6) (D_x7) (D_x8) (E_r0) (E_x1) (0 : Int32) (99 : Int32)) (fun t3 => some (t3.2.1, t3.2.2.1, t3.2.2.2.1, t1.2.2, t3.2.2.2.2.1, t3.2.2.2.2.2.1, t3.2.2.2.2.2.2, t3.1)))
set_option maxRecDepth 100000 in
set_option maxHeartbeats 4000000 in
theorem kX0_takeMark (l : Launch) (D : va_G) (cI cB cS : ClassId) (uD : Nat) (D_x1 : Int32) (D_x2 : Int32) (D_x3 : Int32) (D_x4 : Int32) (D_x5 : Int32) (D_x6 : Int32) (D_x7 : Int32) (D_x8 : Int32) (uE : Nat) (aE : Nat → Nat) (E_x1 : Int32) (E_r0 : (Nat → Int32)) (uS : Nat) (aS : Nat → Nat) (S_x5 : Int32) (S_x6 : Int32) (S_x7 : Int32) (S_x8 : Int32) (S_x9 : Int32) (S_r0 : (Nat → Int32)) (S_r1 : (Nat → Int32)) (S_r2 : (Nat → Int32)) (S_r3 : (Nat → Int32)) (S_r4 : (Nat → Int32)) (z : (Int32 × Int32 × Int32 × Int32 × Int32 × Int32 × Int32 × Int32)) (h : fX0_takeMark D_x1 D_x2 D_x4 D_x5 D_x6 D_x7 D_x8 E_r0 E_x1 = some z) : Mt l yX0_takeMark cX0_takeMark 2 none 3 68 D cI cB cS (dW uD uE D_x1 D_x2 D_x3 D_x4 D_x5 D_x6 D_x7 D_x8 ++ (eW cB uE aE E_x1 E_r0 ++ (sW cI uS aS S_x5 S_x6 S_x7 S_x8 S_x9 S_r0 S_r1 S_r2 S_r3 S_r4))) (dW uD uE z.1 z.2.1 D_x3 z.2.2.1 z.2.2.2.1 z.2.2.2.2.1 z.2.2.2.2.2.1 z.2.2.2.2.2.2.1 ++ (eW cB uE aE E_x1 E_r0 ++ (sW cI uS aS S_x5 z.2.2.2.2.2.2.2 S_x7 S_x8 S_x9 S_r0 S_r1 S_r2 S_r3 S_r4))) [.ref uD, .ref uS] none := by
  refine entryV (by decide +kernel) rfl (Nat.le_of_ble_eq_true rfl) ?_
  intro p e s m below meth c A ls QQ R ar F hRet jP jD jS jl
  obtain ⟨hx, hb, hml, hown, hts, jK, hA, hf1, hf2⟩ := id F
  have jl : lv_has ls 2 [(0, .ref uD), (1, .ref uS)] := jl
  unfold fX0_takeMark at h
  refine lv_aload_n hx hb dX0_takeMark_0 rfl (lv_at jl 0 rfl) ?_
  refine lv_bipush (v := (16 : Int32)) hx hb dX0_takeMark_1 (by decide) ?_
  obtain ⟨t1, hc2, h⟩ := bd_some h
  refine callP (wc := (dW uD uE D_x1 D_x2 D_x3 D_x4 D_x5 D_x6 D_x7 D_x8)) (wr := (eW cB uE aE E_x1 E_r0 ++ (sW cI uS aS S_x5 S_x6 S_x7 S_x8 S_x9 S_r0 S_r1 S_r2 S_r3 S_r4))) (w1 := (dW uD uE t1.1 t1.2.1 D_x3 D_x4 t1.2.2 D_x6 D_x7 D_x8)) (ws1 := (dW uD uE t1.1 t1.2.1 D_x3 D_x4 t1.2.2 D_x6 D_x7 D_x8 ++ (eW cB uE aE E_x1 E_r0 ++ (sW cI uS aS S_x5 S_x6 S_x7 S_x8 S_x9 S_r0 S_r1 S_r2 S_r3 S_r4)))) (As := [.int (16 : Int32)]) (rest := []) (st1 := []) 0 [0] [1, 2, 3, 4, 5, 6, 7, 8] [8, 0, 1, 2, 3, 4, 5, 6, 7] F (kX0_tellOnce l D cI cB cS uD D_x1 D_x2 D_x3 D_x4 D_x5 D_x6 D_x7 D_x8 uE (16 : Int32) _ hc2 ) okX0_tellOnce w_181 (by decide) (by decide) ⟨Nat.zero_le _, Nat.zero_le _⟩ rfl rfl rfl jP jD jS rfl jl.1 rfl rfl (Nat.le_of_ble_eq_true rfl) dX0_takeMark_3 rfl rfl (by decide) (by decide) (by decide) rfl (by decide) (fun H locs jP jD jS => ?_)
  refine lv_aload_n hx hb dX0_takeMark_6 rfl (lv_at jl 1 rfl) ?_
  refine lv_aload_n hx hb dX0_takeMark_7 rfl (lv_at jl 0 rfl) ?_
  refine lv_iconst (v := (0 : Int32)) hx hb dX0_takeMark_8 (by decide) ?_
  refine lv_bipush (v := (99 : Int32)) hx hb dX0_takeMark_9 (by decide) ?_
  obtain ⟨t3, hc4, h⟩ := bd_some h
  refine callP (wc := (dW uD uE t1.1 t1.2.1 D_x3 D_x4 t1.2.2 D_x6 D_x7 D_x8 ++ (eW cB uE aE E_x1 E_r0))) (wr := (sW cI uS aS S_x5 S_x6 S_x7 S_x8 S_x9 S_r0 S_r1 S_r2 S_r3 S_r4)) (w1 := (dW uD uE t3.2.1 t3.2.2.1 D_x3 t3.2.2.2.1 t1.2.2 t3.2.2.2.2.1 t3.2.2.2.2.2.1 t3.2.2.2.2.2.2 ++ (eW cB uE aE E_x1 E_r0))) (ws1 := (dW uD uE t3.2.1 t3.2.2.1 D_x3 t3.2.2.2.1 t1.2.2 t3.2.2.2.2.1 t3.2.2.2.2.2.1 t3.2.2.2.2.2.2 ++ (eW cB uE aE E_x1 E_r0 ++ (sW cI uS aS S_x5 S_x6 S_x7 S_x8 S_x9 S_r0 S_r1 S_r2 S_r3 S_r4)))) (As := [.int (0 : Int32), .int (99 : Int32)]) (rest := [.ref uS]) (st1 := [.int t3.1, .ref uS]) 0 [0, 1, 2] [3, 4, 5, 6, 7, 8] [6, 7, 8, 0, 1, 2, 3, 4, 5] F (kX0_takeNumber l D cI cB cS uD t1.1 t1.2.1 D_x3 D_x4 t1.2.2 D_x6 D_x7 D_x8 uE aE E_x1 E_r0 (0 : Int32) (99 : Int32) _ hc4 ) okX0_takeNumber w_168 (by decide) (by decide) ⟨Nat.zero_le _, Nat.zero_le _⟩ rfl rfl rfl jP jD jS rfl jl.1 rfl rfl (Nat.le_of_ble_eq_true rfl) dX0_takeMark_11 rfl rfl (by decide) (by decide) (by decide) rfl (by decide) (fun H locs jP jD jS => ?_)
  refine va_put (D := D) (ci := 2) (v := .int t3.1) (ty := .int) (C := RX2) (T := TX2) (N := 10) hx hb hts in2 tyX2 tyX2_ok nmX2 hown jK.1 jP jD jS 3 rfl rfl 6 (by decide) (hts _ w_195) (fun _ h9 => h9) rfl (by decide +kernel) rfl rfl (Nat.le_of_ble_eq_true rfl) dX0_takeMark_14 (fun H locs jP jD jS => ?_)
  have jP : va_P D vwCl (dW uD uE t3.2.1 t3.2.2.1 D_x3 t3.2.2.2.1 t1.2.2 t3.2.2.2.2.1 t3.2.2.2.2.2.1 t3.2.2.2.2.2.2 ++ (eW cB uE aE E_x1 E_r0 ++ (sW cI uS aS S_x5 t3.1 S_x7 S_x8 S_x9 S_r0 S_r1 S_r2 S_r3 S_r4))) H := jP
  have jD : va_D A (dW uD uE t3.2.1 t3.2.2.1 D_x3 t3.2.2.2.1 t1.2.2 t3.2.2.2.2.1 t3.2.2.2.2.2.1 t3.2.2.2.2.2.2 ++ (eW cB uE aE E_x1 E_r0 ++ (sW cI uS aS S_x5 t3.1 S_x7 S_x8 S_x9 S_r0 S_r1 S_r2 S_r3 S_r4))) := jD
  obtain rfl := Option.some.inj h
  exact hRet _ _ _ _ jP jD jS dX0_takeMark_17
theorem okX0_takeLook : okV yX0_takeLook cX0_takeLook 2 none 1 := ⟨w_197, w_198, w_199, w_19, by decide, by decide, by decide +kernel⟩
def fX0_takeLook (D_x1 : Int32) (D_x2 : Int32) (D_x4 : Int32) (D_x5 : Int32) (D_x6 : Int32) (D_x7 : Int32) (D_x8 : Int32) (E_r0 : (Nat → Int32)) (E_x1 : Int32) : Option (Int32 × Int32 × Int32 × Int32 × Int32 × Int32 × Int32 × Int32 × Int32) :=
  bd (fX0_tellOnce (D_x1) (D_x2) (D_x5) (D_x7) (17 : Int32)) (fun t1 => bd (fX0_takeNumber t1.1 t1.2.1 (D_x4) (D_x6) (D_x7) (D_x8) (E_r0) (E_x1) (4 : Int32) (8 : Int32)) (fun t3 => bd (fX0_takeNumber t3.2.1 t3.2.2.1 t3.2.2.2.1 t3.2.2.2.2.1 t3.2.2.2.2.2.1 t3.2.2.2.2.2.2 (E_r0) (E_x1) (0 : Int32) (20 : Int32)) (fun t5 => some (t5.2.1, t5.2.2.1, t5.2.2.2.1, t1.2.2, t5.2.2.2.2.1, t5.2.2.2.2.2.1, t5.2.2.2.2.2.2, t3.1, t5.1))))
set_option maxRecDepth 100000 in
set_option maxHeartbeats 4000000 in
theorem kX0_takeLook (l : Launch) (D : va_G) (cI cB cS : ClassId) (uD : Nat) (D_x1 : Int32) (D_x2 : Int32) (D_x3 : Int32) (D_x4 : Int32) (D_x5 : Int32) (D_x6 : Int32) (D_x7 : Int32) (D_x8 : Int32) (uE : Nat) (aE : Nat → Nat) (E_x1 : Int32) (E_r0 : (Nat → Int32)) (uS : Nat) (aS : Nat → Nat) (S_x5 : Int32) (S_x6 : Int32) (S_x7 : Int32) (S_x8 : Int32) (S_x9 : Int32) (S_r0 : (Nat → Int32)) (S_r1 : (Nat → Int32)) (S_r2 : (Nat → Int32)) (S_r3 : (Nat → Int32)) (S_r4 : (Nat → Int32)) (z : (Int32 × Int32 × Int32 × Int32 × Int32 × Int32 × Int32 × Int32 × Int32)) (h : fX0_takeLook D_x1 D_x2 D_x4 D_x5 D_x6 D_x7 D_x8 E_r0 E_x1 = some z) : Mt l yX0_takeLook cX0_takeLook 2 none 3 68 D cI cB cS (dW uD uE D_x1 D_x2 D_x3 D_x4 D_x5 D_x6 D_x7 D_x8 ++ (eW cB uE aE E_x1 E_r0 ++ (sW cI uS aS S_x5 S_x6 S_x7 S_x8 S_x9 S_r0 S_r1 S_r2 S_r3 S_r4))) (dW uD uE z.1 z.2.1 D_x3 z.2.2.1 z.2.2.2.1 z.2.2.2.2.1 z.2.2.2.2.2.1 z.2.2.2.2.2.2.1 ++ (eW cB uE aE E_x1 E_r0 ++ (sW cI uS aS S_x5 S_x6 z.2.2.2.2.2.2.2.1 z.2.2.2.2.2.2.2.2 S_x9 S_r0 S_r1 S_r2 S_r3 S_r4))) [.ref uD, .ref uS] none := by
  refine entryV (by decide +kernel) rfl (Nat.le_of_ble_eq_true rfl) ?_
  intro p e s m below meth c A ls QQ R ar F hRet jP jD jS jl
  obtain ⟨hx, hb, hml, hown, hts, jK, hA, hf1, hf2⟩ := id F
  have jl : lv_has ls 2 [(0, .ref uD), (1, .ref uS)] := jl
  unfold fX0_takeLook at h
  refine lv_aload_n hx hb dX0_takeLook_0 rfl (lv_at jl 0 rfl) ?_
  refine lv_bipush (v := (17 : Int32)) hx hb dX0_takeLook_1 (by decide) ?_
  obtain ⟨t1, hc2, h⟩ := bd_some h
  refine callP (wc := (dW uD uE D_x1 D_x2 D_x3 D_x4 D_x5 D_x6 D_x7 D_x8)) (wr := (eW cB uE aE E_x1 E_r0 ++ (sW cI uS aS S_x5 S_x6 S_x7 S_x8 S_x9 S_r0 S_r1 S_r2 S_r3 S_r4))) (w1 := (dW uD uE t1.1 t1.2.1 D_x3 D_x4 t1.2.2 D_x6 D_x7 D_x8)) (ws1 := (dW uD uE t1.1 t1.2.1 D_x3 D_x4 t1.2.2 D_x6 D_x7 D_x8 ++ (eW cB uE aE E_x1 E_r0 ++ (sW cI uS aS S_x5 S_x6 S_x7 S_x8 S_x9 S_r0 S_r1 S_r2 S_r3 S_r4)))) (As := [.int (17 : Int32)]) (rest := []) (st1 := []) 0 [0] [1, 2, 3, 4, 5, 6, 7, 8] [8, 0, 1, 2, 3, 4, 5, 6, 7] F (kX0_tellOnce l D cI cB cS uD D_x1 D_x2 D_x3 D_x4 D_x5 D_x6 D_x7 D_x8 uE (17 : Int32) _ hc2 ) okX0_tellOnce w_181 (by decide) (by decide) ⟨Nat.zero_le _, Nat.zero_le _⟩ rfl rfl rfl jP jD jS rfl jl.1 rfl rfl (Nat.le_of_ble_eq_true rfl) dX0_takeLook_3 rfl rfl (by decide) (by decide) (by decide) rfl (by decide) (fun H locs jP jD jS => ?_)
  refine lv_aload_n hx hb dX0_takeLook_6 rfl (lv_at jl 1 rfl) ?_
  refine lv_aload_n hx hb dX0_takeLook_7 rfl (lv_at jl 0 rfl) ?_
  refine lv_iconst (v := (4 : Int32)) hx hb dX0_takeLook_8 (by decide) ?_
  refine lv_bipush (v := (8 : Int32)) hx hb dX0_takeLook_9 (by decide) ?_
  obtain ⟨t3, hc4, h⟩ := bd_some h
  refine callP (wc := (dW uD uE t1.1 t1.2.1 D_x3 D_x4 t1.2.2 D_x6 D_x7 D_x8 ++ (eW cB uE aE E_x1 E_r0))) (wr := (sW cI uS aS S_x5 S_x6 S_x7 S_x8 S_x9 S_r0 S_r1 S_r2 S_r3 S_r4)) (w1 := (dW uD uE t3.2.1 t3.2.2.1 D_x3 t3.2.2.2.1 t1.2.2 t3.2.2.2.2.1 t3.2.2.2.2.2.1 t3.2.2.2.2.2.2 ++ (eW cB uE aE E_x1 E_r0))) (ws1 := (dW uD uE t3.2.1 t3.2.2.1 D_x3 t3.2.2.2.1 t1.2.2 t3.2.2.2.2.1 t3.2.2.2.2.2.1 t3.2.2.2.2.2.2 ++ (eW cB uE aE E_x1 E_r0 ++ (sW cI uS aS S_x5 S_x6 S_x7 S_x8 S_x9 S_r0 S_r1 S_r2 S_r3 S_r4)))) (As := [.int (4 : Int32), .int (8 : Int32)]) (rest := [.ref uS]) (st1 := [.int t3.1, .ref uS]) 0 [0, 1, 2] [3, 4, 5, 6, 7, 8] [6, 7, 8, 0, 1, 2, 3, 4, 5] F (kX0_takeNumber l D cI cB cS uD t1.1 t1.2.1 D_x3 D_x4 t1.2.2 D_x6 D_x7 D_x8 uE aE E_x1 E_r0 (4 : Int32) (8 : Int32) _ hc4 ) okX0_takeNumber w_168 (by decide) (by decide) ⟨Nat.zero_le _, Nat.zero_le _⟩ rfl rfl rfl jP jD jS rfl jl.1 rfl rfl (Nat.le_of_ble_eq_true rfl) dX0_takeLook_11 rfl rfl (by decide) (by decide) (by decide) rfl (by decide) (fun H locs jP jD jS => ?_)
  refine va_put (D := D) (ci := 2) (v := .int t3.1) (ty := .int) (C := RX2) (T := TX2) (N := 10) hx hb hts in2 tyX2 tyX2_ok nmX2 hown jK.1 jP jD jS 3 rfl rfl 7 (by decide) (hts _ w_200) (fun _ h9 => h9) rfl (by decide +kernel) rfl rfl (Nat.le_of_ble_eq_true rfl) dX0_takeLook_14 (fun H locs jP jD jS => ?_)
  have jP : va_P D vwCl (dW uD uE t3.2.1 t3.2.2.1 D_x3 t3.2.2.2.1 t1.2.2 t3.2.2.2.2.1 t3.2.2.2.2.2.1 t3.2.2.2.2.2.2 ++ (eW cB uE aE E_x1 E_r0 ++ (sW cI uS aS S_x5 S_x6 t3.1 S_x8 S_x9 S_r0 S_r1 S_r2 S_r3 S_r4))) H := jP
  have jD : va_D A (dW uD uE t3.2.1 t3.2.2.1 D_x3 t3.2.2.2.1 t1.2.2 t3.2.2.2.2.1 t3.2.2.2.2.2.1 t3.2.2.2.2.2.2 ++ (eW cB uE aE E_x1 E_r0 ++ (sW cI uS aS S_x5 S_x6 t3.1 S_x8 S_x9 S_r0 S_r1 S_r2 S_r3 S_r4))) := jD
  refine lv_aload_n hx hb dX0_takeLook_17 rfl (lv_at jl 1 rfl) ?_
  refine lv_aload_n hx hb dX0_takeLook_18 rfl (lv_at jl 0 rfl) ?_
  refine lv_iconst (v := (0 : Int32)) hx hb dX0_takeLook_19 (by decide) ?_
  refine lv_bipush (v := (20 : Int32)) hx hb dX0_takeLook_20 (by decide) ?_
  obtain ⟨t5, hc6, h⟩ := bd_some h
  refine callP (wc := (dW uD uE t3.2.1 t3.2.2.1 D_x3 t3.2.2.2.1 t1.2.2 t3.2.2.2.2.1 t3.2.2.2.2.2.1 t3.2.2.2.2.2.2 ++ (eW cB uE aE E_x1 E_r0))) (wr := (sW cI uS aS S_x5 S_x6 t3.1 S_x8 S_x9 S_r0 S_r1 S_r2 S_r3 S_r4)) (w1 := (dW uD uE t5.2.1 t5.2.2.1 D_x3 t5.2.2.2.1 t1.2.2 t5.2.2.2.2.1 t5.2.2.2.2.2.1 t5.2.2.2.2.2.2 ++ (eW cB uE aE E_x1 E_r0))) (ws1 := (dW uD uE t5.2.1 t5.2.2.1 D_x3 t5.2.2.2.1 t1.2.2 t5.2.2.2.2.1 t5.2.2.2.2.2.1 t5.2.2.2.2.2.2 ++ (eW cB uE aE E_x1 E_r0 ++ (sW cI uS aS S_x5 S_x6 t3.1 S_x8 S_x9 S_r0 S_r1 S_r2 S_r3 S_r4)))) (As := [.int (0 : Int32), .int (20 : Int32)]) (rest := [.ref uS]) (st1 := [.int t5.1, .ref uS]) 0 [0, 1, 2] [3, 4, 5, 6, 7, 8] [6, 7, 8, 0, 1, 2, 3, 4, 5] F (kX0_takeNumber l D cI cB cS uD t3.2.1 t3.2.2.1 D_x3 t3.2.2.2.1 t1.2.2 t3.2.2.2.2.1 t3.2.2.2.2.2.1 t3.2.2.2.2.2.2 uE aE E_x1 E_r0 (0 : Int32) (20 : Int32) _ hc6 ) okX0_takeNumber w_168 (by decide) (by decide) ⟨Nat.zero_le _, Nat.zero_le _⟩ rfl rfl rfl jP jD jS rfl jl.1 rfl rfl (Nat.le_of_ble_eq_true rfl) dX0_takeLook_22 rfl rfl (by decide) (by decide) (by decide) rfl (by decide) (fun H locs jP jD jS => ?_)
  refine va_put (D := D) (ci := 2) (v := .int t5.1) (ty := .int) (C := RX2) (T := TX2) (N := 10) hx hb hts in2 tyX2 tyX2_ok nmX2 hown jK.1 jP jD jS 3 rfl rfl 8 (by decide) (hts _ w_201) (fun _ h9 => h9) rfl (by decide +kernel) rfl rfl (Nat.le_of_ble_eq_true rfl) dX0_takeLook_25 (fun H locs jP jD jS => ?_)
  have jP : va_P D vwCl (dW uD uE t5.2.1 t5.2.2.1 D_x3 t5.2.2.2.1 t1.2.2 t5.2.2.2.2.1 t5.2.2.2.2.2.1 t5.2.2.2.2.2.2 ++ (eW cB uE aE E_x1 E_r0 ++ (sW cI uS aS S_x5 S_x6 t3.1 t5.1 S_x9 S_r0 S_r1 S_r2 S_r3 S_r4))) H := jP
  have jD : va_D A (dW uD uE t5.2.1 t5.2.2.1 D_x3 t5.2.2.2.1 t1.2.2 t5.2.2.2.2.1 t5.2.2.2.2.2.1 t5.2.2.2.2.2.2 ++ (eW cB uE aE E_x1 E_r0 ++ (sW cI uS aS S_x5 S_x6 t3.1 t5.1 S_x9 S_r0 S_r1 S_r2 S_r3 S_r4))) := jD
  obtain rfl := Option.some.inj h
  exact hRet _ _ _ _ jP jD jS dX0_takeLook_28
theorem okX0_takeKeen : okV yX0_takeKeen cX0_takeKeen 2 none 1 := ⟨w_203, w_204, w_205, w_19, by decide, by decide, by decide +kernel⟩
def fX0_takeKeen (D_x1 : Int32) (D_x2 : Int32) (D_x4 : Int32) (D_x5 : Int32) (D_x6 : Int32) (D_x7 : Int32) (D_x8 : Int32) (E_r0 : (Nat → Int32)) (E_x1 : Int32) : Option (Int32 × Int32 × Int32 × Int32 × Int32 × Int32 × Int32 × Int32) :=
  bd (fX0_tellOnce (D_x1) (D_x2) (D_x5) (D_x7) (18 : Int32)) (fun t1 => bd (fX0_takeNumber t1.1 t1.2.1 (D_x4) (D_x6) (D_x7) (D_x8) (E_r0) (E_x1) (1 : Int32) (10 : Int32)) (fun t3 => some (t3.2.1, t3.2.2.1, t3.2.2.2.1, t1.2.2, t3.2.2.2.2.1, t3.2.2.2.2.2.1, t3.2.2.2.2.2.2, t3.1)))
set_option maxRecDepth 100000 in
set_option maxHeartbeats 4000000 in
theorem kX0_takeKeen (l : Launch) (D : va_G) (cI cB cS : ClassId) (uD : Nat) (D_x1 : Int32) (D_x2 : Int32) (D_x3 : Int32) (D_x4 : Int32) (D_x5 : Int32) (D_x6 : Int32) (D_x7 : Int32) (D_x8 : Int32) (uE : Nat) (aE : Nat → Nat) (E_x1 : Int32) (E_r0 : (Nat → Int32)) (uS : Nat) (aS : Nat → Nat) (S_x5 : Int32) (S_x6 : Int32) (S_x7 : Int32) (S_x8 : Int32) (S_x9 : Int32) (S_r0 : (Nat → Int32)) (S_r1 : (Nat → Int32)) (S_r2 : (Nat → Int32)) (S_r3 : (Nat → Int32)) (S_r4 : (Nat → Int32)) (z : (Int32 × Int32 × Int32 × Int32 × Int32 × Int32 × Int32 × Int32)) (h : fX0_takeKeen D_x1 D_x2 D_x4 D_x5 D_x6 D_x7 D_x8 E_r0 E_x1 = some z) : Mt l yX0_takeKeen cX0_takeKeen 2 none 3 68 D cI cB cS (dW uD uE D_x1 D_x2 D_x3 D_x4 D_x5 D_x6 D_x7 D_x8 ++ (eW cB uE aE E_x1 E_r0 ++ (sW cI uS aS S_x5 S_x6 S_x7 S_x8 S_x9 S_r0 S_r1 S_r2 S_r3 S_r4))) (dW uD uE z.1 z.2.1 D_x3 z.2.2.1 z.2.2.2.1 z.2.2.2.2.1 z.2.2.2.2.2.1 z.2.2.2.2.2.2.1 ++ (eW cB uE aE E_x1 E_r0 ++ (sW cI uS aS S_x5 S_x6 S_x7 S_x8 z.2.2.2.2.2.2.2 S_r0 S_r1 S_r2 S_r3 S_r4))) [.ref uD, .ref uS] none := by
  refine entryV (by decide +kernel) rfl (Nat.le_of_ble_eq_true rfl) ?_
  intro p e s m below meth c A ls QQ R ar F hRet jP jD jS jl
  obtain ⟨hx, hb, hml, hown, hts, jK, hA, hf1, hf2⟩ := id F
  have jl : lv_has ls 2 [(0, .ref uD), (1, .ref uS)] := jl
  unfold fX0_takeKeen at h
  refine lv_aload_n hx hb dX0_takeKeen_0 rfl (lv_at jl 0 rfl) ?_
  refine lv_bipush (v := (18 : Int32)) hx hb dX0_takeKeen_1 (by decide) ?_
  obtain ⟨t1, hc2, h⟩ := bd_some h
  refine callP (wc := (dW uD uE D_x1 D_x2 D_x3 D_x4 D_x5 D_x6 D_x7 D_x8)) (wr := (eW cB uE aE E_x1 E_r0 ++ (sW cI uS aS S_x5 S_x6 S_x7 S_x8 S_x9 S_r0 S_r1 S_r2 S_r3 S_r4))) (w1 := (dW uD uE t1.1 t1.2.1 D_x3 D_x4 t1.2.2 D_x6 D_x7 D_x8)) (ws1 := (dW uD uE t1.1 t1.2.1 D_x3 D_x4 t1.2.2 D_x6 D_x7 D_x8 ++ (eW cB uE aE E_x1 E_r0 ++ (sW cI uS aS S_x5 S_x6 S_x7 S_x8 S_x9 S_r0 S_r1 S_r2 S_r3 S_r4)))) (As := [.int (18 : Int32)]) (rest := []) (st1 := []) 0 [0] [1, 2, 3, 4, 5, 6, 7, 8] [8, 0, 1, 2, 3, 4, 5, 6, 7] F (kX0_tellOnce l D cI cB cS uD D_x1 D_x2 D_x3 D_x4 D_x5 D_x6 D_x7 D_x8 uE (18 : Int32) _ hc2 ) okX0_tellOnce w_181 (by decide) (by decide) ⟨Nat.zero_le _, Nat.zero_le _⟩ rfl rfl rfl jP jD jS rfl jl.1 rfl rfl (Nat.le_of_ble_eq_true rfl) dX0_takeKeen_3 rfl rfl (by decide) (by decide) (by decide) rfl (by decide) (fun H locs jP jD jS => ?_)
  refine lv_aload_n hx hb dX0_takeKeen_6 rfl (lv_at jl 1 rfl) ?_
  refine lv_aload_n hx hb dX0_takeKeen_7 rfl (lv_at jl 0 rfl) ?_
  refine lv_iconst (v := (1 : Int32)) hx hb dX0_takeKeen_8 (by decide) ?_
  refine lv_bipush (v := (10 : Int32)) hx hb dX0_takeKeen_9 (by decide) ?_
  obtain ⟨t3, hc4, h⟩ := bd_some h
  refine callP (wc := (dW uD uE t1.1 t1.2.1 D_x3 D_x4 t1.2.2 D_x6 D_x7 D_x8 ++ (eW cB uE aE E_x1 E_r0))) (wr := (sW cI uS aS S_x5 S_x6 S_x7 S_x8 S_x9 S_r0 S_r1 S_r2 S_r3 S_r4)) (w1 := (dW uD uE t3.2.1 t3.2.2.1 D_x3 t3.2.2.2.1 t1.2.2 t3.2.2.2.2.1 t3.2.2.2.2.2.1 t3.2.2.2.2.2.2 ++ (eW cB uE aE E_x1 E_r0))) (ws1 := (dW uD uE t3.2.1 t3.2.2.1 D_x3 t3.2.2.2.1 t1.2.2 t3.2.2.2.2.1 t3.2.2.2.2.2.1 t3.2.2.2.2.2.2 ++ (eW cB uE aE E_x1 E_r0 ++ (sW cI uS aS S_x5 S_x6 S_x7 S_x8 S_x9 S_r0 S_r1 S_r2 S_r3 S_r4)))) (As := [.int (1 : Int32), .int (10 : Int32)]) (rest := [.ref uS]) (st1 := [.int t3.1, .ref uS]) 0 [0, 1, 2] [3, 4, 5, 6, 7, 8] [6, 7, 8, 0, 1, 2, 3, 4, 5] F (kX0_takeNumber l D cI cB cS uD t1.1 t1.2.1 D_x3 D_x4 t1.2.2 D_x6 D_x7 D_x8 uE aE E_x1 E_r0 (1 : Int32) (10 : Int32) _ hc4 ) okX0_takeNumber w_168 (by decide) (by decide) ⟨Nat.zero_le _, Nat.zero_le _⟩ rfl rfl rfl jP jD jS rfl jl.1 rfl rfl (Nat.le_of_ble_eq_true rfl) dX0_takeKeen_11 rfl rfl (by decide) (by decide) (by decide) rfl (by decide) (fun H locs jP jD jS => ?_)
  refine va_put (D := D) (ci := 2) (v := .int t3.1) (ty := .int) (C := RX2) (T := TX2) (N := 10) hx hb hts in2 tyX2 tyX2_ok nmX2 hown jK.1 jP jD jS 3 rfl rfl 9 (by decide) (hts _ w_206) (fun _ h9 => h9) rfl (by decide +kernel) rfl rfl (Nat.le_of_ble_eq_true rfl) dX0_takeKeen_14 (fun H locs jP jD jS => ?_)
  have jP : va_P D vwCl (dW uD uE t3.2.1 t3.2.2.1 D_x3 t3.2.2.2.1 t1.2.2 t3.2.2.2.2.1 t3.2.2.2.2.2.1 t3.2.2.2.2.2.2 ++ (eW cB uE aE E_x1 E_r0 ++ (sW cI uS aS S_x5 S_x6 S_x7 S_x8 t3.1 S_r0 S_r1 S_r2 S_r3 S_r4))) H := jP
  have jD : va_D A (dW uD uE t3.2.1 t3.2.2.1 D_x3 t3.2.2.2.1 t1.2.2 t3.2.2.2.2.1 t3.2.2.2.2.2.1 t3.2.2.2.2.2.2 ++ (eW cB uE aE E_x1 E_r0 ++ (sW cI uS aS S_x5 S_x6 S_x7 S_x8 t3.1 S_r0 S_r1 S_r2 S_r3 S_r4))) := jD
  obtain rfl := Option.some.inj h
  exact hRet _ _ _ _ jP jD jS dX0_takeKeen_17
theorem okX0_takeLine : okV yX0_takeLine cX0_takeLine 2 none 1 := ⟨w_160, w_161, w_162, w_19, by decide, by decide, by decide +kernel⟩
def fX0_takeLine (D_x1 : Int32) (D_x2 : Int32) (D_x4 : Int32) (D_x5 : Int32) (D_x6 : Int32) (D_x7 : Int32) (D_x8 : Int32) (E_r0 : (Nat → Int32)) (E_x1 : Int32) (S_r0 : (Nat → Int32)) (S_r1 : (Nat → Int32)) (S_r2 : (Nat → Int32)) (S_r3 : (Nat → Int32)) (S_r4 : (Nat → Int32)) (S_x5 : Int32) (S_x6 : Int32) (S_x7 : Int32) (S_x8 : Int32) (S_x9 : Int32) : Option (Int32 × Int32 × Int32 × Int32 × Int32 × Int32 × Int32 × (Nat → Int32) × (Nat → Int32) × (Nat → Int32) × (Nat → Int32) × (Nat → Int32) × Int32 × Int32 × Int32 × Int32 × Int32) :=
  if D_x6 = (1 : Int32) then (bd (if D_x8 = (1717660012 : Int32) then (bd (fX0_takeFail (D_x1) (D_x2) (D_x4) (D_x5) (D_x6) (D_x7) (D_x8) (E_r0) (E_x1) (S_r3) (S_x5)) (fun t7 => some (t7.1, t7.2.1, t7.2.2.1, t7.2.2.2.1, t7.2.2.2.2.1, t7.2.2.2.2.2.1, t7.2.2.2.2.2.2.1, S_r0, S_r1, S_r2, t7.2.2.2.2.2.2.2, S_r4, S_x5, S_x6, S_x7, S_x8, S_x9))) else (if D_x8 = (1819242347 : Int32) then (bd (fX0_takeLook (D_x1) (D_x2) (D_x4) (D_x5) (D_x6) (D_x7) (D_x8) (E_r0) (E_x1)) (fun t9 => some (t9.1, t9.2.1, t9.2.2.1, t9.2.2.2.1, t9.2.2.2.2.1, t9.2.2.2.2.2.1, t9.2.2.2.2.2.2.1, S_r0, S_r1, S_r2, S_r3, S_r4, S_x5, S_x6, t9.2.2.2.2.2.2.2.1, t9.2.2.2.2.2.2.2.2, S_x9))) else (if D_x8 = (1835102827 : Int32) then (bd (fX0_takeMark (D_x1) (D_x2) (D_x4) (D_x5) (D_x6) (D_x7) (D_x8) (E_r0) (E_x1)) (fun t11 => some (t11.1, t11.2.1, t11.2.2.1, t11.2.2.2.1, t11.2.2.2.2.1, t11.2.2.2.2.2.1, t11.2.2.2.2.2.2.1, S_r0, S_r1, S_r2, S_r3, S_r4, S_x5, t11.2.2.2.2.2.2.2, S_x7, S_x8, S_x9))) else (if D_x8 = (1836413812 : Int32) then (bd (fX0_takeMust (D_x1) (D_x2) (D_x4) (D_x5) (D_x6) (D_x7) (D_x8) (E_r0) (E_x1) (S_r0) (S_r4) (S_x5)) (fun t13 => some (t13.1, t13.2.1, t13.2.2.1, t13.2.2.2.1, t13.2.2.2.2.1, t13.2.2.2.2.2.1, t13.2.2.2.2.2.2.1, S_r0, S_r1, S_r2, S_r3, t13.2.2.2.2.2.2.2, S_x5, S_x6, S_x7, S_x8, S_x9))) else (if D_x8 = (1936683636 : Int32) then (bd (fX0_takeSort (D_x1) (D_x2) (D_x4) (D_x6) (D_x7) (D_x8) (E_r0) (E_x1) (S_r0) (S_r1) (S_r2) (S_r3) (S_r4) (S_x5)) (fun t15 => some (t15.1, t15.2.1, t15.2.2.1, D_x5, t15.2.2.2.1, t15.2.2.2.2.1, t15.2.2.2.2.2.1, t15.2.2.2.2.2.2.1, t15.2.2.2.2.2.2.2.1, t15.2.2.2.2.2.2.2.2.1, t15.2.2.2.2.2.2.2.2.2.1, t15.2.2.2.2.2.2.2.2.2.2.1, t15.2.2.2.2.2.2.2.2.2.2.2, S_x6, S_x7, S_x8, S_x9))) else (bd (fX0_takeKeen (D_x1) (D_x2) (D_x4) (D_x5) (D_x6) (D_x7) (D_x8) (E_r0) (E_x1)) (fun t17 => some (t17.1, t17.2.1, t17.2.2.1, t17.2.2.2.1, t17.2.2.2.2.1, t17.2.2.2.2.2.1, t17.2.2.2.2.2.2.1, S_r0, S_r1, S_r2, S_r3, S_r4, S_x5, S_x6, S_x7, S_x8, t17.2.2.2.2.2.2.2)))))))) (fun t19 => bd (fX0_takeStop t19.1 t19.2.1 t19.2.2.1 t19.2.2.2.2.1 t19.2.2.2.2.2.1 t19.2.2.2.2.2.2.1 (E_r0) (E_x1)) (fun t20 => some (t20.1, t20.2.1, t20.2.2.1, t19.2.2.2.1, t20.2.2.2.1, t20.2.2.2.2.1, t20.2.2.2.2.2, t19.2.2.2.2.2.2.2.1, t19.2.2.2.2.2.2.2.2.1, t19.2.2.2.2.2.2.2.2.2.1, t19.2.2.2.2.2.2.2.2.2.2.1, t19.2.2.2.2.2.2.2.2.2.2.2.1, t19.2.2.2.2.2.2.2.2.2.2.2.2.1, t19.2.2.2.2.2.2.2.2.2.2.2.2.2.1, t19.2.2.2.2.2.2.2.2.2.2.2.2.2.2.1, t19.2.2.2.2.2.2.2.2.2.2.2.2.2.2.2.1, t19.2.2.2.2.2.2.2.2.2.2.2.2.2.2.2.2)))) else (bd (fX0_refuse (D_x7) (2 : Int32)) (fun t22 => some (t22.1, t22.2, D_x4, D_x5, D_x6, D_x7, D_x8, S_r0, S_r1, S_r2, S_r3, S_r4, S_x5, S_x6, S_x7, S_x8, S_x9)))
set_option maxRecDepth 100000 in
set_option maxHeartbeats 4000000 in
theorem kX0_takeLine (l : Launch) (D : va_G) (cI cB cS : ClassId) (uD : Nat) (D_x1 : Int32) (D_x2 : Int32) (D_x3 : Int32) (D_x4 : Int32) (D_x5 : Int32) (D_x6 : Int32) (D_x7 : Int32) (D_x8 : Int32) (uE : Nat) (aE : Nat → Nat) (E_x1 : Int32) (E_r0 : (Nat → Int32)) (uS : Nat) (aS : Nat → Nat) (S_x5 : Int32) (S_x6 : Int32) (S_x7 : Int32) (S_x8 : Int32) (S_x9 : Int32) (S_r0 : (Nat → Int32)) (S_r1 : (Nat → Int32)) (S_r2 : (Nat → Int32)) (S_r3 : (Nat → Int32)) (S_r4 : (Nat → Int32)) (z : (Int32 × Int32 × Int32 × Int32 × Int32 × Int32 × Int32 × (Nat → Int32) × (Nat → Int32) × (Nat → Int32) × (Nat → Int32) × (Nat → Int32) × Int32 × Int32 × Int32 × Int32 × Int32)) (h : fX0_takeLine D_x1 D_x2 D_x4 D_x5 D_x6 D_x7 D_x8 E_r0 E_x1 S_r0 S_r1 S_r2 S_r3 S_r4 S_x5 S_x6 S_x7 S_x8 S_x9 = some z) : Mt l yX0_takeLine cX0_takeLine 2 none 4 92 D cI cB cS (dW uD uE D_x1 D_x2 D_x3 D_x4 D_x5 D_x6 D_x7 D_x8 ++ (eW cB uE aE E_x1 E_r0 ++ (sW cI uS aS S_x5 S_x6 S_x7 S_x8 S_x9 S_r0 S_r1 S_r2 S_r3 S_r4))) (dW uD uE z.1 z.2.1 D_x3 z.2.2.1 z.2.2.2.1 z.2.2.2.2.1 z.2.2.2.2.2.1 z.2.2.2.2.2.2.1 ++ (eW cB uE aE E_x1 E_r0 ++ (sW cI uS aS z.2.2.2.2.2.2.2.2.2.2.2.2.1 z.2.2.2.2.2.2.2.2.2.2.2.2.2.1 z.2.2.2.2.2.2.2.2.2.2.2.2.2.2.1 z.2.2.2.2.2.2.2.2.2.2.2.2.2.2.2.1 z.2.2.2.2.2.2.2.2.2.2.2.2.2.2.2.2 z.2.2.2.2.2.2.2.1 z.2.2.2.2.2.2.2.2.1 z.2.2.2.2.2.2.2.2.2.1 z.2.2.2.2.2.2.2.2.2.2.1 z.2.2.2.2.2.2.2.2.2.2.2.1))) [.ref uD, .ref uS] none := by
  refine entryV (by decide +kernel) rfl (Nat.le_of_ble_eq_true rfl) ?_
  intro p e s m below meth c A ls QQ R ar F hRet jP jD jS jl
  obtain ⟨hx, hb, hml, hown, hts, jK, hA, hf1, hf2⟩ := id F
  have jl : lv_has ls 2 [(0, .ref uD), (1, .ref uS)] := jl
  unfold fX0_takeLine at h
  refine lv_aload_n hx hb dX0_takeLine_0 rfl (lv_at jl 0 rfl) ?_
  refine va_get (D := D) (ci := 0) (v := .int D_x6) (C := RX0) (T := TX0) (N := 9) hx hb hts in0 hown jK.1 jP 0 rfl rfl 6 (by decide) (hts _ w_131) (fun _ h9 => h9) rfl dX0_takeLine_1 ?_
  refine lv_iconst (v := (1 : Int32)) hx hb dX0_takeLine_4 (by decide) ?_
  refine lv_icmp_eq (tgt := 14) hx hb dX0_takeLine_5 (by decide) (fun c1 => ?_) (fun c1 => ?_)
  · have h := itp c1 h
    refine lv_aload_n hx hb dX0_takeLine_14 rfl (lv_at jl 0 rfl) ?_
    refine va_get (D := D) (ci := 0) (v := .int D_x8) (C := RX0) (T := TX0) (N := 9) hx hb hts in0 hown jK.1 jP 0 rfl rfl 8 (by decide) (hts _ w_139) (fun _ h9 => h9) rfl dX0_takeLine_15 ?_
    obtain ⟨t19, hvt19, h⟩ := bd_some h
    have hJt19 : ∀ (H : Heap) (locs : List Loc) (ls : Array Slot), va_P D vwCl (dW uD uE t19.1 t19.2.1 D_x3 t19.2.2.1 t19.2.2.2.1 t19.2.2.2.2.1 t19.2.2.2.2.2.1 t19.2.2.2.2.2.2.1 ++ (eW cB uE aE E_x1 E_r0 ++ (sW cI uS aS t19.2.2.2.2.2.2.2.2.2.2.2.2.1 t19.2.2.2.2.2.2.2.2.2.2.2.2.2.1 t19.2.2.2.2.2.2.2.2.2.2.2.2.2.2.1 t19.2.2.2.2.2.2.2.2.2.2.2.2.2.2.2.1 t19.2.2.2.2.2.2.2.2.2.2.2.2.2.2.2.2 t19.2.2.2.2.2.2.2.1 t19.2.2.2.2.2.2.2.2.1 t19.2.2.2.2.2.2.2.2.2.1 t19.2.2.2.2.2.2.2.2.2.2.1 t19.2.2.2.2.2.2.2.2.2.2.2.1))) H → va_D A (dW uD uE t19.1 t19.2.1 D_x3 t19.2.2.1 t19.2.2.2.1 t19.2.2.2.2.1 t19.2.2.2.2.2.1 t19.2.2.2.2.2.2.1 ++ (eW cB uE aE E_x1 E_r0 ++ (sW cI uS aS t19.2.2.2.2.2.2.2.2.2.2.2.2.1 t19.2.2.2.2.2.2.2.2.2.2.2.2.2.1 t19.2.2.2.2.2.2.2.2.2.2.2.2.2.2.1 t19.2.2.2.2.2.2.2.2.2.2.2.2.2.2.2.1 t19.2.2.2.2.2.2.2.2.2.2.2.2.2.2.2.2 t19.2.2.2.2.2.2.2.1 t19.2.2.2.2.2.2.2.2.1 t19.2.2.2.2.2.2.2.2.2.1 t19.2.2.2.2.2.2.2.2.2.2.1 t19.2.2.2.2.2.2.2.2.2.2.2.1))) → va_S A s.heap H locs → lv_has ls 2 [(0, .ref uD)] → W p l e R s m ar below meth c H locs 0 0 QQ (F0 m 113 ls []) := by
      clear jP jD jS jl
      intro H locs ls jP jD jS jl
      refine lv_aload_n hx hb dX0_takeLine_113 rfl (lv_at jl 0 rfl) ?_
      obtain ⟨t20, hc21, h⟩ := bd_some h
      refine callP (wc := (dW uD uE t19.1 t19.2.1 D_x3 t19.2.2.1 t19.2.2.2.1 t19.2.2.2.2.1 t19.2.2.2.2.2.1 t19.2.2.2.2.2.2.1 ++ (eW cB uE aE E_x1 E_r0))) (wr := (sW cI uS aS t19.2.2.2.2.2.2.2.2.2.2.2.2.1 t19.2.2.2.2.2.2.2.2.2.2.2.2.2.1 t19.2.2.2.2.2.2.2.2.2.2.2.2.2.2.1 t19.2.2.2.2.2.2.2.2.2.2.2.2.2.2.2.1 t19.2.2.2.2.2.2.2.2.2.2.2.2.2.2.2.2 t19.2.2.2.2.2.2.2.1 t19.2.2.2.2.2.2.2.2.1 t19.2.2.2.2.2.2.2.2.2.1 t19.2.2.2.2.2.2.2.2.2.2.1 t19.2.2.2.2.2.2.2.2.2.2.2.1)) (w1 := (dW uD uE t20.1 t20.2.1 D_x3 t20.2.2.1 t19.2.2.2.1 t20.2.2.2.1 t20.2.2.2.2.1 t20.2.2.2.2.2 ++ (eW cB uE aE E_x1 E_r0))) (ws1 := (dW uD uE t20.1 t20.2.1 D_x3 t20.2.2.1 t19.2.2.2.1 t20.2.2.2.1 t20.2.2.2.2.1 t20.2.2.2.2.2 ++ (eW cB uE aE E_x1 E_r0 ++ (sW cI uS aS t19.2.2.2.2.2.2.2.2.2.2.2.2.1 t19.2.2.2.2.2.2.2.2.2.2.2.2.2.1 t19.2.2.2.2.2.2.2.2.2.2.2.2.2.2.1 t19.2.2.2.2.2.2.2.2.2.2.2.2.2.2.2.1 t19.2.2.2.2.2.2.2.2.2.2.2.2.2.2.2.2 t19.2.2.2.2.2.2.2.1 t19.2.2.2.2.2.2.2.2.1 t19.2.2.2.2.2.2.2.2.2.1 t19.2.2.2.2.2.2.2.2.2.2.1 t19.2.2.2.2.2.2.2.2.2.2.2.1)))) (As := []) (rest := []) (st1 := []) 0 [0, 1, 2] [3, 4, 5, 6, 7, 8] [6, 7, 8, 0, 1, 2, 3, 4, 5] F (kX0_takeStop l D cI cB cS uD t19.1 t19.2.1 D_x3 t19.2.2.1 t19.2.2.2.1 t19.2.2.2.2.1 t19.2.2.2.2.2.1 t19.2.2.2.2.2.2.1 uE aE E_x1 E_r0  _ hc21 ) okX0_takeStop w_207 (by decide) (by decide) ⟨Nat.zero_le _, Nat.zero_le _⟩ rfl rfl rfl jP jD jS rfl jl.1 rfl rfl (Nat.le_of_ble_eq_true rfl) dX0_takeLine_114 rfl rfl (by decide) (by decide) (by decide) rfl (by decide) (fun H locs jP jD jS => ?_)
      obtain rfl := Option.some.inj h
      exact hRet _ _ _ _ jP jD jS dX0_takeLine_117
    clear h
    by_cases hk2 : D_x8 = (1717660012 : Int32)
    · have hvt19 := itp hk2 hvt19
      refine swLk (k := 1717660012) (tgt := 76) hx hb hk2 dX0_takeLine_18 (by decide) rfl (by decide) ?_
      refine lv_aload_n hx hb dX0_takeLine_76 rfl (lv_at jl 0 rfl) ?_
      refine lv_aload_n hx hb dX0_takeLine_77 rfl (lv_at jl 1 rfl) ?_
      obtain ⟨t7, hc8, hvt19⟩ := bd_some hvt19
      refine callW (w1 := (dW uD uE t7.1 t7.2.1 D_x3 t7.2.2.1 t7.2.2.2.1 t7.2.2.2.2.1 t7.2.2.2.2.2.1 t7.2.2.2.2.2.2.1 ++ (eW cB uE aE E_x1 E_r0 ++ (sW cI uS aS S_x5 S_x6 S_x7 S_x8 S_x9 S_r0 S_r1 S_r2 t7.2.2.2.2.2.2.2 S_r4)))) (As := [.ref uS]) (rest := []) (st1 := []) 0 F (kX0_takeFail l D cI cB cS uD D_x1 D_x2 D_x3 D_x4 D_x5 D_x6 D_x7 D_x8 uE aE E_x1 E_r0 uS aS S_x5 S_x6 S_x7 S_x8 S_x9 S_r0 S_r1 S_r2 S_r3 S_r4  _ hc8 ) okX0_takeFail w_176 (by decide) (by decide) ⟨Nat.zero_le _, Nat.zero_le _⟩ rfl rfl rfl jP jD jS rfl jl.1 rfl rfl (Nat.le_of_ble_eq_true rfl) dX0_takeLine_78 (fun H locs jP jD jS => ?_)
      refine lv_goto (tgt := 113) hx hb dX0_takeLine_81 (by decide) ?_
      obtain rfl := Option.some.inj hvt19
      exact hJt19 _ _ _ jP jD jS (lv_sub jl [0] rfl)
    · have hvt19 := itn hk2 hvt19
      by_cases hk3 : D_x8 = (1819242347 : Int32)
      · have hvt19 := itp hk3 hvt19
        refine swLk (k := 1819242347) (tgt := 100) hx hb hk3 dX0_takeLine_18 (by decide) rfl (by decide) ?_
        refine lv_aload_n hx hb dX0_takeLine_100 rfl (lv_at jl 0 rfl) ?_
        refine lv_aload_n hx hb dX0_takeLine_101 rfl (lv_at jl 1 rfl) ?_
        obtain ⟨t9, hc10, hvt19⟩ := bd_some hvt19
        refine callW (w1 := (dW uD uE t9.1 t9.2.1 D_x3 t9.2.2.1 t9.2.2.2.1 t9.2.2.2.2.1 t9.2.2.2.2.2.1 t9.2.2.2.2.2.2.1 ++ (eW cB uE aE E_x1 E_r0 ++ (sW cI uS aS S_x5 S_x6 t9.2.2.2.2.2.2.2.1 t9.2.2.2.2.2.2.2.2 S_x9 S_r0 S_r1 S_r2 S_r3 S_r4)))) (As := [.ref uS]) (rest := []) (st1 := []) 0 F (kX0_takeLook l D cI cB cS uD D_x1 D_x2 D_x3 D_x4 D_x5 D_x6 D_x7 D_x8 uE aE E_x1 E_r0 uS aS S_x5 S_x6 S_x7 S_x8 S_x9 S_r0 S_r1 S_r2 S_r3 S_r4  _ hc10 ) okX0_takeLook w_196 (by decide) (by decide) ⟨Nat.zero_le _, Nat.zero_le _⟩ rfl rfl rfl jP jD jS rfl jl.1 rfl rfl (Nat.le_of_ble_eq_true rfl) dX0_takeLine_102 (fun H locs jP jD jS => ?_)
        refine lv_goto (tgt := 113) hx hb dX0_takeLine_105 (by decide) ?_
        obtain rfl := Option.some.inj hvt19
        exact hJt19 _ _ _ jP jD jS (lv_sub jl [0] rfl)
      · have hvt19 := itn hk3 hvt19
        by_cases hk4 : D_x8 = (1835102827 : Int32)
        · have hvt19 := itp hk4 hvt19
          refine swLk (k := 1835102827) (tgt := 92) hx hb hk4 dX0_takeLine_18 (by decide) rfl (by decide) ?_
          refine lv_aload_n hx hb dX0_takeLine_92 rfl (lv_at jl 0 rfl) ?_
          refine lv_aload_n hx hb dX0_takeLine_93 rfl (lv_at jl 1 rfl) ?_
          obtain ⟨t11, hc12, hvt19⟩ := bd_some hvt19
          refine callW (w1 := (dW uD uE t11.1 t11.2.1 D_x3 t11.2.2.1 t11.2.2.2.1 t11.2.2.2.2.1 t11.2.2.2.2.2.1 t11.2.2.2.2.2.2.1 ++ (eW cB uE aE E_x1 E_r0 ++ (sW cI uS aS S_x5 t11.2.2.2.2.2.2.2 S_x7 S_x8 S_x9 S_r0 S_r1 S_r2 S_r3 S_r4)))) (As := [.ref uS]) (rest := []) (st1 := []) 0 F (kX0_takeMark l D cI cB cS uD D_x1 D_x2 D_x3 D_x4 D_x5 D_x6 D_x7 D_x8 uE aE E_x1 E_r0 uS aS S_x5 S_x6 S_x7 S_x8 S_x9 S_r0 S_r1 S_r2 S_r3 S_r4  _ hc12 ) okX0_takeMark w_191 (by decide) (by decide) ⟨Nat.zero_le _, Nat.zero_le _⟩ rfl rfl rfl jP jD jS rfl jl.1 rfl rfl (Nat.le_of_ble_eq_true rfl) dX0_takeLine_94 (fun H locs jP jD jS => ?_)
          refine lv_goto (tgt := 113) hx hb dX0_takeLine_97 (by decide) ?_
          obtain rfl := Option.some.inj hvt19
          exact hJt19 _ _ _ jP jD jS (lv_sub jl [0] rfl)
        · have hvt19 := itn hk4 hvt19
          by_cases hk5 : D_x8 = (1836413812 : Int32)
          · have hvt19 := itp hk5 hvt19
            refine swLk (k := 1836413812) (tgt := 84) hx hb hk5 dX0_takeLine_18 (by decide) rfl (by decide) ?_
            refine lv_aload_n hx hb dX0_takeLine_84 rfl (lv_at jl 0 rfl) ?_
            refine lv_aload_n hx hb dX0_takeLine_85 rfl (lv_at jl 1 rfl) ?_
            obtain ⟨t13, hc14, hvt19⟩ := bd_some hvt19
            refine callW (w1 := (dW uD uE t13.1 t13.2.1 D_x3 t13.2.2.1 t13.2.2.2.1 t13.2.2.2.2.1 t13.2.2.2.2.2.1 t13.2.2.2.2.2.2.1 ++ (eW cB uE aE E_x1 E_r0 ++ (sW cI uS aS S_x5 S_x6 S_x7 S_x8 S_x9 S_r0 S_r1 S_r2 S_r3 t13.2.2.2.2.2.2.2)))) (As := [.ref uS]) (rest := []) (st1 := []) 0 F (kX0_takeMust l D cI cB cS uD D_x1 D_x2 D_x3 D_x4 D_x5 D_x6 D_x7 D_x8 uE aE E_x1 E_r0 uS aS S_x5 S_x6 S_x7 S_x8 S_x9 S_r0 S_r1 S_r2 S_r3 S_r4  _ hc14 ) okX0_takeMust w_185 (by decide) (by decide) ⟨Nat.zero_le _, Nat.zero_le _⟩ rfl rfl rfl jP jD jS rfl jl.1 rfl rfl (Nat.le_of_ble_eq_true rfl) dX0_takeLine_86 (fun H locs jP jD jS => ?_)
            refine lv_goto (tgt := 113) hx hb dX0_takeLine_89 (by decide) ?_
            obtain rfl := Option.some.inj hvt19
            exact hJt19 _ _ _ jP jD jS (lv_sub jl [0] rfl)
          · have hvt19 := itn hk5 hvt19
            by_cases hk6 : D_x8 = (1936683636 : Int32)
            · have hvt19 := itp hk6 hvt19
              refine swLk (k := 1936683636) (tgt := 68) hx hb hk6 dX0_takeLine_18 (by decide) rfl (by decide) ?_
              refine lv_aload_n hx hb dX0_takeLine_68 rfl (lv_at jl 0 rfl) ?_
              refine lv_aload_n hx hb dX0_takeLine_69 rfl (lv_at jl 1 rfl) ?_
              obtain ⟨t15, hc16, hvt19⟩ := bd_some hvt19
              refine callW (w1 := (dW uD uE t15.1 t15.2.1 D_x3 t15.2.2.1 D_x5 t15.2.2.2.1 t15.2.2.2.2.1 t15.2.2.2.2.2.1 ++ (eW cB uE aE E_x1 E_r0 ++ (sW cI uS aS t15.2.2.2.2.2.2.2.2.2.2.2 S_x6 S_x7 S_x8 S_x9 t15.2.2.2.2.2.2.1 t15.2.2.2.2.2.2.2.1 t15.2.2.2.2.2.2.2.2.1 t15.2.2.2.2.2.2.2.2.2.1 t15.2.2.2.2.2.2.2.2.2.2.1)))) (As := [.ref uS]) (rest := []) (st1 := []) 0 F (kX0_takeSort l D cI cB cS uD D_x1 D_x2 D_x3 D_x4 D_x5 D_x6 D_x7 D_x8 uE aE E_x1 E_r0 uS aS S_x5 S_x6 S_x7 S_x8 S_x9 S_r0 S_r1 S_r2 S_r3 S_r4  _ hc16 ) okX0_takeSort w_163 (by decide) (by decide) ⟨Nat.zero_le _, Nat.zero_le _⟩ rfl rfl rfl jP jD jS rfl jl.1 rfl rfl (Nat.le_of_ble_eq_true rfl) dX0_takeLine_70 (fun H locs jP jD jS => ?_)
              refine lv_goto (tgt := 113) hx hb dX0_takeLine_73 (by decide) ?_
              obtain rfl := Option.some.inj hvt19
              exact hJt19 _ _ _ jP jD jS (lv_sub jl [0] rfl)
            · have hvt19 := itn hk6 hvt19
              refine lv_lookup (off := 90) (tgt := 108) hx hb dX0_takeLine_18 (by decide) ((lv_osw hk2 (by decide)).trans ((lv_osw hk3 (by decide)).trans ((lv_osw hk4 (by decide)).trans ((lv_osw hk5 (by decide)).trans ((lv_osw hk6 (by decide)).trans rfl))))) (by decide) ?_
              refine lv_aload_n hx hb dX0_takeLine_108 rfl (lv_at jl 0 rfl) ?_
              refine lv_aload_n hx hb dX0_takeLine_109 rfl (lv_at jl 1 rfl) ?_
              obtain ⟨t17, hc18, hvt19⟩ := bd_some hvt19
              refine callW (w1 := (dW uD uE t17.1 t17.2.1 D_x3 t17.2.2.1 t17.2.2.2.1 t17.2.2.2.2.1 t17.2.2.2.2.2.1 t17.2.2.2.2.2.2.1 ++ (eW cB uE aE E_x1 E_r0 ++ (sW cI uS aS S_x5 S_x6 S_x7 S_x8 t17.2.2.2.2.2.2.2 S_r0 S_r1 S_r2 S_r3 S_r4)))) (As := [.ref uS]) (rest := []) (st1 := []) 0 F (kX0_takeKeen l D cI cB cS uD D_x1 D_x2 D_x3 D_x4 D_x5 D_x6 D_x7 D_x8 uE aE E_x1 E_r0 uS aS S_x5 S_x6 S_x7 S_x8 S_x9 S_r0 S_r1 S_r2 S_r3 S_r4  _ hc18 ) okX0_takeKeen w_202 (by decide) (by decide) ⟨Nat.zero_le _, Nat.zero_le _⟩ rfl rfl rfl jP jD jS rfl jl.1 rfl rfl (Nat.le_of_ble_eq_true rfl) dX0_takeLine_110 (fun H locs jP jD jS => ?_)
              obtain rfl := Option.some.inj hvt19
              exact hJt19 _ _ _ jP jD jS (lv_sub jl [0] rfl)
  · have h := itn c1 h
    refine lv_aload_n hx hb dX0_takeLine_8 rfl (lv_at jl 0 rfl) ?_
    refine lv_iconst (v := (2 : Int32)) hx hb dX0_takeLine_9 (by decide) ?_
    obtain ⟨t22, hc23, h⟩ := bd_some h
    refine callP (wc := (dW uD uE D_x1 D_x2 D_x3 D_x4 D_x5 D_x6 D_x7 D_x8)) (wr := (eW cB uE aE E_x1 E_r0 ++ (sW cI uS aS S_x5 S_x6 S_x7 S_x8 S_x9 S_r0 S_r1 S_r2 S_r3 S_r4))) (w1 := (dW uD uE t22.1 t22.2 D_x3 D_x4 D_x5 D_x6 D_x7 D_x8)) (ws1 := (dW uD uE t22.1 t22.2 D_x3 D_x4 D_x5 D_x6 D_x7 D_x8 ++ (eW cB uE aE E_x1 E_r0 ++ (sW cI uS aS S_x5 S_x6 S_x7 S_x8 S_x9 S_r0 S_r1 S_r2 S_r3 S_r4)))) (As := [.int (2 : Int32)]) (rest := []) (st1 := []) 0 [0] [1, 2, 3, 4, 5, 6, 7, 8] [8, 0, 1, 2, 3, 4, 5, 6, 7] F (kX0_refuse l D cI cB cS uD D_x1 D_x2 D_x3 D_x4 D_x5 D_x6 D_x7 D_x8 uE (2 : Int32) _ hc23 ) okX0_refuse w_155 (by decide) (by decide) ⟨Nat.zero_le _, Nat.zero_le _⟩ rfl rfl rfl jP jD jS rfl jl.1 rfl rfl (Nat.le_of_ble_eq_true rfl) dX0_takeLine_10 rfl rfl (by decide) (by decide) (by decide) rfl (by decide) (fun H locs jP jD jS => ?_)
    obtain rfl := Option.some.inj h
    exact hRet _ _ _ _ jP jD jS dX0_takeLine_13
theorem okX0_readInto : okV yX0_readInto cX0_readInto 3 none 1 := ⟨w_123, w_124, w_125, w_19, by decide, by decide, by decide +kernel⟩
def fX0_readInto_b31 (E_r0 : (Nat → Int32)) (E_x1 : Int32) (v1 : (Int32 × Int32 × Int32 × Int32 × Int32 × Int32 × Int32 × Int32 × Int32 × (Nat → Int32) × (Nat → Int32) × (Nat → Int32) × (Nat → Int32) × (Nat → Int32) × Int32 × Int32 × Int32 × Int32 × Int32)) : Option ((Int32 × Int32 × Int32 × Int32 × Int32 × Int32 × Int32 × Int32 × Int32 × (Nat → Int32) × (Nat → Int32) × (Nat → Int32) × (Nat → Int32) × (Nat → Int32) × Int32 × Int32 × Int32 × Int32 × Int32) ⊕ (Int32 × Int32 × Int32 × Int32 × Int32 × Int32 × Int32 × Int32 × (Nat → Int32) × (Nat → Int32) × (Nat → Int32) × (Nat → Int32) × (Nat → Int32) × Int32 × Int32 × Int32 × Int32 × Int32)) :=
  if (240 : Int32) ≤ v1.1 then (some (.inr (v1.2.1, v1.2.2.1, v1.2.2.2.1, v1.2.2.2.2.1, v1.2.2.2.2.2.1, v1.2.2.2.2.2.2.1, v1.2.2.2.2.2.2.2.1, v1.2.2.2.2.2.2.2.2.1, v1.2.2.2.2.2.2.2.2.2.1, v1.2.2.2.2.2.2.2.2.2.2.1, v1.2.2.2.2.2.2.2.2.2.2.2.1, v1.2.2.2.2.2.2.2.2.2.2.2.2.1, v1.2.2.2.2.2.2.2.2.2.2.2.2.2.1, v1.2.2.2.2.2.2.2.2.2.2.2.2.2.2.1, v1.2.2.2.2.2.2.2.2.2.2.2.2.2.2.2.1, v1.2.2.2.2.2.2.2.2.2.2.2.2.2.2.2.2.1, v1.2.2.2.2.2.2.2.2.2.2.2.2.2.2.2.2.2.1, v1.2.2.2.2.2.2.2.2.2.2.2.2.2.2.2.2.2.2))) else (if v1.2.1 = (0 : Int32) then (if v1.2.2.2.2.2.2.1 = (0 : Int32) then (some (.inr (v1.2.1, v1.2.2.1, v1.2.2.2.1, v1.2.2.2.2.1, v1.2.2.2.2.2.1, v1.2.2.2.2.2.2.1, v1.2.2.2.2.2.2.2.1, v1.2.2.2.2.2.2.2.2.1, v1.2.2.2.2.2.2.2.2.2.1, v1.2.2.2.2.2.2.2.2.2.2.1, v1.2.2.2.2.2.2.2.2.2.2.2.1, v1.2.2.2.2.2.2.2.2.2.2.2.2.1, v1.2.2.2.2.2.2.2.2.2.2.2.2.2.1, v1.2.2.2.2.2.2.2.2.2.2.2.2.2.2.1, v1.2.2.2.2.2.2.2.2.2.2.2.2.2.2.2.1, v1.2.2.2.2.2.2.2.2.2.2.2.2.2.2.2.2.1, v1.2.2.2.2.2.2.2.2.2.2.2.2.2.2.2.2.2.1, v1.2.2.2.2.2.2.2.2.2.2.2.2.2.2.2.2.2.2))) else (bd (fX0_takeLine v1.2.1 v1.2.2.1 v1.2.2.2.2.1 v1.2.2.2.2.2.1 v1.2.2.2.2.2.2.1 v1.2.2.2.2.2.2.2.1 v1.2.2.2.2.2.2.2.2.1 (E_r0) (E_x1) v1.2.2.2.2.2.2.2.2.2.1 v1.2.2.2.2.2.2.2.2.2.2.1 v1.2.2.2.2.2.2.2.2.2.2.2.1 v1.2.2.2.2.2.2.2.2.2.2.2.2.1 v1.2.2.2.2.2.2.2.2.2.2.2.2.2.1 v1.2.2.2.2.2.2.2.2.2.2.2.2.2.2.1 v1.2.2.2.2.2.2.2.2.2.2.2.2.2.2.2.1 v1.2.2.2.2.2.2.2.2.2.2.2.2.2.2.2.2.1 v1.2.2.2.2.2.2.2.2.2.2.2.2.2.2.2.2.2.1 v1.2.2.2.2.2.2.2.2.2.2.2.2.2.2.2.2.2.2) (fun t1 => bd (if t1.1 = (0 : Int32) then (bd (fX0_readToken t1.1 t1.2.1 t1.2.2.1 t1.2.2.2.2.2.2.1 (E_r0) (E_x1)) (fun t2 => some (t2.1, t2.2.1, t2.2.2.1, t2.2.2.2.1, t2.2.2.2.2.1, t2.2.2.2.2.2))) else (some (t1.1, t1.2.1, t1.2.2.1, t1.2.2.2.2.1, t1.2.2.2.2.2.1, t1.2.2.2.2.2.2.1))) (fun t3 => some (.inl ((v1.1 + (1 : Int32)), t3.1, t3.2.1, (v1.2.2.2.1 + (1 : Int32)), t3.2.2.1, t1.2.2.2.1, t3.2.2.2.1, t3.2.2.2.2.1, t3.2.2.2.2.2, t1.2.2.2.2.2.2.2.1, t1.2.2.2.2.2.2.2.2.1, t1.2.2.2.2.2.2.2.2.2.1, t1.2.2.2.2.2.2.2.2.2.2.1, t1.2.2.2.2.2.2.2.2.2.2.2.1, t1.2.2.2.2.2.2.2.2.2.2.2.2.1, t1.2.2.2.2.2.2.2.2.2.2.2.2.2.1, t1.2.2.2.2.2.2.2.2.2.2.2.2.2.2.1, t1.2.2.2.2.2.2.2.2.2.2.2.2.2.2.2.1, t1.2.2.2.2.2.2.2.2.2.2.2.2.2.2.2.2)))))) else (some (.inr (v1.2.1, v1.2.2.1, v1.2.2.2.1, v1.2.2.2.2.1, v1.2.2.2.2.2.1, v1.2.2.2.2.2.2.1, v1.2.2.2.2.2.2.2.1, v1.2.2.2.2.2.2.2.2.1, v1.2.2.2.2.2.2.2.2.2.1, v1.2.2.2.2.2.2.2.2.2.2.1, v1.2.2.2.2.2.2.2.2.2.2.2.1, v1.2.2.2.2.2.2.2.2.2.2.2.2.1, v1.2.2.2.2.2.2.2.2.2.2.2.2.2.1, v1.2.2.2.2.2.2.2.2.2.2.2.2.2.2.1, v1.2.2.2.2.2.2.2.2.2.2.2.2.2.2.2.1, v1.2.2.2.2.2.2.2.2.2.2.2.2.2.2.2.2.1, v1.2.2.2.2.2.2.2.2.2.2.2.2.2.2.2.2.2.1, v1.2.2.2.2.2.2.2.2.2.2.2.2.2.2.2.2.2.2))))
def fX0_readInto (D_x8 : Int32) (E_r0 : (Nat → Int32)) (E_x1 : Int32) (S_r0 : (Nat → Int32)) (S_r1 : (Nat → Int32)) (S_r2 : (Nat → Int32)) (S_r3 : (Nat → Int32)) (S_r4 : (Nat → Int32)) (S_x5 : Int32) (S_x6 : Int32) (S_x7 : Int32) (S_x8 : Int32) (S_x9 : Int32) : Option (Int32 × Int32 × Int32 × Int32 × Int32 × Int32 × Int32 × Int32 × (Nat → Int32) × (Nat → Int32) × (Nat → Int32) × (Nat → Int32) × (Nat → Int32) × Int32 × Int32 × Int32 × Int32 × Int32) :=
  bd (fX0_readToken (0 : Int32) (0 : Int32) (0 : Int32) (D_x8) (E_r0) (E_x1)) (fun t1 => bd (loopF (fX0_readInto_b31 E_r0 E_x1) 1000 ((0 : Int32), t1.1, t1.2.1, (0 : Int32), t1.2.2.1, (0 : Int32), t1.2.2.2.1, t1.2.2.2.2.1, t1.2.2.2.2.2, S_r0, S_r1, S_r2, S_r3, S_r4, S_x5, S_x6, S_x7, S_x8, S_x9)) (fun T3 => some (T3.1, T3.2.1, T3.2.2.1, T3.2.2.2.1, T3.2.2.2.2.1, T3.2.2.2.2.2.1, T3.2.2.2.2.2.2.1, T3.2.2.2.2.2.2.2.1, T3.2.2.2.2.2.2.2.2.1, T3.2.2.2.2.2.2.2.2.2.1, T3.2.2.2.2.2.2.2.2.2.2.1, T3.2.2.2.2.2.2.2.2.2.2.2.1, T3.2.2.2.2.2.2.2.2.2.2.2.2.1, T3.2.2.2.2.2.2.2.2.2.2.2.2.2.1, T3.2.2.2.2.2.2.2.2.2.2.2.2.2.2.1, T3.2.2.2.2.2.2.2.2.2.2.2.2.2.2.2.1, T3.2.2.2.2.2.2.2.2.2.2.2.2.2.2.2.2.1, T3.2.2.2.2.2.2.2.2.2.2.2.2.2.2.2.2.2)))
set_option maxRecDepth 100000 in
set_option maxHeartbeats 4000000 in
theorem kX0_readInto (l : Launch) (D : va_G) (cI cB cS : ClassId) (uD : Nat) (D_x1 : Int32) (D_x2 : Int32) (D_x3 : Int32) (D_x4 : Int32) (D_x5 : Int32) (D_x6 : Int32) (D_x7 : Int32) (D_x8 : Int32) (uE : Nat) (aE : Nat → Nat) (E_x1 : Int32) (E_r0 : (Nat → Int32)) (uS : Nat) (aS : Nat → Nat) (S_x5 : Int32) (S_x6 : Int32) (S_x7 : Int32) (S_x8 : Int32) (S_x9 : Int32) (S_r0 : (Nat → Int32)) (S_r1 : (Nat → Int32)) (S_r2 : (Nat → Int32)) (S_r3 : (Nat → Int32)) (S_r4 : (Nat → Int32)) (z : (Int32 × Int32 × Int32 × Int32 × Int32 × Int32 × Int32 × Int32 × (Nat → Int32) × (Nat → Int32) × (Nat → Int32) × (Nat → Int32) × (Nat → Int32) × Int32 × Int32 × Int32 × Int32 × Int32)) (h : fX0_readInto D_x8 E_r0 E_x1 S_r0 S_r1 S_r2 S_r3 S_r4 S_x5 S_x6 S_x7 S_x8 S_x9 = some z) : Mt l yX0_readInto cX0_readInto 3 none 5 113 D cI cB cS (dW uD uE D_x1 D_x2 D_x3 D_x4 D_x5 D_x6 D_x7 D_x8 ++ (eW cB uE aE E_x1 E_r0 ++ (sW cI uS aS S_x5 S_x6 S_x7 S_x8 S_x9 S_r0 S_r1 S_r2 S_r3 S_r4))) (dW uD uE z.1 z.2.1 z.2.2.1 z.2.2.2.1 z.2.2.2.2.1 z.2.2.2.2.2.1 z.2.2.2.2.2.2.1 z.2.2.2.2.2.2.2.1 ++ (eW cB uE aE E_x1 E_r0 ++ (sW cI uS aS z.2.2.2.2.2.2.2.2.2.2.2.2.2.1 z.2.2.2.2.2.2.2.2.2.2.2.2.2.2.1 z.2.2.2.2.2.2.2.2.2.2.2.2.2.2.2.1 z.2.2.2.2.2.2.2.2.2.2.2.2.2.2.2.2.1 z.2.2.2.2.2.2.2.2.2.2.2.2.2.2.2.2.2 z.2.2.2.2.2.2.2.2.1 z.2.2.2.2.2.2.2.2.2.1 z.2.2.2.2.2.2.2.2.2.2.1 z.2.2.2.2.2.2.2.2.2.2.2.1 z.2.2.2.2.2.2.2.2.2.2.2.2.1))) [.ref uD, .ref uS] none := by
  refine entryV (by decide +kernel) rfl (Nat.le_of_ble_eq_true rfl) ?_
  intro p e s m below meth c A ls QQ R ar F hRet jP jD jS jl
  obtain ⟨hx, hb, hml, hown, hts, jK, hA, hf1, hf2⟩ := id F
  have jl : lv_has ls 3 [(0, .ref uD), (1, .ref uS)] := jl
  unfold fX0_readInto at h
  refine lv_aload_n hx hb dX0_readInto_0 rfl (lv_at jl 0 rfl) ?_
  refine lv_iconst (v := (0 : Int32)) hx hb dX0_readInto_1 (by decide) ?_
  refine va_put (D := D) (ci := 0) (v := .int (0 : Int32)) (ty := .int) (C := RX0) (T := TX0) (N := 9) hx hb hts in0 tyX0 tyX0_ok nmX0 hown jK.1 jP jD jS 0 rfl rfl 1 (by decide) (hts _ w_126) (fun _ h9 => h9) rfl (by decide +kernel) rfl rfl (Nat.le_of_ble_eq_true rfl) dX0_readInto_2 (fun H locs jP jD jS => ?_)
  have jP : va_P D vwCl (dW uD uE (0 : Int32) D_x2 D_x3 D_x4 D_x5 D_x6 D_x7 D_x8 ++ (eW cB uE aE E_x1 E_r0 ++ (sW cI uS aS S_x5 S_x6 S_x7 S_x8 S_x9 S_r0 S_r1 S_r2 S_r3 S_r4))) H := jP
  have jD : va_D A (dW uD uE (0 : Int32) D_x2 D_x3 D_x4 D_x5 D_x6 D_x7 D_x8 ++ (eW cB uE aE E_x1 E_r0 ++ (sW cI uS aS S_x5 S_x6 S_x7 S_x8 S_x9 S_r0 S_r1 S_r2 S_r3 S_r4))) := jD
  refine lv_aload_n hx hb dX0_readInto_5 rfl (lv_at jl 0 rfl) ?_
  refine lv_iconst (v := (0 : Int32)) hx hb dX0_readInto_6 (by decide) ?_
  refine va_put (D := D) (ci := 0) (v := .int (0 : Int32)) (ty := .int) (C := RX0) (T := TX0) (N := 9) hx hb hts in0 tyX0 tyX0_ok nmX0 hown jK.1 jP jD jS 0 rfl rfl 2 (by decide) (hts _ w_127) (fun _ h9 => h9) rfl (by decide +kernel) rfl rfl (Nat.le_of_ble_eq_true rfl) dX0_readInto_7 (fun H locs jP jD jS => ?_)
  have jP : va_P D vwCl (dW uD uE (0 : Int32) (0 : Int32) D_x3 D_x4 D_x5 D_x6 D_x7 D_x8 ++ (eW cB uE aE E_x1 E_r0 ++ (sW cI uS aS S_x5 S_x6 S_x7 S_x8 S_x9 S_r0 S_r1 S_r2 S_r3 S_r4))) H := jP
  have jD : va_D A (dW uD uE (0 : Int32) (0 : Int32) D_x3 D_x4 D_x5 D_x6 D_x7 D_x8 ++ (eW cB uE aE E_x1 E_r0 ++ (sW cI uS aS S_x5 S_x6 S_x7 S_x8 S_x9 S_r0 S_r1 S_r2 S_r3 S_r4))) := jD
  refine lv_aload_n hx hb dX0_readInto_10 rfl (lv_at jl 0 rfl) ?_
  refine lv_iconst (v := (0 : Int32)) hx hb dX0_readInto_11 (by decide) ?_
  refine va_put (D := D) (ci := 0) (v := .int (0 : Int32)) (ty := .int) (C := RX0) (T := TX0) (N := 9) hx hb hts in0 tyX0 tyX0_ok nmX0 hown jK.1 jP jD jS 0 rfl rfl 3 (by decide) (hts _ w_128) (fun _ h9 => h9) rfl (by decide +kernel) rfl rfl (Nat.le_of_ble_eq_true rfl) dX0_readInto_12 (fun H locs jP jD jS => ?_)
  have jP : va_P D vwCl (dW uD uE (0 : Int32) (0 : Int32) (0 : Int32) D_x4 D_x5 D_x6 D_x7 D_x8 ++ (eW cB uE aE E_x1 E_r0 ++ (sW cI uS aS S_x5 S_x6 S_x7 S_x8 S_x9 S_r0 S_r1 S_r2 S_r3 S_r4))) H := jP
  have jD : va_D A (dW uD uE (0 : Int32) (0 : Int32) (0 : Int32) D_x4 D_x5 D_x6 D_x7 D_x8 ++ (eW cB uE aE E_x1 E_r0 ++ (sW cI uS aS S_x5 S_x6 S_x7 S_x8 S_x9 S_r0 S_r1 S_r2 S_r3 S_r4))) := jD
  refine lv_aload_n hx hb dX0_readInto_15 rfl (lv_at jl 0 rfl) ?_
  refine lv_iconst (v := (0 : Int32)) hx hb dX0_readInto_16 (by decide) ?_
  refine va_put (D := D) (ci := 0) (v := .int (0 : Int32)) (ty := .int) (C := RX0) (T := TX0) (N := 9) hx hb hts in0 tyX0 tyX0_ok nmX0 hown jK.1 jP jD jS 0 rfl rfl 4 (by decide) (hts _ w_129) (fun _ h9 => h9) rfl (by decide +kernel) rfl rfl (Nat.le_of_ble_eq_true rfl) dX0_readInto_17 (fun H locs jP jD jS => ?_)
  have jP : va_P D vwCl (dW uD uE (0 : Int32) (0 : Int32) (0 : Int32) (0 : Int32) D_x5 D_x6 D_x7 D_x8 ++ (eW cB uE aE E_x1 E_r0 ++ (sW cI uS aS S_x5 S_x6 S_x7 S_x8 S_x9 S_r0 S_r1 S_r2 S_r3 S_r4))) H := jP
  have jD : va_D A (dW uD uE (0 : Int32) (0 : Int32) (0 : Int32) (0 : Int32) D_x5 D_x6 D_x7 D_x8 ++ (eW cB uE aE E_x1 E_r0 ++ (sW cI uS aS S_x5 S_x6 S_x7 S_x8 S_x9 S_r0 S_r1 S_r2 S_r3 S_r4))) := jD
  refine lv_aload_n hx hb dX0_readInto_20 rfl (lv_at jl 0 rfl) ?_
  refine lv_iconst (v := (0 : Int32)) hx hb dX0_readInto_21 (by decide) ?_
  refine va_put (D := D) (ci := 0) (v := .int (0 : Int32)) (ty := .int) (C := RX0) (T := TX0) (N := 9) hx hb hts in0 tyX0 tyX0_ok nmX0 hown jK.1 jP jD jS 0 rfl rfl 5 (by decide) (hts _ w_130) (fun _ h9 => h9) rfl (by decide +kernel) rfl rfl (Nat.le_of_ble_eq_true rfl) dX0_readInto_22 (fun H locs jP jD jS => ?_)
  have jP : va_P D vwCl (dW uD uE (0 : Int32) (0 : Int32) (0 : Int32) (0 : Int32) (0 : Int32) D_x6 D_x7 D_x8 ++ (eW cB uE aE E_x1 E_r0 ++ (sW cI uS aS S_x5 S_x6 S_x7 S_x8 S_x9 S_r0 S_r1 S_r2 S_r3 S_r4))) H := jP
  have jD : va_D A (dW uD uE (0 : Int32) (0 : Int32) (0 : Int32) (0 : Int32) (0 : Int32) D_x6 D_x7 D_x8 ++ (eW cB uE aE E_x1 E_r0 ++ (sW cI uS aS S_x5 S_x6 S_x7 S_x8 S_x9 S_r0 S_r1 S_r2 S_r3 S_r4))) := jD
  refine lv_aload_n hx hb dX0_readInto_25 rfl (lv_at jl 0 rfl) ?_
  obtain ⟨t1, hc2, h⟩ := bd_some h
  refine callP (wc := (dW uD uE (0 : Int32) (0 : Int32) (0 : Int32) (0 : Int32) (0 : Int32) D_x6 D_x7 D_x8 ++ (eW cB uE aE E_x1 E_r0))) (wr := (sW cI uS aS S_x5 S_x6 S_x7 S_x8 S_x9 S_r0 S_r1 S_r2 S_r3 S_r4)) (w1 := (dW uD uE t1.1 t1.2.1 (0 : Int32) t1.2.2.1 (0 : Int32) t1.2.2.2.1 t1.2.2.2.2.1 t1.2.2.2.2.2 ++ (eW cB uE aE E_x1 E_r0))) (ws1 := (dW uD uE t1.1 t1.2.1 (0 : Int32) t1.2.2.1 (0 : Int32) t1.2.2.2.1 t1.2.2.2.2.1 t1.2.2.2.2.2 ++ (eW cB uE aE E_x1 E_r0 ++ (sW cI uS aS S_x5 S_x6 S_x7 S_x8 S_x9 S_r0 S_r1 S_r2 S_r3 S_r4)))) (As := []) (rest := []) (st1 := []) 0 [0, 1, 2] [3, 4, 5, 6, 7, 8] [6, 7, 8, 0, 1, 2, 3, 4, 5] F (kX0_readToken l D cI cB cS uD (0 : Int32) (0 : Int32) (0 : Int32) (0 : Int32) (0 : Int32) D_x6 D_x7 D_x8 uE aE E_x1 E_r0  _ hc2 ) okX0_readToken w_132 (by decide) (by decide) ⟨Nat.zero_le _, Nat.zero_le _⟩ rfl rfl rfl jP jD jS rfl jl.1 rfl rfl (Nat.le_of_ble_eq_true rfl) dX0_readInto_26 rfl rfl (by decide) (by decide) (by decide) rfl (by decide) (fun H locs jP jD jS => ?_)
  refine lv_iconst (v := (0 : Int32)) hx hb dX0_readInto_29 (by decide) ?_
  refine lv_istore_n (lv' := [(2, .int (0 : Int32)), (0, .ref uD), (1, .ref uS)]) hx hb dX0_readInto_30 rfl jl (by decide) rfl (fun ls jl => ?_)
  obtain ⟨T3, hT3, hz3⟩ := bd_some h
  clear h
  have hE3 : ∀ (H : Heap) (locs : List Loc) (ls : Array Slot), va_P D vwCl (dW uD uE T3.1 T3.2.1 T3.2.2.1 T3.2.2.2.1 T3.2.2.2.2.1 T3.2.2.2.2.2.1 T3.2.2.2.2.2.2.1 T3.2.2.2.2.2.2.2.1 ++ (eW cB uE aE E_x1 E_r0 ++ (sW cI uS aS T3.2.2.2.2.2.2.2.2.2.2.2.2.2.1 T3.2.2.2.2.2.2.2.2.2.2.2.2.2.2.1 T3.2.2.2.2.2.2.2.2.2.2.2.2.2.2.2.1 T3.2.2.2.2.2.2.2.2.2.2.2.2.2.2.2.2.1 T3.2.2.2.2.2.2.2.2.2.2.2.2.2.2.2.2.2 T3.2.2.2.2.2.2.2.2.1 T3.2.2.2.2.2.2.2.2.2.1 T3.2.2.2.2.2.2.2.2.2.2.1 T3.2.2.2.2.2.2.2.2.2.2.2.1 T3.2.2.2.2.2.2.2.2.2.2.2.2.1))) H → va_D A (dW uD uE T3.1 T3.2.1 T3.2.2.1 T3.2.2.2.1 T3.2.2.2.2.1 T3.2.2.2.2.2.1 T3.2.2.2.2.2.2.1 T3.2.2.2.2.2.2.2.1 ++ (eW cB uE aE E_x1 E_r0 ++ (sW cI uS aS T3.2.2.2.2.2.2.2.2.2.2.2.2.2.1 T3.2.2.2.2.2.2.2.2.2.2.2.2.2.2.1 T3.2.2.2.2.2.2.2.2.2.2.2.2.2.2.2.1 T3.2.2.2.2.2.2.2.2.2.2.2.2.2.2.2.2.1 T3.2.2.2.2.2.2.2.2.2.2.2.2.2.2.2.2.2 T3.2.2.2.2.2.2.2.2.1 T3.2.2.2.2.2.2.2.2.2.1 T3.2.2.2.2.2.2.2.2.2.2.1 T3.2.2.2.2.2.2.2.2.2.2.2.1 T3.2.2.2.2.2.2.2.2.2.2.2.2.1))) → va_S A s.heap H locs → lv_has ls 3 [] → W p l e R s m ar below meth c H locs 0 0 QQ (F0 m 84 ls []) := by
    clear jP jD jS jl
    intro H locs ls jP jD jS jl
    obtain rfl := Option.some.inj hz3
    exact hRet _ _ _ _ jP jD jS dX0_readInto_84
  have hL3 : ∀ (n : Nat) (v3 : (Int32 × Int32 × Int32 × Int32 × Int32 × Int32 × Int32 × Int32 × Int32 × (Nat → Int32) × (Nat → Int32) × (Nat → Int32) × (Nat → Int32) × (Nat → Int32) × Int32 × Int32 × Int32 × Int32 × Int32)), loopF (fX0_readInto_b31 E_r0 E_x1) n v3 = some T3 → ∀ (H : Heap) (locs : List Loc) (ls : Array Slot), va_P D vwCl (dW uD uE v3.2.1 v3.2.2.1 v3.2.2.2.1 v3.2.2.2.2.1 v3.2.2.2.2.2.1 v3.2.2.2.2.2.2.1 v3.2.2.2.2.2.2.2.1 v3.2.2.2.2.2.2.2.2.1 ++ (eW cB uE aE E_x1 E_r0 ++ (sW cI uS aS v3.2.2.2.2.2.2.2.2.2.2.2.2.2.2.1 v3.2.2.2.2.2.2.2.2.2.2.2.2.2.2.2.1 v3.2.2.2.2.2.2.2.2.2.2.2.2.2.2.2.2.1 v3.2.2.2.2.2.2.2.2.2.2.2.2.2.2.2.2.2.1 v3.2.2.2.2.2.2.2.2.2.2.2.2.2.2.2.2.2.2 v3.2.2.2.2.2.2.2.2.2.1 v3.2.2.2.2.2.2.2.2.2.2.1 v3.2.2.2.2.2.2.2.2.2.2.2.1 v3.2.2.2.2.2.2.2.2.2.2.2.2.1 v3.2.2.2.2.2.2.2.2.2.2.2.2.2.1))) H → va_D A (dW uD uE v3.2.1 v3.2.2.1 v3.2.2.2.1 v3.2.2.2.2.1 v3.2.2.2.2.2.1 v3.2.2.2.2.2.2.1 v3.2.2.2.2.2.2.2.1 v3.2.2.2.2.2.2.2.2.1 ++ (eW cB uE aE E_x1 E_r0 ++ (sW cI uS aS v3.2.2.2.2.2.2.2.2.2.2.2.2.2.2.1 v3.2.2.2.2.2.2.2.2.2.2.2.2.2.2.2.1 v3.2.2.2.2.2.2.2.2.2.2.2.2.2.2.2.2.1 v3.2.2.2.2.2.2.2.2.2.2.2.2.2.2.2.2.2.1 v3.2.2.2.2.2.2.2.2.2.2.2.2.2.2.2.2.2.2 v3.2.2.2.2.2.2.2.2.2.1 v3.2.2.2.2.2.2.2.2.2.2.1 v3.2.2.2.2.2.2.2.2.2.2.2.1 v3.2.2.2.2.2.2.2.2.2.2.2.2.1 v3.2.2.2.2.2.2.2.2.2.2.2.2.2.1))) → va_S A s.heap H locs → lv_has ls 3 [(0, .ref uD), (1, .ref uS), (2, .int v3.1)] → W p l e R s m ar below meth c H locs 0 0 QQ (F0 m 31 ls []) := by
    clear jP jD jS jl hT3
    intro n
    induction n with
    | zero => intro v3 hq; exact (loop_none hq).elim
    | succ n ih =>
      intro v3 hq H locs ls jP jD jS jl
      obtain ⟨o3, hv3, hq3⟩ := loop_some hq
      clear hq
      unfold fX0_readInto_b31 at hv3
      refine lv_iload_n hx hb dX0_readInto_31 rfl (lv_at jl 2 rfl) ?_
      refine lv_sipush (v := (240 : Int32)) hx hb dX0_readInto_32 (by decide) ?_
      refine lv_icmp_ge (tgt := 84) hx hb dX0_readInto_35 (by decide) (fun c4 => ?_) (fun c4 => ?_)
      · have hv3 := itp c4 hv3
        obtain rfl := Option.some.inj hv3
        obtain rfl := nxt_r hq3
        exact hE3 _ _ _ jP jD jS (lv_sub jl [] rfl)
      · have hv3 := itn c4 hv3
        refine lv_aload_n hx hb dX0_readInto_38 rfl (lv_at jl 0 rfl) ?_
        refine va_get (D := D) (ci := 0) (v := .int v3.2.1) (C := RX0) (T := TX0) (N := 9) hx hb hts in0 hown jK.1 jP 0 rfl rfl 1 (by decide) (hts _ w_126) (fun _ h9 => h9) rfl dX0_readInto_39 ?_
        refine lv_if_ne (tgt := 84) hx hb dX0_readInto_42 (by decide) (fun c5 => ?_) (fun c5 => ?_)
        · have hv3 := itn c5 hv3
          obtain rfl := Option.some.inj hv3
          obtain rfl := nxt_r hq3
          exact hE3 _ _ _ jP jD jS (lv_sub jl [] rfl)
        · have hv3 := itp c5 hv3
          refine lv_aload_n hx hb dX0_readInto_45 rfl (lv_at jl 0 rfl) ?_
          refine va_get (D := D) (ci := 0) (v := .int v3.2.2.2.2.2.2.1) (C := RX0) (T := TX0) (N := 9) hx hb hts in0 hown jK.1 jP 0 rfl rfl 6 (by decide) (hts _ w_131) (fun _ h9 => h9) rfl dX0_readInto_46 ?_
          refine lv_if_eq (tgt := 84) hx hb dX0_readInto_49 (by decide) (fun c6 => ?_) (fun c6 => ?_)
          · have hv3 := itp c6 hv3
            obtain rfl := Option.some.inj hv3
            obtain rfl := nxt_r hq3
            exact hE3 _ _ _ jP jD jS (lv_sub jl [] rfl)
          · have hv3 := itn c6 hv3
            refine lv_aload_n hx hb dX0_readInto_52 rfl (lv_at jl 0 rfl) ?_
            refine lv_aload_n hx hb dX0_readInto_53 rfl (lv_at jl 1 rfl) ?_
            obtain ⟨t7, hc8, hv3⟩ := bd_some hv3
            refine callW (w1 := (dW uD uE t7.1 t7.2.1 v3.2.2.2.1 t7.2.2.1 t7.2.2.2.1 t7.2.2.2.2.1 t7.2.2.2.2.2.1 t7.2.2.2.2.2.2.1 ++ (eW cB uE aE E_x1 E_r0 ++ (sW cI uS aS t7.2.2.2.2.2.2.2.2.2.2.2.2.1 t7.2.2.2.2.2.2.2.2.2.2.2.2.2.1 t7.2.2.2.2.2.2.2.2.2.2.2.2.2.2.1 t7.2.2.2.2.2.2.2.2.2.2.2.2.2.2.2.1 t7.2.2.2.2.2.2.2.2.2.2.2.2.2.2.2.2 t7.2.2.2.2.2.2.2.1 t7.2.2.2.2.2.2.2.2.1 t7.2.2.2.2.2.2.2.2.2.1 t7.2.2.2.2.2.2.2.2.2.2.1 t7.2.2.2.2.2.2.2.2.2.2.2.1)))) (As := [.ref uS]) (rest := []) (st1 := []) 0 F (kX0_takeLine l D cI cB cS uD v3.2.1 v3.2.2.1 v3.2.2.2.1 v3.2.2.2.2.1 v3.2.2.2.2.2.1 v3.2.2.2.2.2.2.1 v3.2.2.2.2.2.2.2.1 v3.2.2.2.2.2.2.2.2.1 uE aE E_x1 E_r0 uS aS v3.2.2.2.2.2.2.2.2.2.2.2.2.2.2.1 v3.2.2.2.2.2.2.2.2.2.2.2.2.2.2.2.1 v3.2.2.2.2.2.2.2.2.2.2.2.2.2.2.2.2.1 v3.2.2.2.2.2.2.2.2.2.2.2.2.2.2.2.2.2.1 v3.2.2.2.2.2.2.2.2.2.2.2.2.2.2.2.2.2.2 v3.2.2.2.2.2.2.2.2.2.1 v3.2.2.2.2.2.2.2.2.2.2.1 v3.2.2.2.2.2.2.2.2.2.2.2.1 v3.2.2.2.2.2.2.2.2.2.2.2.2.1 v3.2.2.2.2.2.2.2.2.2.2.2.2.2.1  _ hc8 ) okX0_takeLine w_159 (by decide) (by decide) ⟨Nat.zero_le _, Nat.zero_le _⟩ rfl rfl rfl jP jD jS rfl jl.1 rfl rfl (Nat.le_of_ble_eq_true rfl) dX0_readInto_54 (fun H locs jP jD jS => ?_)
            refine lv_aload_n hx hb dX0_readInto_57 rfl (lv_at jl 0 rfl) ?_
            refine lv_dup hx hb dX0_readInto_58 rfl ?_
            refine va_get (D := D) (ci := 0) (v := .int v3.2.2.2.1) (C := RX0) (T := TX0) (N := 9) hx hb hts in0 hown jK.1 jP 0 rfl rfl 3 (by decide) (hts _ w_128) (fun _ h9 => h9) rfl dX0_readInto_59 ?_
            refine lv_iconst (v := (1 : Int32)) hx hb dX0_readInto_62 (by decide) ?_
            refine lv_iadd hx hb dX0_readInto_63 ?_
            refine va_put (D := D) (ci := 0) (v := .int (v3.2.2.2.1 + (1 : Int32))) (ty := .int) (C := RX0) (T := TX0) (N := 9) hx hb hts in0 tyX0 tyX0_ok nmX0 hown jK.1 jP jD jS 0 rfl rfl 3 (by decide) (hts _ w_128) (fun _ h9 => h9) rfl (by decide +kernel) rfl rfl (Nat.le_of_ble_eq_true rfl) dX0_readInto_64 (fun H locs jP jD jS => ?_)
            have jP : va_P D vwCl (dW uD uE t7.1 t7.2.1 (v3.2.2.2.1 + (1 : Int32)) t7.2.2.1 t7.2.2.2.1 t7.2.2.2.2.1 t7.2.2.2.2.2.1 t7.2.2.2.2.2.2.1 ++ (eW cB uE aE E_x1 E_r0 ++ (sW cI uS aS t7.2.2.2.2.2.2.2.2.2.2.2.2.1 t7.2.2.2.2.2.2.2.2.2.2.2.2.2.1 t7.2.2.2.2.2.2.2.2.2.2.2.2.2.2.1 t7.2.2.2.2.2.2.2.2.2.2.2.2.2.2.2.1 t7.2.2.2.2.2.2.2.2.2.2.2.2.2.2.2.2 t7.2.2.2.2.2.2.2.1 t7.2.2.2.2.2.2.2.2.1 t7.2.2.2.2.2.2.2.2.2.1 t7.2.2.2.2.2.2.2.2.2.2.1 t7.2.2.2.2.2.2.2.2.2.2.2.1))) H := jP
            have jD : va_D A (dW uD uE t7.1 t7.2.1 (v3.2.2.2.1 + (1 : Int32)) t7.2.2.1 t7.2.2.2.1 t7.2.2.2.2.1 t7.2.2.2.2.2.1 t7.2.2.2.2.2.2.1 ++ (eW cB uE aE E_x1 E_r0 ++ (sW cI uS aS t7.2.2.2.2.2.2.2.2.2.2.2.2.1 t7.2.2.2.2.2.2.2.2.2.2.2.2.2.1 t7.2.2.2.2.2.2.2.2.2.2.2.2.2.2.1 t7.2.2.2.2.2.2.2.2.2.2.2.2.2.2.2.1 t7.2.2.2.2.2.2.2.2.2.2.2.2.2.2.2.2 t7.2.2.2.2.2.2.2.1 t7.2.2.2.2.2.2.2.2.1 t7.2.2.2.2.2.2.2.2.2.1 t7.2.2.2.2.2.2.2.2.2.2.1 t7.2.2.2.2.2.2.2.2.2.2.2.1))) := jD
            refine lv_aload_n hx hb dX0_readInto_67 rfl (lv_at jl 0 rfl) ?_
            refine va_get (D := D) (ci := 0) (v := .int t7.1) (C := RX0) (T := TX0) (N := 9) hx hb hts in0 hown jK.1 jP 0 rfl rfl 1 (by decide) (hts _ w_126) (fun _ h9 => h9) rfl dX0_readInto_68 ?_
            obtain ⟨t12, hvt12, hv3⟩ := bd_some hv3
            have hJt12 : ∀ (H : Heap) (locs : List Loc) (ls : Array Slot), va_P D vwCl (dW uD uE t12.1 t12.2.1 (v3.2.2.2.1 + (1 : Int32)) t12.2.2.1 t7.2.2.2.1 t12.2.2.2.1 t12.2.2.2.2.1 t12.2.2.2.2.2 ++ (eW cB uE aE E_x1 E_r0 ++ (sW cI uS aS t7.2.2.2.2.2.2.2.2.2.2.2.2.1 t7.2.2.2.2.2.2.2.2.2.2.2.2.2.1 t7.2.2.2.2.2.2.2.2.2.2.2.2.2.2.1 t7.2.2.2.2.2.2.2.2.2.2.2.2.2.2.2.1 t7.2.2.2.2.2.2.2.2.2.2.2.2.2.2.2.2 t7.2.2.2.2.2.2.2.1 t7.2.2.2.2.2.2.2.2.1 t7.2.2.2.2.2.2.2.2.2.1 t7.2.2.2.2.2.2.2.2.2.2.1 t7.2.2.2.2.2.2.2.2.2.2.2.1))) H → va_D A (dW uD uE t12.1 t12.2.1 (v3.2.2.2.1 + (1 : Int32)) t12.2.2.1 t7.2.2.2.1 t12.2.2.2.1 t12.2.2.2.2.1 t12.2.2.2.2.2 ++ (eW cB uE aE E_x1 E_r0 ++ (sW cI uS aS t7.2.2.2.2.2.2.2.2.2.2.2.2.1 t7.2.2.2.2.2.2.2.2.2.2.2.2.2.1 t7.2.2.2.2.2.2.2.2.2.2.2.2.2.2.1 t7.2.2.2.2.2.2.2.2.2.2.2.2.2.2.2.1 t7.2.2.2.2.2.2.2.2.2.2.2.2.2.2.2.2 t7.2.2.2.2.2.2.2.1 t7.2.2.2.2.2.2.2.2.1 t7.2.2.2.2.2.2.2.2.2.1 t7.2.2.2.2.2.2.2.2.2.2.1 t7.2.2.2.2.2.2.2.2.2.2.2.1))) → va_S A s.heap H locs → lv_has ls 3 [(0, .ref uD), (1, .ref uS), (2, .int v3.1)] → W p l e R s m ar below meth c H locs 0 0 QQ (F0 m 78 ls []) := by
              clear jP jD jS jl
              intro H locs ls jP jD jS jl
              refine lv_iinc (v := (v3.1 + (1 : Int32))) (lv' := [(2, .int (v3.1 + (1 : Int32))), (0, .ref uD), (1, .ref uS)]) hx hb dX0_readInto_78 jl (k := 2) rfl rfl (by decide) rfl (fun ls jl => ?_)
              refine lv_goto (tgt := 31) hx hb dX0_readInto_81 (by decide) ?_
              obtain rfl := Option.some.inj hv3
              exact ih _ (nxt_l hq3) _ _ _ jP jD jS (lv_sub jl [1, 2, 0] rfl)
            clear hv3
            refine lv_if_ne (tgt := 78) hx hb dX0_readInto_71 (by decide) (fun c9 => ?_) (fun c9 => ?_)
            · have hvt12 := itn c9 hvt12
              obtain rfl := Option.some.inj hvt12
              exact hJt12 _ _ _ jP jD jS (lv_sub jl [0, 1, 2] rfl)
            · have hvt12 := itp c9 hvt12
              refine lv_aload_n hx hb dX0_readInto_74 rfl (lv_at jl 0 rfl) ?_
              obtain ⟨t10, hc11, hvt12⟩ := bd_some hvt12
              refine callP (wc := (dW uD uE t7.1 t7.2.1 (v3.2.2.2.1 + (1 : Int32)) t7.2.2.1 t7.2.2.2.1 t7.2.2.2.2.1 t7.2.2.2.2.2.1 t7.2.2.2.2.2.2.1 ++ (eW cB uE aE E_x1 E_r0))) (wr := (sW cI uS aS t7.2.2.2.2.2.2.2.2.2.2.2.2.1 t7.2.2.2.2.2.2.2.2.2.2.2.2.2.1 t7.2.2.2.2.2.2.2.2.2.2.2.2.2.2.1 t7.2.2.2.2.2.2.2.2.2.2.2.2.2.2.2.1 t7.2.2.2.2.2.2.2.2.2.2.2.2.2.2.2.2 t7.2.2.2.2.2.2.2.1 t7.2.2.2.2.2.2.2.2.1 t7.2.2.2.2.2.2.2.2.2.1 t7.2.2.2.2.2.2.2.2.2.2.1 t7.2.2.2.2.2.2.2.2.2.2.2.1)) (w1 := (dW uD uE t10.1 t10.2.1 (v3.2.2.2.1 + (1 : Int32)) t10.2.2.1 t7.2.2.2.1 t10.2.2.2.1 t10.2.2.2.2.1 t10.2.2.2.2.2 ++ (eW cB uE aE E_x1 E_r0))) (ws1 := (dW uD uE t10.1 t10.2.1 (v3.2.2.2.1 + (1 : Int32)) t10.2.2.1 t7.2.2.2.1 t10.2.2.2.1 t10.2.2.2.2.1 t10.2.2.2.2.2 ++ (eW cB uE aE E_x1 E_r0 ++ (sW cI uS aS t7.2.2.2.2.2.2.2.2.2.2.2.2.1 t7.2.2.2.2.2.2.2.2.2.2.2.2.2.1 t7.2.2.2.2.2.2.2.2.2.2.2.2.2.2.1 t7.2.2.2.2.2.2.2.2.2.2.2.2.2.2.2.1 t7.2.2.2.2.2.2.2.2.2.2.2.2.2.2.2.2 t7.2.2.2.2.2.2.2.1 t7.2.2.2.2.2.2.2.2.1 t7.2.2.2.2.2.2.2.2.2.1 t7.2.2.2.2.2.2.2.2.2.2.1 t7.2.2.2.2.2.2.2.2.2.2.2.1)))) (As := []) (rest := []) (st1 := []) 0 [0, 1, 2] [3, 4, 5, 6, 7, 8] [6, 7, 8, 0, 1, 2, 3, 4, 5] F (kX0_readToken l D cI cB cS uD t7.1 t7.2.1 (v3.2.2.2.1 + (1 : Int32)) t7.2.2.1 t7.2.2.2.1 t7.2.2.2.2.1 t7.2.2.2.2.2.1 t7.2.2.2.2.2.2.1 uE aE E_x1 E_r0  _ hc11 ) okX0_readToken w_132 (by decide) (by decide) ⟨Nat.zero_le _, Nat.zero_le _⟩ rfl rfl rfl jP jD jS rfl jl.1 rfl rfl (Nat.le_of_ble_eq_true rfl) dX0_readInto_75 rfl rfl (by decide) (by decide) (by decide) rfl (by decide) (fun H locs jP jD jS => ?_)
              obtain rfl := Option.some.inj hvt12
              exact hJt12 _ _ _ jP jD jS (lv_sub jl [0, 1, 2] rfl)
  exact hL3 1000 _ hT3 _ _ _ jP jD jS (lv_sub jl [1, 2, 0] rfl)
