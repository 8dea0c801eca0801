section Base
/-- small checks in the pictures of methods -/
def ckI {α : Type} (i : Int32) (n : Nat) (x : Option α) : Option α := if i < 0 ∨ n ≤ i.toNatClampNeg then none else x
def ckN {α : Type} (y : Int32) (x : Option α) : Option α := if y = 0 then none else x
def ckL {α : Type} (y : Int64) (x : Option α) : Option α := if y = 0 then none else x
def ckB {α : Type} (y : Int32) (x : Option α) : Option α := if y = 0 ∨ y = 1 then x else none
def bd {α β : Type} (x : Option α) (f : α → Option β) : Option β := match x with
  | none => none
  | some t => f t
theorem ckI_some {α : Type} {i : Int32} {n : Nat} {x : Option α} {z : α} (h : ckI i n x = some z) : vp_in i n ∧ x = some z := by
  unfold ckI at h
  by_cases c : i < 0 ∨ n ≤ i.toNatClampNeg
  · rw [if_pos c] at h; cases h
  · rw [if_neg c] at h; exact ⟨c, h⟩
theorem ckN_some {α : Type} {y : Int32} {x : Option α} {z : α} (h : ckN y x = some z) : ¬ y = 0 ∧ x = some z := by
  unfold ckN at h
  by_cases c : y = 0
  · rw [if_pos c] at h; cases h
  · rw [if_neg c] at h; exact ⟨c, h⟩
theorem ckL_some {α : Type} {y : Int64} {x : Option α} {z : α} (h : ckL y x = some z) : ¬ y = 0 ∧ x = some z := by
  unfold ckL at h
  by_cases c : y = 0
  · rw [if_pos c] at h; cases h
  · rw [if_neg c] at h; exact ⟨c, h⟩
theorem ckB_some {α : Type} {y : Int32} {x : Option α} {z : α} (h : ckB y x = some z) : (y = 0 ∨ y = 1) ∧ x = some z := by
  unfold ckB at h
  by_cases c : y = 0 ∨ y = 1
  · rw [if_pos c] at h; exact ⟨c, h⟩
  · rw [if_neg c] at h; cases h
theorem bd_some {α β : Type} {x : Option α} {f : α → Option β} {z : β} (h : bd x f = some z) : ∃ t, x = some t ∧ f t = some z := by
  cases x with
  | none => cases h
  | some t => exact ⟨t, rfl, h⟩
theorem itp {α : Type} {c : Prop} [Decidable c] {a b : Option α} {z : α} (hc : c) (h : (if c then a else b) = some z) : a = some z := by rw [if_pos hc] at h; exact h
theorem itn {α : Type} {c : Prop} [Decidable c] {a b : Option α} {z : α} (hc : ¬ c) (h : (if c then a else b) = some z) : b = some z := by rw [if_neg hc] at h; exact h
theorem nbool {y : Int32} (h : y = 0 ∨ y = 1) : narrow .boolean (.int y) = .int y := by rcases h with rfl | rfl <;> rfl
/-- the arrays' kinds that the tables know, and the links between nest mates -/
abbrev tyG (cI cB cS : ClassId) : List (ClassId × FieldType) := [(cI, .int), (cB, .byte), (cS, .object RX1)]
def nestW : List Cond := [.methodLinkNest RX0 109 yX5_isWithin RX5, .methodLinkNest RX1 22 yX5_isWithin RX5, .methodLinkNest RX1 26 yX5_isSortAsTold RX5, .methodLinkNest RX2 53 yX5_isWithin RX5, .methodLinkNest RX5 27 yX4_init RX5, .methodLinkNest RX5 38 yX1_init RX5, .methodLinkNest RX5 41 yX2_init RX5, .methodLinkNest RX5 9 yX3_init RX5]
def gK (D : va_G) (cI cB cS : ClassId) (U : State) : Prop := va_K D vwCl (tyG cI cB cS) U ∧ ∀ w ∈ nestW, va_Nw w U
theorem nest_warm {s U : State} (hW : s.WarmedH U.vm) (h : ∀ w ∈ nestW, va_Nw w s) : ∀ w ∈ nestW, va_Nw w U := by
  intro w hw
  have h1 := h w hw
  simp only [nestW, List.mem_cons, List.mem_nil_iff, or_false] at hw
  rcases hw with rfl | rfl | rfl | rfl | rfl | rfl | rfl | rfl <;> exact va_Nw.warmM hW h1
theorem gK.moved {D : va_G} {cI cB cS : ClassId} {s U : State} (hW : s.WarmedH U.vm) (h : gK D cI cB cS s) : gK D cI cB cS U := ⟨va_K.moved hW.alike h.1, nest_warm hW h.2⟩
theorem nest_same {s U : State} (hv : s.vm = U.vm) (h : ∀ w ∈ nestW, va_Nw w s) : ∀ w ∈ nestW, va_Nw w U := by
  intro w hw
  have h1 := h w hw
  simp only [nestW, List.mem_cons, List.mem_nil_iff, or_false] at hw
  rcases hw with rfl | rfl | rfl | rfl | rfl | rfl | rfl | rfl <;> exact va_Nw.same rfl hv h1
theorem gK.calling {D : va_G} {cI cB cS : ClassId} {U : State} (h : gK D cI cB cS U) (g : JFrame) (mk : MethodId) (a : Array Value) : gK D cI cB cS (U.calling g mk a) :=
  ⟨va_K.moved (u := U) (U := U.calling g mk a) (Vm.Alike.refl U.vm) h.1, nest_same (s := U) (U := U.calling g mk a) rfl h.2⟩
/-- a method's start and end over a world of cells -/
def cP (D : va_G) (cI cB cS : ClassId) (wc : va_W) (sz : Nat) (av : List Value) : Array Value → State → Prop := va_Pc av (fun U => U.heap.size = sz ∧ va_P D vwCl wc U.heap ∧ gK D cI cB cS U ∧ va_D (fun _ => True) wc)
def cQ (D : va_G) (w1 : va_W) (rv : Option Value) (A : Nat → Prop) : Array Value → State → Outcome → State → Prop := fun _ st oc t => (oc = .returned rv ∧ va_P D vwCl w1 t.heap ∧ va_D A w1) ∧ va_F A st t
abbrev rmO (fr lo : Nat) : Room := { frames := fr, cells := 0, slots := 0, locals := lo }
/-- a contract without makings: any heap that holds the world wc: the method returns rv, the heap holds w1, nothing else has changed -/
def Mt (l : Launch) (y : MethodName) (cc : ByteArray) (mL : Nat) (ret : Option FieldType) (fr lo : Nat) (D : va_G) (cI cB cS : ClassId) (wc w1 : va_W) (av : List Value) (rv : Option Value) : Prop :=
  ∀ sz : Nat, Met l y (.code y cc mL ret :: gT) (rmO fr lo) (cP D cI cB cS wc sz av) (cQ D w1 rv (va_A wc sz)) 0 0 (va_A wc sz)
theorem cP_blind {D : va_G} {cI cB cS : ClassId} {wc : va_W} {sz : Nat} {av : List Value} : FrameBlind (cP D cI cB cS wc sz av) := fun a U g mk q => by
  obtain ⟨q0, q1, qP, qK, qD⟩ := q
  exact ⟨q0, q1, qP, qK.calling g mk a, qD⟩
theorem Met.ofWF {l : Launch} {y : MethodName} {ws ws' : List Cond} {rm : Room} {Pc : Array Value → State → Prop} {Qc : Array Value → State → Outcome → State → Prop} {mc ms : Nat} {free : Addr → Prop} {cc : ByteArray} {maxL : Nat} {ret : Option FieldType}
    (hy : plainFor y = true) (hw : ws = Cond.code y cc maxL ret :: ws')
    (body : ∀ p e s m args below meth c s₁, BodyLoose p l y (headSpec ws rm) cc maxL ret e s m args below meth c s₁ → c.maxLocals = maxL → Pc args s →
      W p l e (headSpec ws rm).room s m args below meth c s.heap [] 0 0 (MQ below Qc args s mc ms free) (entryFrame m args maxL)) : Met l y ws rm Pc Qc mc ms free := by
  refine MetFree.of_bodySF (code := cc) (maxLocals := maxL) (ret := ret) hy ?_ ?_
  · intro args s m h hn
    obtain ⟨meth, c, h1, h2, h3, h4, h5, h6, -, -⟩ := Cond.code_spec hn (atoms_spec (ws := ws) h _ (by rw [hw]; exact List.mem_cons_self))
    exact ⟨meth, c, h1, h2, h3, h4, h5, h6⟩
  · intro p e s m args below meth c s₁ B hml hP _
    have hh0 : s₁.heap = s.heap := by rw [B.state]; rfl
    obtain ⟨t, a1, o, b1, b2, b3⟩ := body p e s m args below meth c s₁ B hml hP s₁ hh0 (Stand.of_body B)
    exact ⟨t, o, a1, b1, b2, ⟨b3.1, b3.2⟩⟩
/-- a method's entry -/
theorem entry {l : Launch} {y : MethodName} {cc : ByteArray} {mL : Nat} {ret : Option FieldType} {fr lo : Nat} {D : va_G} {cI cB cS : ClassId} {wc w1 : va_W} {av : List Value} {rv : Option Value} {own : String} (hy : plainFor y = true) (ho : y.cls = own) (hav : (lg_sl av).length ≤ mL)
    (body : ∀ (p : Program) (e : Env) (s : State) (m : MethodId) (below : List Frame) (meth : Method) (c : Code) (A : Nat → Prop) (ls : Array Slot), p.tables.exec = Jvm.exec → c.code = cc → c.maxLocals = mL → meth.sig.returnType = ret → meth.locks = false → s.vm.findClass own = some m.cls → (∀ w ∈ gT, w.before av.toArray s = true) → gK D cI cB cS s →
      (∀ q : Nat, s.heap.size ≤ q → A q) → va_P D vwCl wc s.heap → va_D A wc → va_S A s.heap s.heap [] → lv_has ls mL (lv_args 0 av) →
      W p l e (rmO fr lo) s m av.toArray below meth c s.heap [] 0 0 (MQ below (cQ D w1 rv A) av.toArray s 0 0 A) (F0 m 0 ls [])) :
    Mt l y cc mL ret fr lo D cI cB cS wc w1 av rv := by
  intro sz
  refine Met.ofWF (cc := cc) (maxL := mL) (ret := ret) hy rfl ?_
  intro p e s m args below meth c s₁ B hml hv
  obtain ⟨rfl, hsz, hP, hK, hD0⟩ := hv
  have hts : ∀ w ∈ gT, w.before av.toArray s = true := fun w hw => atoms_spec (ws := .code y cc mL ret :: gT) B.pre w (List.mem_cons_of_mem _ hw)
  subst hsz
  rw [lg_entry_eq]
  exact body p e s m below meth c (va_A wc s.heap.size) _ B.exec B.bytes hml B.returns B.notSynchronized (by rw [← ho]; exact findClass_of_methodNamed B.named) hts hK (fun q h => Or.inr h) hP (hD0.self (sz := s.heap.size)) va_S.rf (lv_entry av hav)
section Ret
variable {p : Program} {l : Launch} {e : Env} {R : Room} {s : State} {m : MethodId} {args : Array Value} {below : List Frame} {meth : Method} {c : Code} {H : Heap} {locs : List Loc} {D : va_G} {w1 : va_W} {A : Nat → Prop} {cc : ByteArray} {pc : Nat} {ls : Array Slot}
theorem retI {r : Int32} (hx : p.tables.exec = Jvm.exec) (hb : c.code = cc) (hr : meth.sig.returnType = some .int) (hk : meth.locks = false) (hP : va_P D vwCl w1 H) (hD : va_D A w1) (hS : va_S A s.heap H locs) (hdg : decode cc pc = .ok (.ireturn, 1)) : W p l e R s m args below meth c H locs 0 0 (MQ below (cQ D w1 (some (.int r)) A) args s 0 0 A) (F0 m pc ls [.int r]) :=
  W.iret (v := r) hx hb hr (fun t ht _ => ⟨⟨rfl, by rw [ht]; exact hP, hD⟩, hS.F ht⟩) hS.2.2 hdg
theorem retZ {r : Int32} (hx : p.tables.exec = Jvm.exec) (hb : c.code = cc) (hr : meth.sig.returnType = some .boolean) (hk : meth.locks = false) (hn : r = 0 ∨ r = 1) (hP : va_P D vwCl w1 H) (hD : va_D A w1) (hS : va_S A s.heap H locs) (hdg : decode cc pc = .ok (.ireturn, 1)) : W p l e R s m args below meth c H locs 0 0 (MQ below (cQ D w1 (some (.int r)) A) args s 0 0 A) (F0 m pc ls [.int r]) :=
  W.zret (v := r) hx hb hr (nbool hn) (fun t ht _ => ⟨⟨rfl, by rw [ht]; exact hP, hD⟩, hS.F ht⟩) hS.2.2 hdg
theorem retL {r : Int64} (hx : p.tables.exec = Jvm.exec) (hb : c.code = cc) (hr : meth.sig.returnType = some .long) (hk : meth.locks = false) (hP : va_P D vwCl w1 H) (hD : va_D A w1) (hS : va_S A s.heap H locs) (hdg : decode cc pc = .ok (.lreturn, 1)) : W p l e R s m args below meth c H locs 0 0 (MQ below (cQ D w1 (some (.long r)) A) args s 0 0 A) (F0 m pc ls [.long r]) :=
  W.lret (v := r) hx hb hr (fun t ht _ => ⟨⟨rfl, by rw [ht]; exact hP, hD⟩, hS.F ht⟩) hS.2.2 hdg
theorem retV (hx : p.tables.exec = Jvm.exec) (hb : c.code = cc) (hr : meth.sig.returnType = none) (hk : meth.locks = false) (hP : va_P D vwCl w1 H) (hD : va_D A w1) (hS : va_S A s.heap H locs) (hdg : decode cc pc = .ok (.return_, 1)) : W p l e R s m args below meth c H locs 0 0 (MQ below (cQ D w1 none A) args s 0 0 A) (F0 m pc ls []) :=
  W.vret hx hb hr (fun t ht _ => ⟨⟨rfl, by rw [ht]; exact hP, hD⟩, hS.F ht⟩) hS.2.2 hdg
theorem retA {r : Nat} {rt : FieldType} (hx : p.tables.exec = Jvm.exec) (hb : c.code = cc) (hr : meth.sig.returnType = some rt) (hrt : (∃ n, rt = .object n) ∨ ∃ t, rt = .array t) (hk : meth.locks = false) (hP : va_P D vwCl w1 H) (hD : va_D A w1) (hS : va_S A s.heap H locs) (hdg : decode cc pc = .ok (.areturn, 1)) : W p l e R s m args below meth c H locs 0 0 (MQ below (cQ D w1 (some (.ref r)) A) args s 0 0 A) (F0 m pc ls [.ref r]) :=
  W.aret (v := .ref r) hx hb hr hrt (Or.inr ⟨_, rfl⟩) (fun t ht _ => ⟨⟨rfl, by rw [ht]; exact hP, hD⟩, hS.F ht⟩) hS.2.2 hdg
end Ret
section Call
variable {p : Program} {l : Launch} {e : Env} {R : Room} {s : State} {m : MethodId} {args : Array Value} {below : List Frame} {meth : Method} {c : Code} {H : Heap} {locs : List Loc} {cells slots : Nat} {Q : State → Prop}
variable {pc : Nat} {ls : Array Slot} {rest st0 As : List Value} {a : Array Value} {A : Nat → Prop} {free : Addr → Prop} {D : va_G} {cI cB cS : ClassId} {ws wc wr w1 ws1 : va_W} {rv : Option Value} {cc bytes : ByteArray} {own : String} {nL mL n idx fr lo b ci : Nat} {y : MethodName} {ret : Option FieldType} {fs : List Value} {cq : vw_C}
theorem runX (hr : va_Run p l e R s m args below meth c H locs cells slots 0 0 (F0 m pc ls st0) rest (cQ D w1 rv (va_A wc H.size) a) (va_A wc H.size)) (hP : va_P D vwCl ws H) (hD : va_D A ws) (hS : va_S A s.heap H locs) (hA : ∀ q : Nat, s.heap.size ≤ q → A q)
    (isC isR isN : List Nat) (hC : isC.map (fun i => ws[i]?) = wc.map some) (hR : isR.map (fun i => ws[i]?) = wr.map some) (hn : va_nd isR = true) (hdis : ∀ i ∈ isR, i ∉ isC) (hN : isN.map (fun i => (wr ++ w1)[i]?) = ws1.map some) (hN2 : va_nd isN = true)
    (kk : ∀ (H1 : Heap) (locs1 : List Loc), va_P D vwCl ws1 H1 → va_D A ws1 → va_S A s.heap H1 locs1 → W p l e R s m args below meth c H1 locs1 cells slots Q (F0 m (pc + 3) ls (rv.toList ++ rest))) : W p l e R s m args below meth c H locs cells slots Q (F0 m pc ls st0) := by
  have hFc := va_free (wc := wc) hD hS hA isC hC
  intro T hT X
  obtain ⟨v, st₀, t, T', L, h0, X', hL, e1, e2, ⟨⟨hv, hP1, hD1⟩, hz, hk⟩, st⟩ := hr T hT X
  have hv : v = rv := by injection hv
  subst hv
  rw [h0] at hz hk
  rw [← e1] at hP1 hz hk
  obtain ⟨hP2, hD2⟩ := va_join (wr := wr) (w1 := w1) hP hD isC isR hC hR hn hdis hk hFc hP1 hD1
  have hD3 := hD2.sub (ws' := ws1) isN hN2 hN
  have hP3 : va_P D vwCl ws1 T'.heap := by
    refine hP2.sub isN ?_
    have e0 : isN.filterMap (fun i => (wr ++ w1)[i]?) = (isN.map (fun i => (wr ++ w1)[i]?)).filterMap id := by rw [List.filterMap_map]; rfl
    rw [e0, hN, List.filterMap_map]
    exact List.filterMap_some
  obtain ⟨t2, a1, b1⟩ := kk T'.heap (locs ++ L) hP3 hD3
    ⟨Nat.le_trans hS.1 hz, fun q h1 h2 => by rw [hk q (Nat.lt_of_lt_of_le h1 hS.1) (fun z => h2 (hFc q z))]; exact hS.2.1 q h1 h2, fun q hq => by
      rcases List.mem_append.mp hq with h | h
      · exact hS.2.2 q h
      · exact hFc _ (hL q h)⟩ T' rfl X'
  exact ⟨t2, st t2 a1, b1⟩
/-- what a callee needs of the tables -/
def okV (y : MethodName) (bytes : ByteArray) (mL : Nat) (ret : Option FieldType) (n : Nat) : Prop := Cond.instanceMethod y ∈ gT ∧ Cond.selects y.cls y y ∈ gT ∧ Cond.code y bytes mL ret ∈ gT ∧ Cond.initialized y.cls ∈ gT ∧ y.cls ≠ "java/lang/invoke/MethodHandle" ∧ y.cls ≠ "java/lang/invoke/VarHandle" ∧ (parseMethodDescriptor y.desc).map (fun d => d.parameters.length) = some n
def okS (y : MethodName) (bytes : ByteArray) (mL : Nat) (ret : Option FieldType) (n : Nat) : Prop := Cond.static y ∈ gT ∧ Cond.code y bytes mL ret ∈ gT ∧ Cond.initialized y.cls ∈ gT ∧ y.cls ≠ "java/lang/invoke/MethodHandle" ∧ y.cls ≠ "java/lang/invoke/VarHandle" ∧ (parseMethodDescriptor y.desc).map (fun d => d.parameters.length) = some n
theorem gd_code {y : MethodName} {bytes : ByteArray} {mL : Nat} {ret : Option FieldType} (h : Cond.code y bytes mL ret ∈ gT) : GoodIn gT (Cond.code y bytes mL ret :: gT) := fun w hw => by
  rcases List.mem_cons.mp hw with rfl | hw
  · exact ⟨h, gT_good _ h⟩
  · exact ⟨hw, gT_good _ hw⟩
theorem g_recv {q0 : Nat} (hK : gK D cI cB cS s) (hP : va_P D vwCl ws H) (hc : vwCl[ci]? = some cq) (he : ws[q0]? = some (b, .inr (ci, fs))) : ∃ cell : Cell, H[b]? = some cell ∧ cell.vm.isStatics = false ∧ s.vm.findClass cq.1 = some cell.cls := va_recv hK.1 hP hc he
theorem runV (q0 : Nat) (hx : p.tables.exec = Jvm.exec) (hb : c.code = cc) (hml : c.maxLocals = nL) (hown : s.vm.findClass own = some m.cls) (hts : ∀ w ∈ gT, w.before args s = true) (hK : gK D cI cB cS s) (hM : Mt l y bytes mL ret fr lo D cI cB cS wc w1 (.ref b :: As) rv) (ok : okV y bytes mL ret n) (hl : Cond.methodLink own idx y ∈ gT)
    (hR : fr + 1 ≤ R.frames ∧ 8 + (mL + 11) + lo ≤ R.locals) (hf : cells ≤ R.cells ∧ slots ≤ R.slots) (hPc : va_P D vwCl wc H) (hDc : va_D A wc) (hc : vwCl[ci]? = some cq) (hcq : cq.1 = y.cls) (he : wc[q0]? = some (b, .inr (ci, fs)))
    (hn : As.length = n) (hsz : ls.size = nL) (hst : st0 = As.reverse ++ .ref b :: rest) (hW : (rest.map fun v => v.category).sum ≤ 8) (hdg : decode cc pc = .ok (.invokevirtual idx, 3)) :
    va_Run p l e R s m args below meth c H locs cells slots 0 0 (F0 m pc ls st0) rest (cQ D w1 rv (va_A wc H.size) (Value.ref b :: As).toArray) (va_A wc H.size) := by
  obtain ⟨k1, k2, k3, k4, k5, k6, k7⟩ := ok
  refine va_runV (C := y.cls) (Ts := gT) (n := n) ⟨hx, hb, hml, hown, hts⟩ (hM H.size) ⟨callB_of n hts (gd_code k3) rfl rfl rfl (hts _ k4) (hts _ hl) ⟨k5, k6, k7⟩ hR, hts _ k1, hts _ k2⟩ ⟨cP_blind, ?_, fun U hU hW => ⟨rfl, by rw [hU], by rw [hU]; exact hPc, hK.moved hW, hDc.weaken (fun _ _ _ _ => trivial)⟩⟩ rfl hn hsz hst (lv_room hW) hdg hf
  rw [← hcq]
  exact g_recv hK hPc hc he
theorem runS (hx : p.tables.exec = Jvm.exec) (hb : c.code = cc) (hml : c.maxLocals = nL) (hown : s.vm.findClass own = some m.cls) (hts : ∀ w ∈ gT, w.before args s = true) (hK : gK D cI cB cS s) (hM : Mt l y bytes mL ret fr lo D cI cB cS wc w1 As rv) (ok : okS y bytes mL ret n) (hl : Cond.methodLink own idx y ∈ gT)
    (hR : fr + 1 ≤ R.frames ∧ 8 + (mL + 11) + lo ≤ R.locals) (hf : cells ≤ R.cells ∧ slots ≤ R.slots) (hPc : va_P D vwCl wc H) (hDc : va_D A wc)
    (hn : As.length = n) (hsz : ls.size = nL) (hst : st0 = As.reverse ++ rest) (hW : (rest.map fun v => v.category).sum ≤ 8) (hdg : decode cc pc = .ok (.invokestatic idx, 3)) :
    va_Run p l e R s m args below meth c H locs cells slots 0 0 (F0 m pc ls st0) rest (cQ D w1 rv (va_A wc H.size) As.toArray) (va_A wc H.size) := by
  obtain ⟨k1, k3, k4, k5, k6, k7⟩ := ok
  exact va_runS (Ts := gT) (n := n) ⟨hx, hb, hml, hown, hts⟩ (hM H.size) ⟨callB_of n hts (gd_code k3) rfl rfl rfl (hts _ k4) (hts _ hl) ⟨k5, k6, k7⟩ hR, hts _ k1⟩ ⟨cP_blind, fun U hU hW => ⟨rfl, by rw [hU], by rw [hU]; exact hPc, hK.moved hW, hDc.weaken (fun _ _ _ _ => trivial)⟩⟩ rfl hn hsz hst (lv_room hW) hdg hf
theorem runSN {host : String} (hx : p.tables.exec = Jvm.exec) (hb : c.code = cc) (hml : c.maxLocals = nL) (hown : s.vm.findClass own = some m.cls) (hts : ∀ w ∈ gT, w.before args s = true) (hK : gK D cI cB cS s) (hM : Mt l y bytes mL ret fr lo D cI cB cS wc w1 As rv) (ok : okS y bytes mL ret n) (hl : Cond.methodLinkNest own idx y host ∈ nestW)
    (hR : fr + 1 ≤ R.frames ∧ 8 + (mL + 11) + lo ≤ R.locals) (hf : cells ≤ R.cells ∧ slots ≤ R.slots) (hPc : va_P D vwCl wc H) (hDc : va_D A wc)
    (hn : As.length = n) (hsz : ls.size = nL) (hst : st0 = As.reverse ++ rest) (hW : (rest.map fun v => v.category).sum ≤ 8) (hdg : decode cc pc = .ok (.invokestatic idx, 3)) :
    va_Run p l e R s m args below meth c H locs cells slots 0 0 (F0 m pc ls st0) rest (cQ D w1 rv (va_A wc H.size) As.toArray) (va_A wc H.size) := by
  obtain ⟨k1, k3, k4, k5, k6, k7⟩ := ok
  exact va_runSN (Ts := gT) (n := n) (host := host) ⟨hx, hb, hml, hown, hts⟩ (hM H.size) ⟨va_cnB n hts (gd_code k3) rfl rfl rfl (hK.2 _ hl) (hts _ k4) ⟨k5, k6, k7⟩ hR, hts _ k1, trivial⟩ ⟨cP_blind, fun U hU hW => ⟨rfl, by rw [hU], by rw [hU]; exact hPc, hK.moved hW, hDc.weaken (fun _ _ _ _ => trivial)⟩⟩ rfl hn hsz hst (lv_room hW) hdg hf
end Call
end Base
