section CBase
/-- contracts of constructors: cells are made; the world behind is one of a kind -/
def cPm (D : va_G) (cI cB cS : ClassId) (wc : va_W) (sz : Nat) (av : List Value) : Array Value → State → Prop := va_Pc av (fun U => U.heap.size = sz ∧ va_P D vwCl wc U.heap ∧ gK D cI cB cS U ∧ va_AO RX1 U ∧ va_D (fun _ => True) wc)
def cQm (D : va_G) (P1 : va_W → Prop) (A : Nat → Prop) : Array Value → State → Outcome → State → Prop := fun _ st oc t => (oc = .returned none ∧ ∃ w1, P1 w1 ∧ va_P D vwCl w1 t.heap ∧ va_D A w1) ∧ va_F A st t
abbrev rmC (fr lo nc ns : Nat) : Room := { frames := fr, cells := nc, slots := ns, locals := lo }
def Mk (l : Launch) (y : MethodName) (cc : ByteArray) (mL fr lo nc ns : Nat) (D : va_G) (cI cB cS : ClassId) (wc : va_W) (P1 : va_W → Prop) (av : List Value) : Prop :=
  ∀ sz : Nat, Met l y (.code y cc mL none :: gT) (rmC fr lo nc ns) (cPm D cI cB cS wc sz av) (cQm D P1 (va_A wc sz)) nc ns (va_A wc sz)
theorem cPm_blind {D : va_G} {cI cB cS : ClassId} {wc : va_W} {sz : Nat} {av : List Value} : FrameBlind (cPm D cI cB cS wc sz av) := fun a U g mk q => by
  obtain ⟨q0, q1, qP, qK, qA, qD⟩ := q
  exact ⟨q0, q1, qP, qK.calling g mk a, va_AO.moved (u := U) (U := U.calling g mk a) (Vm.Alike.refl U.vm) qA, qD⟩
theorem entryC {l : Launch} {y : MethodName} {cc : ByteArray} {mL fr lo nc ns : Nat} {D : va_G} {cI cB cS : ClassId} {wc : va_W} {P1 : va_W → Prop} {av : List Value} {own : String} (hy : plainFor y = true) (ho : y.cls = own) (hyn : y.name = "<init>") (hav : (lg_sl av).length ≤ mL)
    (body : ∀ (p : Program) (e : Env) (s : State) (m : MethodId) (below : List Frame) (meth : Method) (c : Code) (A : Nat → Prop) (ls : Array Slot) (QQ : State → Prop) (ar : Array Value), Fx p s m ar meth c (rmC fr lo nc ns) A cc mL fr lo own D cI cB cS → va_AO RX1 s → meth.name = "<init>" →
      (∀ (H : Heap) (locs : List Loc) (ls : Array Slot) (pc : Nat) (w1 : va_W), P1 w1 → va_P D vwCl w1 H → va_D A w1 → va_S A s.heap H locs → decode cc pc = .ok (.return_, 1) → W p l e (rmC fr lo nc ns) s m ar below meth c H locs nc ns QQ (F0 m pc ls [])) →
      va_P D vwCl wc s.heap → va_D A wc → va_S A s.heap s.heap [] → lv_has ls mL (lv_args 0 av) → W p l e (rmC fr lo nc ns) s m ar below meth c s.heap [] 0 0 QQ (F0 m 0 ls [])) :
    Mk l y cc mL fr lo nc ns D cI cB cS wc P1 av := by
  intro sz
  refine Met.ofWF (cc := cc) (maxL := mL) (ret := none) hy rfl ?_
  intro p e s m args below meth c s₁ B hml hv
  obtain ⟨rfl, hsz, hP, hK, hAO, hD0⟩ := hv
  have hts : ∀ w ∈ gT, w.before av.toArray s = true := fun w hw => atoms_spec (ws := .code y cc mL none :: gT) B.pre w (List.mem_cons_of_mem _ hw)
  subst hsz
  rw [lg_entry_eq]
  have hx := B.exec
  have hb := B.bytes
  have hr := B.returns
  have hk := B.notSynchronized
  exact body p e s m below meth c (va_A wc s.heap.size) _ _ _ ⟨B.exec, B.bytes, hml, by rw [← ho]; exact findClass_of_methodNamed B.named, hts, hK, fun q h => Or.inr h, Nat.le_refl _, Nat.le_refl _⟩ hAO ((name_of_methodNamed B.named B.method).1.trans hyn)
    (fun H locs ls pc w1 h1 hP hD hS hd => W.vret hx hb hr (fun t ht _ => ⟨⟨rfl, w1, h1, by rw [ht]; exact hP, hD⟩, hS.F ht⟩) hS.2.2 hd) hP (hD0.self (sz := s.heap.size)) va_S.rf (lv_entry av hav)
theorem arr_I {D : va_G} {cI cB cS cA : ClassId} {s : State} (h : va_K D vwCl (tyG cI cB cS ++ [(cA, .int)]) s) (jK : gK D cI cB cS s) : cI = cA := by
  have h1 : s.vm.findClass ("[" ++ FieldType.int.toString) = some cA := (h.2 3 _ rfl).2
  have h2 : s.vm.findClass ("[" ++ FieldType.int.toString) = some cI := (jK.1.2 0 _ rfl).2
  exact Option.some.inj (h2.symm.trans h1)
theorem arr_B {D : va_G} {cI cB cS cA : ClassId} {s : State} (h : va_K D vwCl (tyG cI cB cS ++ [(cA, .byte)]) s) (jK : gK D cI cB cS s) : cB = cA := by
  have h1 : s.vm.findClass ("[" ++ FieldType.byte.toString) = some cA := (h.2 3 _ rfl).2
  have h2 : s.vm.findClass ("[" ++ FieldType.byte.toString) = some cB := (jK.1.2 1 _ rfl).2
  exact Option.some.inj (h2.symm.trans h1)
theorem arr_S {D : va_G} {cI cB cS cA : ClassId} {s : State} (h : va_K D vwCl (tyG cI cB cS ++ [(cA, .object RX1)]) s) (jK : gK D cI cB cS s) : cS = cA := by
  obtain ⟨k1, c1, -, -, -, h1⟩ : va_RA s cA (.object RX1) := (h.2 3 _ rfl).2
  obtain ⟨k2, c2, -, -, -, h2⟩ : va_RA s cS (.object RX1) := (jK.1.2 2 _ rfl).2
  exact Option.some.inj (h2.symm.trans h1)
section CCall
variable {p : Program} {l : Launch} {e : Env} {R : Room} {s : State} {m : MethodId} {ar : Array Value} {below : List Frame} {meth : Method} {c : Code} {H : Heap} {locs : List Loc} {cells slots : Nat} {Q : State → Prop}
variable {pc : Nat} {ls : Array Slot} {rest st0 As : List Value} {a : Array Value} {A : Nat → Prop} {D : va_G} {cI cB cS : ClassId} {ws wc wr : va_W} {P1 : va_W → Prop} {cc bytes : ByteArray} {own : String} {nL mL n idx fr lo fr1 lo1 nc ns b : Nat} {y : MethodName}
theorem runC (hr : va_Run p l e R s m ar below meth c H locs cells slots nc ns (F0 m pc ls st0) rest (cQm D P1 (va_A wc H.size) a) (va_A wc H.size)) (hP : va_P D vwCl ws H) (hD : va_D A ws) (hS : va_S A s.heap H locs) (hA : ∀ q : Nat, s.heap.size ≤ q → A q)
    (isC isR : List Nat) (hC : isC.map (fun i => ws[i]?) = wc.map some) (hR : isR.map (fun i => ws[i]?) = wr.map some) (hn : va_nd isR = true) (hdis : ∀ i ∈ isR, i ∉ isC)
    (kk : ∀ (w1 : va_W) (H1 : Heap) (locs1 : List Loc), P1 w1 → va_P D vwCl (wr ++ w1) H1 → va_D A (wr ++ w1) → va_S A s.heap H1 locs1 → W p l e R s m ar below meth c H1 locs1 (cells + nc) (slots + ns) Q (F0 m (pc + 3) ls rest)) : W p l e R s m ar below meth c H locs cells slots Q (F0 m pc ls st0) := by
  have hFc := va_free (wc := wc) hD hS hA isC hC
  intro T hT X
  obtain ⟨v, st₀, t, T', L, h0, X', hL, e1, e2, ⟨⟨hv, w1, hp1, hP1, hD1⟩, hz, hk⟩, st⟩ := hr T hT X
  have hv : v = none := by injection hv
  subst hv
  rw [h0] at hz hk
  rw [← e1] at hP1 hz hk
  obtain ⟨hP2, hD2⟩ := va_join (wr := wr) (w1 := w1) hP hD isC isR hC hR hn hdis hk hFc hP1 hD1
  obtain ⟨t2, a1, b1⟩ := kk w1 T'.heap (locs ++ L) hp1 hP2 hD2
    ⟨Nat.le_trans hS.1 hz, fun q h1 h2 => by rw [hk q (Nat.lt_of_lt_of_le h1 hS.1) (fun z => h2 (hFc q z))]; exact hS.2.1 q h1 h2, fun q hq => by
      rcases List.mem_append.mp hq with h | h
      · exact hS.2.2 q h
      · exact hFc _ (hL q h)⟩ T' rfl X'
  exact ⟨t2, st t2 a1, b1⟩
def okC (y : MethodName) (bytes : ByteArray) (mL : Nat) (n : Nat) : Prop := Cond.instanceMethod y ∈ gT ∧ Cond.code y bytes mL none ∈ gT ∧ Cond.initialized y.cls ∈ gT ∧ y.name = "<init>" ∧ y.cls ≠ "java/lang/invoke/MethodHandle" ∧ y.cls ≠ "java/lang/invoke/VarHandle" ∧ (parseMethodDescriptor y.desc).map (fun d => d.parameters.length) = some n
theorem callC (isC isR : List Nat) (F : Fx p s m ar meth c R A cc nL fr lo own D cI cB cS) (hAO : va_AO RX1 s) (hM : Mk l y bytes mL fr1 lo1 nc ns D cI cB cS wc P1 (.ref b :: As)) (ok : okC y bytes mL n) (hl : Cond.methodLink own idx y ∈ gT) (h1 : fr1 + 1 ≤ fr) (h2 : 8 + (mL + 11) + lo1 ≤ lo) (hc : cells + nc ≤ R.cells ∧ slots + ns ≤ R.slots)
    (hP : va_P D vwCl ws H) (hD : va_D A ws) (hS : va_S A s.heap H locs) (hn : As.length = n) (hsz : ls.size = nL) (hst0 : st0 = As.reverse ++ .ref b :: rest) (hW : (rest.map fun v => v.category).sum ≤ 8) (hdg : decode cc pc = .ok (.invokespecial idx, 3))
    (hC : isC.map (fun i => ws[i]?) = wc.map some) (hR : isR.map (fun i => ws[i]?) = wr.map some) (hnd : va_nd isR = true) (hcd : va_nd isC = true) (hdis : ∀ i ∈ isR, i ∉ isC)
    (kk : ∀ (w1 : va_W) (H1 : Heap) (locs1 : List Loc), P1 w1 → va_P D vwCl (wr ++ w1) H1 → va_D A (wr ++ w1) → va_S A s.heap H1 locs1 → W p l e R s m ar below meth c H1 locs1 (cells + nc) (slots + ns) Q (F0 m (pc + 3) ls rest)) : W p l e R s m ar below meth c H locs cells slots Q (F0 m pc ls st0) := by
  obtain ⟨hx, hb, hml, hown, hts, hK, hA, hf1, hf2⟩ := F
  obtain ⟨k1, k3, k4, k0, k5, k6, k7⟩ := ok
  have hDc := hD.sub (ws' := wc) isC hcd hC
  have hPc : va_P D vwCl wc H := by
    refine hP.sub isC ?_
    have e0 : isC.filterMap (fun i => ws[i]?) = (isC.map (fun i => ws[i]?)).filterMap id := by rw [List.filterMap_map]; rfl
    rw [e0, hC, List.filterMap_map]
    exact List.filterMap_some
  exact runC (va_runI (Ts := gT) (n := n) ⟨hx, hb, hml, hown, hts⟩ (hM H.size) ⟨callB_of n hts (gd_code k3) rfl rfl rfl (hts _ k4) (hts _ hl) ⟨k5, k6, k7⟩ ⟨Nat.le_trans h1 hf1, Nat.le_trans h2 hf2⟩, k0, hts _ k1⟩ ⟨cPm_blind, fun U hU hW => ⟨rfl, by rw [hU], by rw [hU]; exact hPc, hK.moved hW, va_AO.moved hW.alike hAO, hDc.weaken (fun _ _ _ _ => trivial)⟩⟩ rfl hn hsz hst0 (lv_room hW) hdg hc) hP hD hS hA isC isR hC hR hnd hdis kk
theorem callCN {host : String} (isC isR : List Nat) (F : Fx p s m ar meth c R A cc nL fr lo own D cI cB cS) (hAO : va_AO RX1 s) (hM : Mk l y bytes mL fr1 lo1 nc ns D cI cB cS wc P1 (.ref b :: As)) (ok : okC y bytes mL n) (hl : Cond.methodLinkNest own idx y host ∈ nestW) (h1 : fr1 + 1 ≤ fr) (h2 : 8 + (mL + 11) + lo1 ≤ lo) (hc : cells + nc ≤ R.cells ∧ slots + ns ≤ R.slots)
    (hP : va_P D vwCl ws H) (hD : va_D A ws) (hS : va_S A s.heap H locs) (hn : As.length = n) (hsz : ls.size = nL) (hst0 : st0 = As.reverse ++ .ref b :: rest) (hW : (rest.map fun v => v.category).sum ≤ 8) (hdg : decode cc pc = .ok (.invokespecial idx, 3))
    (hC : isC.map (fun i => ws[i]?) = wc.map some) (hR : isR.map (fun i => ws[i]?) = wr.map some) (hnd : va_nd isR = true) (hcd : va_nd isC = true) (hdis : ∀ i ∈ isR, i ∉ isC)
    (kk : ∀ (w1 : va_W) (H1 : Heap) (locs1 : List Loc), P1 w1 → va_P D vwCl (wr ++ w1) H1 → va_D A (wr ++ w1) → va_S A s.heap H1 locs1 → W p l e R s m ar below meth c H1 locs1 (cells + nc) (slots + ns) Q (F0 m (pc + 3) ls rest)) : W p l e R s m ar below meth c H locs cells slots Q (F0 m pc ls st0) := by
  obtain ⟨hx, hb, hml, hown, hts, hK, hA, hf1, hf2⟩ := F
  obtain ⟨k1, k3, k4, k0, k5, k6, k7⟩ := ok
  have hDc := hD.sub (ws' := wc) isC hcd hC
  have hPc : va_P D vwCl wc H := by
    refine hP.sub isC ?_
    have e0 : isC.filterMap (fun i => ws[i]?) = (isC.map (fun i => ws[i]?)).filterMap id := by rw [List.filterMap_map]; rfl
    rw [e0, hC, List.filterMap_map]
    exact List.filterMap_some
  exact runC (va_runIN (Ts := gT) (n := n) (host := host) ⟨hx, hb, hml, hown, hts⟩ (hM H.size) ⟨va_cnB n hts (gd_code k3) rfl rfl rfl (hK.2 _ hl) (hts _ k4) ⟨k5, k6, k7⟩ ⟨Nat.le_trans h1 hf1, Nat.le_trans h2 hf2⟩, k0, hts _ k1⟩ ⟨cPm_blind, fun U hU hW => ⟨rfl, by rw [hU], by rw [hU]; exact hPc, hK.moved hW, va_AO.moved hW.alike hAO, hDc.weaken (fun _ _ _ _ => trivial)⟩⟩ rfl hn hsz hst0 (lv_room hW) hdg hc) hP hD hS hA isC isR hC hR hnd hdis kk
end CCall
end CBase
