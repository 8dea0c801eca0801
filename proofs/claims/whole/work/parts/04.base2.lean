section Base2
/-- loops: a step gives a new state, or the loop's end -/
def loopF {V T : Type} (B : V → Option (V ⊕ T)) : Nat → V → Option T
  | 0, _ => none
  | n + 1, v => bd (B v) (fun o => match o with
    | .inl v' => loopF B n v'
    | .inr t => some t)
def nxt {V T : Type} (B : V → Option (V ⊕ T)) (n : Nat) (o : V ⊕ T) : Option T := match o with
  | .inl v' => loopF B n v'
  | .inr t => some t
theorem loop_none {V T : Type} {B : V → Option (V ⊕ T)} {v : V} {t : T} (h : loopF B 0 v = some t) : False := by cases h
theorem loop_some {V T : Type} {B : V → Option (V ⊕ T)} {n : Nat} {v : V} {t : T} (h : loopF B (n + 1) v = some t) : ∃ o, B v = some o ∧ nxt B n o = some t := by
  obtain ⟨o, h1, h2⟩ := bd_some (show bd (B v) (fun o => match o with
    | .inl v' => loopF B n v'
    | .inr t => some t) = some t from h)
  exact ⟨o, h1, h2⟩
theorem nxt_l {V T : Type} {B : V → Option (V ⊕ T)} {n : Nat} {v : V} {t : T} (h : nxt B n (.inl v) = some t) : loopF B n v = some t := h
theorem nxt_r {V T : Type} {B : V → Option (V ⊕ T)} {n : Nat} {e t : T} (h : nxt B n (.inr e) = some t) : e = t := Option.some.inj h
def sm {Z E β : Type} (o : Z ⊕ E) (f : Z → Option β) (g : E → Option β) : Option β := match o with
  | .inl z => f z
  | .inr e => g e
theorem sm_l {Z E β : Type} {z : Z} {f : Z → Option β} {g : E → Option β} {w : β} (h : sm (.inl z) f g = some w) : f z = some w := h
theorem sm_r {Z E β : Type} {e : E} {f : Z → Option β} {g : E → Option β} {w : β} (h : sm (.inr e) f g = some w) : g e = some w := h
section Ent
variable {l : Launch} {y : MethodName} {cc : ByteArray} {mL : Nat} {fr lo : Nat} {D : va_G} {cI cB cS : ClassId} {wc w1 : va_W} {av : List Value} {own : String}
/-- what is fixed while a method's body is walked -/
abbrev Fx (p : Program) (s : State) (m : MethodId) (ar : Array Value) (meth : Method) (c : Code) (R : Room) (A : Nat → Prop) (cc : ByteArray) (mL fr lo : Nat) (own : String) (D : va_G) (cI cB cS : ClassId) : Prop :=
  p.tables.exec = Jvm.exec ∧ c.code = cc ∧ c.maxLocals = mL ∧ s.vm.findClass own = some m.cls ∧ (∀ w ∈ gT, w.before ar s = true) ∧ gK D cI cB cS s ∧ (∀ q : Nat, s.heap.size ≤ q → A q) ∧ fr ≤ R.frames ∧ lo ≤ R.locals
theorem entryI {r : Int32} (hy : plainFor y = true) (ho : y.cls = own) (hav : (lg_sl av).length ≤ mL)
    (body : ∀ (p : Program) (e : Env) (s : State) (m : MethodId) (below : List Frame) (meth : Method) (c : Code) (A : Nat → Prop) (ls : Array Slot) (QQ : State → Prop) (R : Room) (ar : Array Value), Fx p s m ar meth c R A cc mL fr lo own D cI cB cS →
      (∀ (H : Heap) (locs : List Loc) (ls : Array Slot) (pc : Nat), va_P D vwCl w1 H → va_D A w1 → va_S A s.heap H locs → decode cc pc = .ok (.ireturn, 1) → W p l e R s m ar below meth c H locs 0 0 QQ (F0 m pc ls [.int r])) →
      va_P D vwCl wc s.heap → va_D A wc → va_S A s.heap s.heap [] → lv_has ls mL (lv_args 0 av) → W p l e R s m ar below meth c s.heap [] 0 0 QQ (F0 m 0 ls [])) :
    Mt l y cc mL (some .int) fr lo D cI cB cS wc w1 av (some (.int r)) := entry hy ho hav fun p e s m below meth c A ls hx hb hml hr hk hown hts hK hA hP hD hS hl =>
  body p e s m below meth c A ls _ _ _ ⟨hx, hb, hml, hown, hts, hK, hA, Nat.le_refl _, Nat.le_refl _⟩ (fun _ _ _ _ hP hD hS hd => retI hx hb hr hk hP hD hS hd) hP hD hS hl
theorem entryZ {r : Int32} (hy : plainFor y = true) (ho : y.cls = own) (hav : (lg_sl av).length ≤ mL)
    (body : ∀ (p : Program) (e : Env) (s : State) (m : MethodId) (below : List Frame) (meth : Method) (c : Code) (A : Nat → Prop) (ls : Array Slot) (QQ : State → Prop) (R : Room) (ar : Array Value), Fx p s m ar meth c R A cc mL fr lo own D cI cB cS →
      (∀ (H : Heap) (locs : List Loc) (ls : Array Slot) (pc : Nat), (r = 0 ∨ r = 1) → va_P D vwCl w1 H → va_D A w1 → va_S A s.heap H locs → decode cc pc = .ok (.ireturn, 1) → W p l e R s m ar below meth c H locs 0 0 QQ (F0 m pc ls [.int r])) →
      va_P D vwCl wc s.heap → va_D A wc → va_S A s.heap s.heap [] → lv_has ls mL (lv_args 0 av) → W p l e R s m ar below meth c s.heap [] 0 0 QQ (F0 m 0 ls [])) :
    Mt l y cc mL (some .boolean) fr lo D cI cB cS wc w1 av (some (.int r)) := entry hy ho hav fun p e s m below meth c A ls hx hb hml hr hk hown hts hK hA hP hD hS hl =>
  body p e s m below meth c A ls _ _ _ ⟨hx, hb, hml, hown, hts, hK, hA, Nat.le_refl _, Nat.le_refl _⟩ (fun _ _ _ _ hn hP hD hS hd => retZ hx hb hr hk hn hP hD hS hd) hP hD hS hl
theorem entryL {r : Int64} (hy : plainFor y = true) (ho : y.cls = own) (hav : (lg_sl av).length ≤ mL)
    (body : ∀ (p : Program) (e : Env) (s : State) (m : MethodId) (below : List Frame) (meth : Method) (c : Code) (A : Nat → Prop) (ls : Array Slot) (QQ : State → Prop) (R : Room) (ar : Array Value), Fx p s m ar meth c R A cc mL fr lo own D cI cB cS →
      (∀ (H : Heap) (locs : List Loc) (ls : Array Slot) (pc : Nat), va_P D vwCl w1 H → va_D A w1 → va_S A s.heap H locs → decode cc pc = .ok (.lreturn, 1) → W p l e R s m ar below meth c H locs 0 0 QQ (F0 m pc ls [.long r])) →
      va_P D vwCl wc s.heap → va_D A wc → va_S A s.heap s.heap [] → lv_has ls mL (lv_args 0 av) → W p l e R s m ar below meth c s.heap [] 0 0 QQ (F0 m 0 ls [])) :
    Mt l y cc mL (some .long) fr lo D cI cB cS wc w1 av (some (.long r)) := entry hy ho hav fun p e s m below meth c A ls hx hb hml hr hk hown hts hK hA hP hD hS hl =>
  body p e s m below meth c A ls _ _ _ ⟨hx, hb, hml, hown, hts, hK, hA, Nat.le_refl _, Nat.le_refl _⟩ (fun _ _ _ _ hP hD hS hd => retL hx hb hr hk hP hD hS hd) hP hD hS hl
theorem entryV (hy : plainFor y = true) (ho : y.cls = own) (hav : (lg_sl av).length ≤ mL)
    (body : ∀ (p : Program) (e : Env) (s : State) (m : MethodId) (below : List Frame) (meth : Method) (c : Code) (A : Nat → Prop) (ls : Array Slot) (QQ : State → Prop) (R : Room) (ar : Array Value), Fx p s m ar meth c R A cc mL fr lo own D cI cB cS →
      (∀ (H : Heap) (locs : List Loc) (ls : Array Slot) (pc : Nat), va_P D vwCl w1 H → va_D A w1 → va_S A s.heap H locs → decode cc pc = .ok (.return_, 1) → W p l e R s m ar below meth c H locs 0 0 QQ (F0 m pc ls [])) →
      va_P D vwCl wc s.heap → va_D A wc → va_S A s.heap s.heap [] → lv_has ls mL (lv_args 0 av) → W p l e R s m ar below meth c s.heap [] 0 0 QQ (F0 m 0 ls [])) :
    Mt l y cc mL none fr lo D cI cB cS wc w1 av none := entry hy ho hav fun p e s m below meth c A ls hx hb hml hr hk hown hts hK hA hP hD hS hl =>
  body p e s m below meth c A ls _ _ _ ⟨hx, hb, hml, hown, hts, hK, hA, Nat.le_refl _, Nat.le_refl _⟩ (fun _ _ _ _ hP hD hS hd => retV hx hb hr hk hP hD hS hd) hP hD hS hl
theorem entryA {r : Nat} {rt : FieldType} (hy : plainFor y = true) (ho : y.cls = own) (hav : (lg_sl av).length ≤ mL) (hrt : (∃ n, rt = .object n) ∨ ∃ t, rt = .array t)
    (body : ∀ (p : Program) (e : Env) (s : State) (m : MethodId) (below : List Frame) (meth : Method) (c : Code) (A : Nat → Prop) (ls : Array Slot) (QQ : State → Prop) (R : Room) (ar : Array Value), Fx p s m ar meth c R A cc mL fr lo own D cI cB cS →
      (∀ (H : Heap) (locs : List Loc) (ls : Array Slot) (pc : Nat), va_P D vwCl w1 H → va_D A w1 → va_S A s.heap H locs → decode cc pc = .ok (.areturn, 1) → W p l e R s m ar below meth c H locs 0 0 QQ (F0 m pc ls [.ref r])) →
      va_P D vwCl wc s.heap → va_D A wc → va_S A s.heap s.heap [] → lv_has ls mL (lv_args 0 av) → W p l e R s m ar below meth c s.heap [] 0 0 QQ (F0 m 0 ls [])) :
    Mt l y cc mL (some rt) fr lo D cI cB cS wc w1 av (some (.ref r)) := entry hy ho hav fun p e s m below meth c A ls hx hb hml hr hk hown hts hK hA hP hD hS hl =>
  body p e s m below meth c A ls _ _ _ ⟨hx, hb, hml, hown, hts, hK, hA, Nat.le_refl _, Nat.le_refl _⟩ (fun _ _ _ _ hP hD hS hd => retA hx hb hr hrt hk hP hD hS hd) hP hD hS hl
end Ent
section Call2
variable {p : Program} {l : Launch} {e : Env} {R : Room} {s : State} {m : MethodId} {ar : Array Value} {below : List Frame} {meth : Method} {c : Code} {H : Heap} {locs : List Loc} {cells slots : Nat} {Q : State → Prop}
variable {pc : Nat} {ls : Array Slot} {rest st0 st1 As : List Value} {a : Array Value} {A : Nat → Prop} {D : va_G} {cI cB cS : ClassId} {ws wc wr w1 ws1 : va_W} {rv : Option Value} {cc bytes : ByteArray} {own : String} {nL mL n idx fr lo fr1 lo1 b ci : Nat} {y : MethodName} {ret : Option FieldType} {fs : List Value} {cq : vw_C}
theorem runR (hr : va_Run p l e R s m ar below meth c H locs cells slots 0 0 (F0 m pc ls st0) rest (cQ D [] rv (va_A [] H.size) a) (va_A [] H.size)) (hP : va_P D vwCl ws H) (hD : va_D A ws) (hS : va_S A s.heap H locs) (hA : ∀ q : Nat, s.heap.size ≤ q → A q) (hst : rv.toList ++ rest = st1)
    (kk : ∀ (H1 : Heap) (locs1 : List Loc), va_P D vwCl ws H1 → va_D A ws → va_S A s.heap H1 locs1 → W p l e R s m ar below meth c H1 locs1 cells slots Q (F0 m (pc + 3) ls st1)) : W p l e R s m ar below meth c H locs cells slots Q (F0 m pc ls st0) := by
  subst hst
  have e0 : (List.range ws.length).map (fun i => ws[i]?) = ws.map some := by
    apply List.ext_getElem?
    intro i
    simp only [List.getElem?_map, List.getElem?_range']
    by_cases hi : i < ws.length
    · simp [List.getElem?_range, hi]
    · simp [hi, List.getElem?_eq_none (Nat.le_of_not_lt hi)]
  have e1 : va_nd (List.range ws.length) = true := by
    have h := List.nodup_range (n := ws.length)
    generalize List.range ws.length = k at h ⊢
    induction k with
    | nil => rfl
    | cons x k ih => rw [List.nodup_cons] at h; simp [va_nd, h.1, ih h.2]
  refine runX (wc := []) (wr := ws) (w1 := []) (ws1 := ws) hr hP hD hS hA [] (List.range ws.length) (List.range ws.length) rfl e0 e1 (fun _ _ h => by cases h) ?_ e1 kk
  rw [List.append_nil]; exact e0
/-- a call of a static method that needs no cells -/
theorem call0 (F : Fx p s m ar meth c R A cc nL fr lo own D cI cB cS) (hM : Mt l y bytes mL ret fr1 lo1 D cI cB cS [] [] As rv) (ok : okS y bytes mL ret n) (hl : Cond.methodLink own idx y ∈ gT) (h1 : fr1 + 1 ≤ fr) (h2 : 8 + (mL + 11) + lo1 ≤ lo) (hc : cells ≤ R.cells ∧ slots ≤ R.slots)
    (hP : va_P D vwCl ws H) (hD : va_D A ws) (hS : va_S A s.heap H locs) (hn : As.length = n) (hsz : ls.size = nL) (hst0 : st0 = As.reverse ++ rest) (hst1 : rv.toList ++ rest = st1) (hW : (rest.map fun v => v.category).sum ≤ 8) (hdg : decode cc pc = .ok (.invokestatic idx, 3))
    (kk : ∀ (H1 : Heap) (locs1 : List Loc), va_P D vwCl ws H1 → va_D A ws → va_S A s.heap H1 locs1 → W p l e R s m ar below meth c H1 locs1 cells slots Q (F0 m (pc + 3) ls st1)) : W p l e R s m ar below meth c H locs cells slots Q (F0 m pc ls st0) := by
  obtain ⟨hx, hb, hml, hown, hts, hK, hA, hf1, hf2⟩ := F
  exact runR (runS (A := A) hx hb hml hown hts hK hM ok hl ⟨Nat.le_trans h1 hf1, Nat.le_trans h2 hf2⟩ hc (fun k q h => by simp at h) ⟨fun i j p q h => by simp at h, fun k q h => by simp at h⟩ hn hsz hst0 hW hdg) hP hD hS hA hst1 kk
theorem call0N {host : String} (F : Fx p s m ar meth c R A cc nL fr lo own D cI cB cS) (hM : Mt l y bytes mL ret fr1 lo1 D cI cB cS [] [] As rv) (ok : okS y bytes mL ret n) (hl : Cond.methodLinkNest own idx y host ∈ nestW) (h1 : fr1 + 1 ≤ fr) (h2 : 8 + (mL + 11) + lo1 ≤ lo) (hc : cells ≤ R.cells ∧ slots ≤ R.slots)
    (hP : va_P D vwCl ws H) (hD : va_D A ws) (hS : va_S A s.heap H locs) (hn : As.length = n) (hsz : ls.size = nL) (hst0 : st0 = As.reverse ++ rest) (hst1 : rv.toList ++ rest = st1) (hW : (rest.map fun v => v.category).sum ≤ 8) (hdg : decode cc pc = .ok (.invokestatic idx, 3))
    (kk : ∀ (H1 : Heap) (locs1 : List Loc), va_P D vwCl ws H1 → va_D A ws → va_S A s.heap H1 locs1 → W p l e R s m ar below meth c H1 locs1 cells slots Q (F0 m (pc + 3) ls st1)) : W p l e R s m ar below meth c H locs cells slots Q (F0 m pc ls st0) := by
  obtain ⟨hx, hb, hml, hown, hts, hK, hA, hf1, hf2⟩ := F
  exact runR (runSN (A := A) hx hb hml hown hts hK hM ok hl ⟨Nat.le_trans h1 hf1, Nat.le_trans h2 hf2⟩ hc (fun k q h => by simp at h) ⟨fun i j p q h => by simp at h, fun k q h => by simp at h⟩ hn hsz hst0 hW hdg) hP hD hS hA hst1 kk
/-- a call whose world is the caller's whole world -/
theorem runW (hr : va_Run p l e R s m ar below meth c H locs cells slots 0 0 (F0 m pc ls st0) rest (cQ D w1 rv (va_A ws H.size) a) (va_A ws H.size)) (hD : va_D A ws) (hS : va_S A s.heap H locs) (hA : ∀ q : Nat, s.heap.size ≤ q → A q) (hst : rv.toList ++ rest = st1)
    (kk : ∀ (H1 : Heap) (locs1 : List Loc), va_P D vwCl w1 H1 → va_D A w1 → va_S A s.heap H1 locs1 → W p l e R s m ar below meth c H1 locs1 cells slots Q (F0 m (pc + 3) ls st1)) : W p l e R s m ar below meth c H locs cells slots Q (F0 m pc ls st0) := by
  subst hst
  have hFc : ∀ q, va_A ws H.size q → A q := fun q h => by
    rcases h with ⟨k, e, hk⟩ | h
    · exact hD.2 k _ hk
    · exact hA q (Nat.le_trans hS.1 h)
  intro T hT X
  obtain ⟨v, st₀, t, T', L, h0, X', hL, e1, e2, ⟨⟨hv, hP1, hD1⟩, hz, hk⟩, st⟩ := hr T hT X
  have hv : v = rv := by injection hv
  subst hv
  rw [h0] at hz hk
  rw [← e1] at hP1 hz hk
  obtain ⟨t2, a1, b1⟩ := kk T'.heap (locs ++ L) hP1 (hD1.weaken (fun _ _ _ h => hFc _ h))
    ⟨Nat.le_trans hS.1 hz, fun q h1 h2 => by rw [hk q (Nat.lt_of_lt_of_le h1 hS.1) (fun z => h2 (hFc q z))]; exact hS.2.1 q h1 h2, fun q hq => by
      rcases List.mem_append.mp hq with h | h
      · exact hS.2.2 q h
      · exact hFc _ (hL q h)⟩ T' rfl X'
  exact ⟨t2, st t2 a1, b1⟩
theorem callW (q0 : Nat) (F : Fx p s m ar meth c R A cc nL fr lo own D cI cB cS) (hM : Mt l y bytes mL ret fr1 lo1 D cI cB cS ws w1 (.ref b :: As) rv) (ok : okV y bytes mL ret n) (hl : Cond.methodLink own idx y ∈ gT) (h1 : fr1 + 1 ≤ fr) (h2 : 8 + (mL + 11) + lo1 ≤ lo) (hc : cells ≤ R.cells ∧ slots ≤ R.slots) (hci : vwCl[ci]? = some cq) (hcq : cq.1 = y.cls) (he : ws[q0]? = some (b, .inr (ci, fs)))
    (hP : va_P D vwCl ws H) (hD : va_D A ws) (hS : va_S A s.heap H locs) (hn : As.length = n) (hsz : ls.size = nL) (hst0 : st0 = As.reverse ++ .ref b :: rest) (hst1 : rv.toList ++ rest = st1) (hW : (rest.map fun v => v.category).sum ≤ 8) (hdg : decode cc pc = .ok (.invokevirtual idx, 3))
    (kk : ∀ (H1 : Heap) (locs1 : List Loc), va_P D vwCl w1 H1 → va_D A w1 → va_S A s.heap H1 locs1 → W p l e R s m ar below meth c H1 locs1 cells slots Q (F0 m (pc + 3) ls st1)) : W p l e R s m ar below meth c H locs cells slots Q (F0 m pc ls st0) := by
  obtain ⟨hx, hb, hml, hown, hts, hK, hA, hf1, hf2⟩ := F
  exact runW (runV q0 hx hb hml hown hts hK hM ok hl ⟨Nat.le_trans h1 hf1, Nat.le_trans h2 hf2⟩ hc hP hD hci hcq he hn hsz hst0 hW hdg) hD hS hA hst1 kk
/-- a call whose world is a part of the caller's -/
theorem callP (q0 : Nat) (isC isR isN : List Nat) (F : Fx p s m ar meth c R A cc nL fr lo own D cI cB cS) (hM : Mt l y bytes mL ret fr1 lo1 D cI cB cS wc w1 (.ref b :: As) rv) (ok : okV y bytes mL ret n) (hl : Cond.methodLink own idx y ∈ gT) (h1 : fr1 + 1 ≤ fr) (h2 : 8 + (mL + 11) + lo1 ≤ lo) (hc : cells ≤ R.cells ∧ slots ≤ R.slots) (hci : vwCl[ci]? = some cq) (hcq : cq.1 = y.cls) (he : wc[q0]? = some (b, .inr (ci, fs)))
    (hP : va_P D vwCl ws H) (hD : va_D A ws) (hS : va_S A s.heap H locs) (hn : As.length = n) (hsz : ls.size = nL) (hst0 : st0 = As.reverse ++ .ref b :: rest) (hst1 : rv.toList ++ rest = st1) (hW : (rest.map fun v => v.category).sum ≤ 8) (hdg : decode cc pc = .ok (.invokevirtual idx, 3))
    (hC : isC.map (fun i => ws[i]?) = wc.map some) (hR : isR.map (fun i => ws[i]?) = wr.map some) (hnd : va_nd isR = true) (hcd : va_nd isC = true) (hdis : ∀ i ∈ isR, i ∉ isC) (hN : isN.map (fun i => (wr ++ w1)[i]?) = ws1.map some) (hN2 : va_nd isN = true)
    (kk : ∀ (H1 : Heap) (locs1 : List Loc), va_P D vwCl ws1 H1 → va_D A ws1 → va_S A s.heap H1 locs1 → W p l e R s m ar below meth c H1 locs1 cells slots Q (F0 m (pc + 3) ls st1)) : W p l e R s m ar below meth c H locs cells slots Q (F0 m pc ls st0) := by
  obtain ⟨hx, hb, hml, hown, hts, hK, hA, hf1, hf2⟩ := F
  subst hst1
  have hDc := hD.sub (ws' := wc) isC hcd hC
  have hPc : va_P D vwCl wc H := by
    refine hP.sub isC ?_
    have e0 : isC.filterMap (fun i => ws[i]?) = (isC.map (fun i => ws[i]?)).filterMap id := by rw [List.filterMap_map]; rfl
    rw [e0, hC, List.filterMap_map]
    exact List.filterMap_some
  exact runX (runV q0 hx hb hml hown hts hK hM ok hl ⟨Nat.le_trans h1 hf1, Nat.le_trans h2 hf2⟩ hc hPc hDc hci hcq he hn hsz hst0 hW hdg) hP hD hS hA isC isR isN hC hR hnd hdis hN hN2 kk
/-- a static call whose world is a part of the caller's -/
theorem callPS (isC isR isN : List Nat) (F : Fx p s m ar meth c R A cc nL fr lo own D cI cB cS) (hM : Mt l y bytes mL ret fr1 lo1 D cI cB cS wc w1 As rv) (ok : okS y bytes mL ret n) (hl : Cond.methodLink own idx y ∈ gT) (h1 : fr1 + 1 ≤ fr) (h2 : 8 + (mL + 11) + lo1 ≤ lo) (hc : cells ≤ R.cells ∧ slots ≤ R.slots)
    (hP : va_P D vwCl ws H) (hD : va_D A ws) (hS : va_S A s.heap H locs) (hn : As.length = n) (hsz : ls.size = nL) (hst0 : st0 = As.reverse ++ rest) (hst1 : rv.toList ++ rest = st1) (hW : (rest.map fun v => v.category).sum ≤ 8) (hdg : decode cc pc = .ok (.invokestatic idx, 3))
    (hC : isC.map (fun i => ws[i]?) = wc.map some) (hR : isR.map (fun i => ws[i]?) = wr.map some) (hnd : va_nd isR = true) (hcd : va_nd isC = true) (hdis : ∀ i ∈ isR, i ∉ isC) (hN : isN.map (fun i => (wr ++ w1)[i]?) = ws1.map some) (hN2 : va_nd isN = true)
    (kk : ∀ (H1 : Heap) (locs1 : List Loc), va_P D vwCl ws1 H1 → va_D A ws1 → va_S A s.heap H1 locs1 → W p l e R s m ar below meth c H1 locs1 cells slots Q (F0 m (pc + 3) ls st1)) : W p l e R s m ar below meth c H locs cells slots Q (F0 m pc ls st0) := by
  obtain ⟨hx, hb, hml, hown, hts, hK, hA, hf1, hf2⟩ := F
  subst hst1
  have hDc := hD.sub (ws' := wc) isC hcd hC
  have hPc : va_P D vwCl wc H := by
    refine hP.sub isC ?_
    have e0 : isC.filterMap (fun i => ws[i]?) = (isC.map (fun i => ws[i]?)).filterMap id := by rw [List.filterMap_map]; rfl
    rw [e0, hC, List.filterMap_map]
    exact List.filterMap_some
  exact runX (runS hx hb hml hown hts hK hM ok hl ⟨Nat.le_trans h1 hf1, Nat.le_trans h2 hf2⟩ hc hPc hDc hn hsz hst0 hW hdg) hP hD hS hA isC isR isN hC hR hnd hdis hN hN2 kk
end Call2
/-- cells -/
abbrev aI (k : ClassId) (n : Nat) (f : Nat → Int32) : va_E := .inl (k, n, .inl f)
abbrev aQ (k : ClassId) (q : Nat → Option Nat) : va_E := .inl (k, 4, .inr (.inr (.inr (.inr q))))
abbrev dW (u t : Nat) (x1 x2 x3 x4 x5 x6 x7 x8 : Int32) : va_W := [(u, .inr (0, [.ref t, .int x1, .int x2, .int x3, .int x4, .int x5, .int x6, .int x7, .int x8]))]
abbrev lW (u t d r v hd sp : Nat) (x6 x7 : Int32) : va_W := [(u, .inr (5, [.ref t, .ref d, .ref r, .ref v, .ref hd, .ref sp, .int x6, .int x7]))]
abbrev hW (k : ClassId) (u : Nat) (a : Nat → Nat) (x1 x2 : Int32) (r0 : Nat → Int32) : va_W := [(u, .inr (1, [.ref (a 0), .int x1, .int x2])), (a 0, aI k 40 r0)]
abbrev sW (k : ClassId) (u : Nat) (a : Nat → Nat) (x5 x6 x7 x8 x9 : Int32) (r0 r1 r2 r3 r4 : Nat → Int32) : va_W := [(u, .inr (2, [.ref (a 0), .ref (a 1), .ref (a 2), .ref (a 3), .ref (a 4), .int x5, .int x6, .int x7, .int x8, .int x9])), (a 0, aI k 8 r0), (a 1, aI k 8 r1), (a 2, aI k 8 r2), (a 3, aI k 8 r3), (a 4, aI k 8 r4)]
abbrev eW (k : ClassId) (u : Nat) (a : Nat → Nat) (x1 : Int32) (r0 : Nat → Int32) : va_W := [(u, .inr (3, [.ref (a 0), .int x1])), (a 0, aI k 240 r0)]
abbrev tW (k : ClassId) (u : Nat) (a : Nat → Nat) (x1 x2 x3 x4 x5 x6 : Int32) (r0 : Nat → Int32) : va_W := [(u, .inr (4, [.ref (a 0), .int x1, .int x2, .int x3, .int x4, .int x5, .int x6])), (a 0, aI k 8 r0)]
abbrev mW (k : ClassId) (u : Nat) (a : Nat → Nat) (x1 x2 x3 x4 x5 x6 x7 x8 x12 x14 x17 x18 x19 x20 x23 x27 x29 x33 : Int32) (g24 g25 g26 g28 : Int64) (r0 r9 r10 r11 r13 r15 r16 r21 r22 r30 r31 r32 : Nat → Int32) : va_W := [(u, .inr (6, [.ref (a 0), .int x1, .int x2, .int x3, .int x4, .int x5, .int x6, .int x7, .int x8, .ref (a 9), .ref (a 10), .ref (a 11), .int x12, .ref (a 13), .int x14, .ref (a 15), .ref (a 16), .int x17, .int x18, .int x19, .int x20, .ref (a 21), .ref (a 22), .int x23, .long g24, .long g25, .long g26, .int x27, .long g28, .int x29, .ref (a 30), .ref (a 31), .ref (a 32), .int x33])), (a 0, aI k 240 r0), (a 9, aI k 7 r9), (a 10, aI k 24 r10), (a 11, aI k 40 r11), (a 13, aI k 40 r13), (a 15, aI k 4 r15), (a 16, aI k 4 r16), (a 21, aI k 8 r21), (a 22, aI k 8 r22), (a 30, aI k 4 r30), (a 31, aI k 4 r31), (a 32, aI k 160 r32)]
abbrev vW (k : ClassId) (u : Nat) (q : Nat → Option Nat) : va_W := [(u, aQ k q)]
def q4 (a b c d : Nat) : Nat → Option Nat := va_up (va_up (va_up (va_up (fun _ => none) 0 (some a)) 1 (some b)) 2 (some c)) 3 (some d)
/-- switches -/
theorem swNot (n : Nat) (hn : n < 1000) {x : Int32} (h : ∀ k : Nat, k ≤ n → ¬ x = nI k) : x.toInt < 0 ∨ (n : Int) < x.toInt := by
  by_cases h0 : x.toInt < 0
  · exact Or.inl h0
  · refine Or.inr ?_
    by_cases h1 : (n : Int) < x.toInt
    · exact h1
    · exfalso
      obtain ⟨j, hj, rfl⟩ := nI_of (x := x) (fun q => h0 (by have := Int32.lt_iff_toInt_lt.mp q; simpa using this))
      have h2 : (nI j).toInt = (j : Int) := nI_toInt hj
      exact h j (by omega) rfl
section Sw
variable {p : Program} {l : Launch} {e : Env} {R : Room} {s : State} {m : MethodId} {args : Array Value} {below : List Frame} {meth : Method} {c : Code} {H : Heap} {locs : List Loc} {cells slots : Nat} {Q : State → Prop} {pc : Nat} {ls : Array Slot} {rest : List Value} {cc : ByteArray}
theorem swIn (hexec : p.tables.exec = Jvm.exec) (hb : c.code = cc) {dflt lo hi : Int} {offs : Array Int} {len : Nat} {x k : Int32} {off : Int} {tgt : Nat} (hx : x = k) (hdg : decode cc pc = .ok (.tableswitch dflt lo hi offs, len)) (h1 : ¬ k.toInt < lo) (h2 : ¬ hi < k.toInt) (ho : offs[(k.toInt - lo).toNat]? = some off) (ht : (pc : Int) + off = (tgt : Int))
    (kk : W p l e R s m args below meth c H locs cells slots Q (F0 m tgt ls rest)) : W p l e R s m args below meth c H locs cells slots Q (F0 m pc ls (.int x :: rest)) := by
  subst hx; exact lv_tableIn hexec hb hdg h1 h2 ho ht kk
theorem swLk (hexec : p.tables.exec = Jvm.exec) (hb : c.code = cc) {dflt : Int} {ps : Array (Int × Int)} {len : Nat} {x k : Int32} {off : Int} {tgt : Nat} (hx : x = k) (hdg : decode cc pc = .ok (.lookupswitch dflt ps, len)) (hp : (ps.toList.zip (ps.toList.drop 1)).all (fun (a, next) => a.1 < next.1) = true) (ho : Op.lookupswitch.offset ps.toList dflt k.toInt = off) (ht : (pc : Int) + off = (tgt : Int))
    (kk : W p l e R s m args below meth c H locs cells slots Q (F0 m tgt ls rest)) : W p l e R s m args below meth c H locs cells slots Q (F0 m pc ls (.int x :: rest)) := by
  subst hx; exact lv_lookup hexec hb hdg hp ho ht kk
end Sw
end Base2
