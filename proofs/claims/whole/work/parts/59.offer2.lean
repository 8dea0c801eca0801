section OfferB
theorem bx_cong {f g : Nat → Int32} : ∀ {n : Nat}, (∀ s, s < n → f s = g s) → bx_sum f n = bx_sum g n
  | 0, _ => rfl
  | n + 1, h => by
    show bx_sum f n + f n = bx_sum g n + g n
    rw [bx_cong (fun s hs => h s (by omega)), h n (by omega)]
theorem bx_cut {f g : Nat → Int32} {n : Nat} (h1 : ∀ s, s < n → g s = f s) : ∀ (N : Nat), n ≤ N → (∀ s, n ≤ s → s < N → g s = 0) → bx_sum g N = bx_sum f n := by
  intro N
  induction N with
  | zero => intro hN _; rw [show n = 0 by omega]; rfl
  | succ N ih =>
    intro hN h2
    by_cases e : n = N + 1
    · rw [e] at h1 ⊢; exact bx_cong h1
    · show bx_sum g N + g N = _
      rw [ih (by omega) (fun s a b => h2 s a (by omega)), h2 N (by omega) (by omega), Int32.add_zero]
theorem lx_cong {f g : Nat → Int64} : ∀ {n : Nat}, (∀ s, s < n → f s = g s) → lx_sum f n = lx_sum g n
  | 0, _ => rfl
  | n + 1, h => by
    show lx_sum f n + f n = lx_sum g n + g n
    rw [lx_cong (fun s hs => h s (by omega)), h n (by omega)]
theorem lx_cut {f g : Nat → Int64} {n : Nat} (h1 : ∀ s, s < n → g s = f s) : ∀ (N : Nat), n ≤ N → (∀ s, n ≤ s → s < N → g s = 0) → lx_sum g N = lx_sum f n := by
  intro N
  induction N with
  | zero => intro hN _; rw [show n = 0 by omega]; rfl
  | succ N ih =>
    intro hN h2
    by_cases e : n = N + 1
    · rw [e] at h1 ⊢; exact lx_cong h1
    · show lx_sum g N + g N = _
      rw [ih (by omega) (fun s a b => h2 s a (by omega)), h2 N (by omega) (by omega), Int64.add_zero]
theorem wh_cong {f g : Nat → Int32} : ∀ {n : Nat}, (∀ s, s < n → f s = g s) → qWh f n = qWh g n
  | 0, _ => rfl
  | n + 1, h => by
    show qWh f n ||| qBit (f n) n = qWh g n ||| qBit (g n) n
    rw [wh_cong (fun s hs => h s (by omega)), h n (by omega)]
theorem wh_cut {f g : Nat → Int32} {n : Nat} (h1 : ∀ s, s < n → g s = f s) : ∀ (N : Nat), n ≤ N → (∀ s, n ≤ s → s < N → g s = 0) → qWh g N = qWh f n := by
  intro N
  induction N with
  | zero => intro hN _; rw [show n = 0 by omega]; rfl
  | succ N ih =>
    intro hN h2
    by_cases e : n = N + 1
    · rw [e] at h1 ⊢; exact wh_cong h1
    · show qWh g N ||| qBit (g N) N = _
      rw [ih (by omega) (fun s a b => h2 s a (by omega)), h2 N (by omega) (by omega)]
      show _ ||| (0 : Int32) = _
      rw [Int32.or_zero]
theorem th_in {n s : Nat} (h : s < n) (hn : n ≤ 8) : thB n (-4) s = true := by
  unfold thB
  have : ¬ nI s = (-4 : Int32) := by
    intro q
    have h1 : (nI s).toInt = (s : Int) := nI_toInt (by omega)
    rw [q] at h1
    have h2 : (-4 : Int32).toInt = -4 := rfl
    omega
  simp [h, this]
theorem th_out {n s : Nat} (h : n ≤ s) (lo : Int32) : thB n lo s = false := by
  unfold thB
  simp; omega
theorem tS_n {n : Nat} (hn : n ≤ 8) (f : Nat → Int32) : tS n (-4) f = bx_sum f n := bx_cut (fun s hs => by rw [if_pos (th_in hs hn)]) 8 hn (fun s h1 _ => by rw [th_out h1]; rfl)
theorem tL_n {n : Nat} (hn : n ≤ 8) (f : Nat → Int64) : tL n (-4) f = lx_sum f n := lx_cut (fun s hs => by rw [if_pos (th_in hs hn)]) 8 hn (fun s h1 _ => by rw [th_out h1]; rfl)
theorem heap_same {many has would fail must : Nat → Int32} {n : Nat} (h1 : 1 ≤ n) (hn : n ≤ 8) (hb : ∀ s, s < n → ROne (many s) (has s) (would s) (fail s) (must s)) {p : Int32} (hp : VP p) : heap6I many has n (-4) p = heapI many has n p := by
  unfold heap6I heapI
  rw [tS_n hn, tS_n hn]
  obtain ⟨hp0, hp9⟩ := hp
  have e1 : (bx_sum many n).toInt = fb_si (fun s => (many s).toInt) n := bx_int (c := 50) (by omega) (by omega) hn (fun s hs => by obtain ⟨a1, a2, -⟩ := hb s hs; omega)
  have hmh : ∀ s, s < n → (many s * has s).toInt = (many s).toInt * (has s).toInt ∧ -4950 ≤ (many s).toInt * (has s).toInt ∧ (many s).toInt * (has s).toInt ≤ 4950 := fun s hs => by
    obtain ⟨a1, a2, a3, a4, -⟩ := hb s hs
    have m := mulB (x := many s) (y := has s) 50 99 (by omega) a2 (by omega) (by omega) a4 (by omega)
    have q := mb1 (by omega : 0 ≤ (many s).toInt) a2 a3 a4
    exact ⟨m.1, by omega, by omega⟩
  have hmp : ∀ s, s < n → (many s * (has s - p)).toInt = (many s).toInt * ((has s).toInt - p.toInt) ∧ -4950 ≤ (many s).toInt * ((has s).toInt - p.toInt) ∧ (many s).toInt * ((has s).toInt - p.toInt) ≤ 4950 := fun s hs => by
    obtain ⟨a1, a2, a3, a4, -⟩ := hb s hs
    have e : (has s - p).toInt = (has s).toInt - p.toInt := fb_subI (by omega) (by omega)
    have m := mulB (x := many s) (y := has s - p) 50 99 (by omega) a2 (by omega) (by omega) (by omega) (by omega)
    have q := mb2 (x := (many s).toInt) (y := (has s).toInt - p.toInt) (a := 50) (b := 99) (by omega) a2 (by omega) (by omega) (by omega)
    rw [e] at m
    exact ⟨m.1, by omega, by omega⟩
  have e2 : (bx_sum (fun s => many s * has s) n).toInt = fb_si (fun s => (many s).toInt * (has s).toInt) n := by
    rw [bx_int (c := 4950) (by omega) (by omega) hn (fun s hs => by rw [(hmh s hs).1]; exact (hmh s hs).2)]
    exact fb_si_cong (fun s hs => (hmh s hs).1)
  have e3 : (bx_sum (fun s => many s * (has s - p)) n).toInt = fb_si (fun s => (many s).toInt * ((has s).toInt - p.toInt)) n := by
    rw [bx_int (c := 4950) (by omega) (by omega) hn (fun s hs => by rw [(hmp s hs).1]; exact (hmp s hs).2)]
    exact fb_si_cong (fun s hs => (hmp s hs).1)
  have e4 : fb_si (fun s => (many s).toInt * ((has s).toInt - p.toInt)) n = fb_si (fun s => (many s).toInt * (has s).toInt) n - p.toInt * fb_si (fun s => (many s).toInt) n := by
    rw [← fb_si_mul, ← fb_si_sub]
    exact fb_si_cong (fun s hs => by rw [Int.mul_sub, Int.mul_comm p.toInt])
  have b1 : 1 ≤ fb_si (fun s => (many s).toInt) n := by
    have := si_nonneg (f := fun s => (many s).toInt) (n := n - 1) (fun s hs => by obtain ⟨a1, -⟩ := hb s (by omega); omega)
    obtain ⟨a1, -⟩ := hb (n - 1) (by omega)
    have e : fb_si (fun s => (many s).toInt) n = fb_si (fun s => (many s).toInt) (n - 1) + (many (n - 1)).toInt := by
      obtain ⟨m, rfl⟩ : ∃ m, n = m + 1 := ⟨n - 1, by omega⟩
      rfl
    omega
  have b2 := si_le (f := fun s => (many s).toInt) (c := 50) (by omega) hn (fun s hs => by obtain ⟨a1, a2, -⟩ := hb s hs; exact a2)
  have m := mulB (x := p) (y := bx_sum many n) 99 400 hp0 hp9 (by omega) (by rw [e1]; omega) (by rw [e1]; omega) (by omega)
  rw [e1] at m
  rw [if_neg (by rw [fa_le, e1]; show ¬ _ ≤ (0 : Int); omega)]
  by_cases c : 0 < bx_sum (fun s => many s * (has s - p)) n
  · rw [if_pos c, if_pos]
    rw [fa_lt, e3, e4] at c
    have z : (0 : Int32).toInt = 0 := rfl
    rw [fa_lt, m.1, e2]
    omega
  · rw [if_neg c, if_neg]
    rw [fa_lt, e3, e4] at c
    have z : (0 : Int32).toInt = 0 := rfl
    rw [fa_lt, m.1, e2]
    omega
theorem hp_same {many has would fail must : Nat → Int32} {n : Nat} (h1 : 1 ≤ n) (hn : n ≤ 8) (hb : ∀ s, s < n → ROne (many s) (has s) (would s) (fail s) (must s)) {k p : Int32} (hp : VP p) : hp6I many has n (-4) k p = hpI many has n k p := by
  unfold hp6I hpI
  rw [heap_same h1 hn hb hp]
theorem toL (x : Int32) : x.toInt64.toInt = x.toInt := Int32.toInt_toInt64 x
/-- the reference's layOffer gives the same numbers -/
theorem lay6 {n : Nat} {sorts rules many has would fail must : Nat → Int32} {mark look pay : Int32} (hS : SS n sorts many has would fail must) (hB : SB (n, many, has, would, fail, must, mark, look, pay)) (r0 : rules 0 = mark) (r1 : rules 1 = look) (r2 : rules 2 = pay) (c0 s0 : Nat → Int32) {k w p : Int32} (hk : VO k w) (hp : VP p) :
    ∃ tu td gl cm so, fX6_layOffer sorts rules c0 s0 (nI n) (-4) k w p = some (tu, td, gl, cm, so, oWhole (n, many, has, would, fail, must, mark, look, pay) k w p, oHorses (n, many, has, would, fail, must, mark, look, pay) k w p, oParts (n, many, has, would, fail, must, mark, look, pay) k w p) ∧
      tu.toInt = (oTenths (n, many, has, would, fail, must, mark, look, pay) k w p).toInt ∧ td.toInt = 10 * (oParts (n, many, has, would, fail, must, mark, look, pay) k w p).toInt ∧ gl.toInt = (oGained (n, many, has, would, fail, must, mark, look, pay) k w p).toInt ∧ ∀ s, s < n → so s = oSa (n, many, has, would, fail, must, mark, look, pay) k w p s := by
  have hn : n ≤ 8 := hB.1
  generalize hQ : ((n, many, has, would, fail, must, mark, look, pay) : Stk) = Q at hB ⊢
  unfold fX6_layOffer
  rw [hp6 hn hS, bd_s]
  obtain ⟨cm, so, h1, h2⟩ := lay_run many has would fail must mark look k w p (hp6I many has n (-4) k p) (lo := -4) hn hS r0 r1 c0 s0
  have hb : ∀ s, s < n → ROne (many s) (has s) (would s) (fail s) (must s) := fun s hs => (hS s hs).2.2.2.2.2
  have ef : ∀ s, s < n → hp6I many has n (-4) k p = hpI many has n k p := fun s hs => hp_same (by omega) hn hb hp
  have eC : tS n (-4) (qCo many has fail must k w p (hp6I many has n (-4) k p)) = oHorses Q k w p := by
    rw [tS_n hn, ← hQ]; exact bx_cong (fun s hs => by rw [ef s hs]; rfl)
  have eS : tS n (-4) (qSa many has would fail must mark look k w p (hp6I many has n (-4) k p)) = oParts Q k w p := by
    rw [tS_n hn, ← hQ]; exact bx_cong (fun s hs => by rw [ef s hs]; rfl)
  have eW : qWh (fun s => if thB n (-4) s then qAl has fail k w p (hp6I many has n (-4) k p) s else 0) 8 = oWhole Q k w p := by
    rw [← hQ]
    exact wh_cut (fun s hs => by rw [if_pos (th_in hs hn), ef s hs]; rfl) 8 hn (fun s h1 _ => by rw [th_out h1]; rfl)
  have eT : (tL n (-4) (fun s => (qSa many has would fail must mark look k w p (hp6I many has n (-4) k p) s).toInt64 * (valI k w (would s) (fail s)).toInt64)).toInt = tenI Q k w p := by
    have e0 : ∀ s, s < n → ((qSa many has would fail must mark look k w p (hp6I many has n (-4) k p) s).toInt64 * (valI k w (would s) (fail s)).toInt64).toInt = (oSa Q k w p s).toInt * (oVa Q k w s).toInt ∧ -79200000 ≤ (oSa Q k w p s).toInt * (oVa Q k w s).toInt ∧ (oSa Q k w p s).toInt * (oVa Q k w s).toInt ≤ 79200000 := fun s hs => by
      have hs' : s < Q.1 := by rw [← hQ]; exact hs
      have a := sa_b hB (p := p) hk hs'
      have b := va_b hB hk hs'
      have c := sv_b hB (p := p) hk hs'
      have e1 : qSa many has would fail must mark look k w p (hp6I many has n (-4) k p) s = oSa Q k w p s := by rw [ef s hs, ← hQ]; rfl
      have e2 : valI k w (would s) (fail s) = oVa Q k w s := by rw [← hQ]; rfl
      rw [e1, e2]
      have m := mulL (x := (oSa Q k w p s).toInt64) (y := (oVa Q k w s).toInt64) 40000 1980 (by rw [toL]; omega) (by rw [toL]; omega) (by omega) (by rw [toL]; omega) (by rw [toL]; omega) (by omega)
      rw [m.1, toL, toL]
      exact ⟨rfl, by omega, c.2.2⟩
    rw [tL_n hn, lx_int (c := 79200000) (by omega) (by omega) hn (fun s hs => by rw [(e0 s hs).1]; exact (e0 s hs).2)]
    unfold tenI
    rw [← hQ]
    exact fb_si_cong (fun s hs => by have := (e0 s hs).1; rw [← hQ] at this; exact this)
  have eG : (tL n (-4) (fun s => (qSa many has would fail must mark look k w p (hp6I many has n (-4) k p) s).toInt64 * (would s - has s).toInt64)).toInt = gaiI Q k w p := by
    have e0 : ∀ s, s < n → ((qSa many has would fail must mark look k w p (hp6I many has n (-4) k p) s).toInt64 * (would s - has s).toInt64).toInt = (oSa Q k w p s).toInt * (oSu Q s).toInt ∧ -3960000 ≤ (oSa Q k w p s).toInt * (oSu Q s).toInt ∧ (oSa Q k w p s).toInt * (oSu Q s).toInt ≤ 3960000 := fun s hs => by
      have hs' : s < Q.1 := by rw [← hQ]; exact hs
      have a := sa_b hB (p := p) hk hs'
      have b := su_b hB hs'
      have c := ss_b hB (p := p) hk hs'
      have e1 : qSa many has would fail must mark look k w p (hp6I many has n (-4) k p) s = oSa Q k w p s := by rw [ef s hs, ← hQ]; rfl
      have e2 : would s - has s = oSu Q s := by rw [← hQ]; rfl
      rw [e1, e2]
      have m := mulL (x := (oSa Q k w p s).toInt64) (y := (oSu Q s).toInt64) 40000 99 (by rw [toL]; omega) (by rw [toL]; omega) (by omega) (by rw [toL]; omega) (by rw [toL]; omega) (by omega)
      rw [m.1, toL, toL]
      exact ⟨rfl, c.2⟩
    rw [tL_n hn, lx_int (c := 3960000) (by omega) (by omega) hn (fun s hs => by rw [(e0 s hs).1]; exact (e0 s hs).2)]
    unfold gaiI
    rw [← hQ]
    exact fb_si_cong (fun s hs => by have := (e0 s hs).1; rw [← hQ] at this; exact this)
  rw [h1, bd_s]
  dsimp only
  rw [eC, eS, eW]
  have hr2 : rules (2 : Int32).toNatClampNeg = pay := r2
  have eP : (if k = 2 then some ((800 : Int64) * (rules (2 : Int32).toNatClampNeg).toInt64 * (oHorses Q k w p).toInt64) else some (0 : Int64)) = some (if k = 2 then (800 : Int64) * pay.toInt64 * (oHorses Q k w p).toInt64 else 0) := by
    rw [hr2]; split <;> rfl
  rw [eP, bd_s]
  have hh := horses_i hB (k := k) (w := w) (p := p)
  have hpay : pay = Q.2.2.2.2.2.2.2.2 := by rw [← hQ]
  have q1 : 0 ≤ pay.toInt := by rw [hpay]; exact hB.2.2.2.2.2.2.1
  have q2 : pay.toInt ≤ 20 := by rw [hpay]; exact hB.2.2.2.2.2.2.2
  have ePI : (if k = 2 then (800 : Int64) * pay.toInt64 * (oHorses Q k w p).toInt64 else 0).toInt = 800 * payI Q k w p := by
    unfold payI
    by_cases c : k = 2
    · rw [if_pos c, if_pos c, ← hpay]
      have z : (800 : Int64).toInt = 800 := rfl
      have m1 := mulL (x := (800 : Int64)) (y := pay.toInt64) 800 20 (by decide) (by decide) (by omega) (by rw [toL]; omega) (by rw [toL]; omega) (by omega)
      rw [toL, z] at m1
      have m2 := mulL (x := (800 : Int64) * pay.toInt64) (y := (oHorses Q k w p).toInt64) 16000 400 (by rw [m1.1]; omega) (by rw [m1.1]; omega) (by omega) (by rw [toL]; omega) (by rw [toL]; omega) (by omega)
      rw [m2.1, m1.1, toL, Int.mul_assoc]
    · rw [if_neg c, if_neg c]; rfl
  have pb := pay_b hB (k := k) (w := w) (p := p)
  generalize (if k = 2 then (800 : Int64) * pay.toInt64 * (oHorses Q k w p).toInt64 else 0) = py at ePI ⊢
  refine ⟨_, _, _, cm, so, rfl, ?_, ?_, ?_, fun s hs => ?_⟩
  · have z : (10 : Int64).toInt = 10 := rfl
    have m := mulL (x := (10 : Int64)) (y := py) 10 6400000 (by decide) (by decide) (by omega) (by omega) (by omega) (by omega)
    rw [z, ePI] at m
    have tb := ten_b hB (p := p) hk
    rw [fb_subL (by rw [eT, m.1]; omega) (by rw [eT, m.1]; omega), eT, m.1, tenths_i hB hk]
    omega
  · have z : (10 : Int64).toInt = 10 := rfl
    have pi := parts_i hB (p := p) hk
    have m := mulL (x := (10 : Int64)) (y := (oParts Q k w p).toInt64) 10 320000 (by decide) (by decide) (by omega) (by rw [toL]; omega) (by rw [toL]; omega) (by omega)
    rw [m.1, toL, z]
  · have gb := gai_b hB (p := p) hk
    rw [fb_subL (by rw [eG, ePI]; omega) (by rw [eG, ePI]; omega), eG, ePI, gained_i hB hk]
  · rw [h2 s (by omega), if_pos (th_in hs hn), ef s hs, ← hQ]
    rfl
end OfferB
