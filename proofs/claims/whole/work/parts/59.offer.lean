section OfferA
def SB (Q : Stk) : Prop := Q.1 ≤ 8 ∧ (∀ s, s < Q.1 → ROne (Q.2.1 s) (Q.2.2.1 s) (Q.2.2.2.1 s) (Q.2.2.2.2.1 s) (Q.2.2.2.2.2.1 s)) ∧ VR Q.2.2.2.2.2.2.1 Q.2.2.2.2.2.2.2.1 Q.2.2.2.2.2.2.2.2
theorem co_b {Q : Stk} (h : SB Q) {k w p : Int32} {s : Nat} (hs : s < Q.1) : 0 ≤ (oCo Q k w p s).toInt ∧ (oCo Q k w p s).toInt ≤ 50 := by
  obtain ⟨a1, a2, a3, a4, a5, a6, a7, a8, a9, a10⟩ := h.2.1 s hs
  have c := come_b (k := k) (al := oAl Q k w p s) a1 a2 a9 a10
  exact ⟨c.1, Int.le_trans c.2 a2⟩
theorem sa_b {Q : Stk} (h : SB Q) {k w p : Int32} (hk : VO k w) {s : Nat} (hs : s < Q.1) : (oSa Q k w p s).toInt = (oCo Q k w p s).toInt * (oneI k w (Q.2.2.2.1 s) (Q.2.2.2.2.1 s) Q.2.2.2.2.2.2.1 Q.2.2.2.2.2.2.2.1).toInt ∧ 0 ≤ (oSa Q k w p s).toInt ∧ (oSa Q k w p s).toInt ≤ 40000 := by
  obtain ⟨a1, a2, a3, a4, a5, a6, a7, a8, a9, a10⟩ := h.2.1 s hs
  have c := co_b h (k := k) (w := w) (p := p) hs
  have o := one_b (would := Q.2.2.2.1 s) (mark := Q.2.2.2.2.2.2.1) hk h.2.2.2.2.1 h.2.2.2.2.2.1 a7 a8
  have m := mulB (x := oCo Q k w p s) (y := oneI k w (Q.2.2.2.1 s) (Q.2.2.2.2.1 s) Q.2.2.2.2.2.2.1 Q.2.2.2.2.2.2.2.1) 50 800 c.1 c.2 (by omega) (by omega) o.2 (by omega)
  have n := mb1 c.1 c.2 o.1 o.2
  have e : oSa Q k w p s = oCo Q k w p s * oneI k w (Q.2.2.2.1 s) (Q.2.2.2.2.1 s) Q.2.2.2.2.2.2.1 Q.2.2.2.2.2.2.2.1 := rfl
  rw [e]
  refine ⟨m.1, ?_, ?_⟩ <;> rw [m.1] <;> omega
theorem va_b {Q : Stk} (h : SB Q) {k w : Int32} (hk : VO k w) {s : Nat} (hs : s < Q.1) : (oVa Q k w s).toInt = 10 * (Q.2.2.2.1 s).toInt + (if k = 1 then (Q.2.2.2.2.1 s).toInt * w.toInt else 0) ∧ 0 ≤ (oVa Q k w s).toInt ∧ (oVa Q k w s).toInt ≤ 1980 := by
  obtain ⟨a1, a2, a3, a4, a5, a6, a7, a8, a9, a10⟩ := h.2.1 s hs
  exact val_b hk a5 a6 a7 a8
theorem su_b {Q : Stk} (h : SB Q) {s : Nat} (hs : s < Q.1) : (oSu Q s).toInt = (Q.2.2.2.1 s).toInt - (Q.2.2.1 s).toInt ∧ -99 ≤ (oSu Q s).toInt ∧ (oSu Q s).toInt ≤ 99 := by
  obtain ⟨a1, a2, a3, a4, a5, a6, a7, a8, a9, a10⟩ := h.2.1 s hs
  have e : (oSu Q s).toInt = (Q.2.2.2.1 s).toInt - (Q.2.2.1 s).toInt := fb_subI (by omega) (by omega)
  rw [e]; omega
theorem sv_b {Q : Stk} (h : SB Q) {k w p : Int32} (hk : VO k w) {s : Nat} (hs : s < Q.1) : (oSa Q k w p s * oVa Q k w s).toInt = (oSa Q k w p s).toInt * (oVa Q k w s).toInt ∧ 0 ≤ (oSa Q k w p s).toInt * (oVa Q k w s).toInt ∧ (oSa Q k w p s).toInt * (oVa Q k w s).toInt ≤ 79200000 := by
  have a := sa_b h (p := p) hk hs
  have b := va_b h hk hs
  have m := mulB (x := oSa Q k w p s) (y := oVa Q k w s) 40000 1980 a.2.1 a.2.2 (by omega) (by omega) b.2.2 (by omega)
  have n := mb1 a.2.1 a.2.2 b.2.1 b.2.2
  exact ⟨m.1, n.1, by omega⟩
theorem ss_b {Q : Stk} (h : SB Q) {k w p : Int32} (hk : VO k w) {s : Nat} (hs : s < Q.1) : (oSa Q k w p s * oSu Q s).toInt = (oSa Q k w p s).toInt * (oSu Q s).toInt ∧ -3960000 ≤ (oSa Q k w p s).toInt * (oSu Q s).toInt ∧ (oSa Q k w p s).toInt * (oSu Q s).toInt ≤ 3960000 := by
  have a := sa_b h (p := p) hk hs
  have b := su_b h hs
  have m := mulB (x := oSa Q k w p s) (y := oSu Q s) 40000 99 a.2.1 a.2.2 (by omega) b.2.1 b.2.2 (by omega)
  have n := mb2 a.2.1 a.2.2 (by omega : (0 : Int) ≤ 99) b.2.1 b.2.2
  exact ⟨m.1, by omega, by omega⟩
theorem si_nonneg {f : Nat → Int} : ∀ {n : Nat}, (∀ s, s < n → 0 ≤ f s) → 0 ≤ fb_si f n
  | 0, _ => Int.le_refl _
  | n + 1, h => by
    have h1 := si_nonneg (f := f) (n := n) (fun s hs => h s (by omega))
    have h2 := h n (by omega)
    show 0 ≤ fb_si f n + f n
    omega
theorem si_le {f : Nat → Int} {c : Int} (hc : 0 ≤ c) {n : Nat} (hn : n ≤ 8) (h : ∀ s, s < n → f s ≤ c) : fb_si f n ≤ 8 * c := by
  have h1 : ∀ m : Nat, m ≤ n → fb_si f m ≤ m * c := by
    intro m
    induction m with
    | zero => intro _; show (0 : Int) ≤ _; simp
    | succ m ih =>
      intro hm
      have a := ih (by omega)
      have b := h m (by omega)
      have e : ((m + 1 : Nat) : Int) * c = m * c + c := by rw [Int.natCast_add, Int.add_mul]; simp
      show fb_si f m + f m ≤ _
      rw [e]; omega
  have h2 := h1 n (Nat.le_refl n)
  have h3 : (n : Int) * c ≤ 8 * c := Int.mul_le_mul_of_nonneg_right (by omega) hc
  omega
theorem horses_i {Q : Stk} (h : SB Q) {k w p : Int32} : (oHorses Q k w p).toInt = fb_si (fun s => (oCo Q k w p s).toInt) Q.1 ∧ 0 ≤ (oHorses Q k w p).toInt ∧ (oHorses Q k w p).toInt ≤ 400 := by
  have e : (oHorses Q k w p).toInt = fb_si (fun s => (oCo Q k w p s).toInt) Q.1 := bx_int (c := 50) (by omega) (by omega) h.1 (fun s hs => by have := co_b h (k := k) (w := w) (p := p) hs; omega)
  have a := si_nonneg (f := fun s => (oCo Q k w p s).toInt) (n := Q.1) (fun s hs => (co_b h hs).1)
  have b := si_le (f := fun s => (oCo Q k w p s).toInt) (c := 50) (by omega) h.1 (fun s hs => (co_b h hs).2)
  rw [e]; exact ⟨rfl, a, by omega⟩
theorem parts_i {Q : Stk} (h : SB Q) {k w p : Int32} (hk : VO k w) : (oParts Q k w p).toInt = fb_si (fun s => (oSa Q k w p s).toInt) Q.1 ∧ 0 ≤ (oParts Q k w p).toInt ∧ (oParts Q k w p).toInt ≤ 320000 := by
  have e : (oParts Q k w p).toInt = fb_si (fun s => (oSa Q k w p s).toInt) Q.1 := bx_int (c := 40000) (by omega) (by omega) h.1 (fun s hs => by have := sa_b h (p := p) hk hs; omega)
  have a := si_nonneg (f := fun s => (oSa Q k w p s).toInt) (n := Q.1) (fun s hs => (sa_b h hk hs).2.1)
  have b := si_le (f := fun s => (oSa Q k w p s).toInt) (c := 40000) (by omega) h.1 (fun s hs => (sa_b h hk hs).2.2)
  rw [e]; exact ⟨rfl, a, by omega⟩
def tenI (Q : Stk) (k w p : Int32) : Int := fb_si (fun s => (oSa Q k w p s).toInt * (oVa Q k w s).toInt) Q.1
def gaiI (Q : Stk) (k w p : Int32) : Int := fb_si (fun s => (oSa Q k w p s).toInt * (oSu Q s).toInt) Q.1
def payI (Q : Stk) (k w p : Int32) : Int := if k = 2 then Q.2.2.2.2.2.2.2.2.toInt * (oHorses Q k w p).toInt else 0
theorem pay_b {Q : Stk} (h : SB Q) {k w p : Int32} : 0 ≤ payI Q k w p ∧ payI Q k w p ≤ 8000 := by
  unfold payI
  split
  · have a := horses_i h (k := k) (w := w) (p := p)
    have b := mb1 h.2.2.2.2.2.2.1 h.2.2.2.2.2.2.2 a.2.1 a.2.2
    omega
  · omega
theorem ten_b {Q : Stk} (h : SB Q) {k w p : Int32} (hk : VO k w) : 0 ≤ tenI Q k w p ∧ tenI Q k w p ≤ 633600000 := by
  have a := si_nonneg (f := fun s => (oSa Q k w p s).toInt * (oVa Q k w s).toInt) (n := Q.1) (fun s hs => (sv_b h hk hs).2.1)
  have b := si_le (f := fun s => (oSa Q k w p s).toInt * (oVa Q k w s).toInt) (c := 79200000) (by omega) h.1 (fun s hs => (sv_b h hk hs).2.2)
  unfold tenI
  exact ⟨a, by omega⟩
theorem gai_b {Q : Stk} (h : SB Q) {k w p : Int32} (hk : VO k w) : -31680000 ≤ gaiI Q k w p ∧ gaiI Q k w p ≤ 31680000 := by
  have a := fb_si_bound (f := fun s => (oSa Q k w p s).toInt * (oSu Q s).toInt) (c := 3960000) (by omega) (n := Q.1) (fun s hs => ⟨(ss_b h hk hs).2.1, (ss_b h hk hs).2.2⟩)
  have b : (Q.1 : Int) * 3960000 ≤ 8 * 3960000 := Int.mul_le_mul_of_nonneg_right (by have := h.1; omega) (by omega)
  unfold gaiI
  omega
theorem payM {Q : Stk} (h : SB Q) {k w p : Int32} (a : Int32) (c : Int) (ha : a.toInt = c) (h0 : 0 ≤ c) (h1 : c ≤ 8000) : (a * Q.2.2.2.2.2.2.2.2 * oHorses Q k w p).toInt = c * (Q.2.2.2.2.2.2.2.2.toInt * (oHorses Q k w p).toInt) := by
  have b := horses_i h (k := k) (w := w) (p := p)
  have q1 := h.2.2.2.2.2.2.1
  have q2 := h.2.2.2.2.2.2.2
  have m1 := mulB (x := a) (y := Q.2.2.2.2.2.2.2.2) 8000 20 (by omega) (by omega) (by omega) (by omega) (by omega) (by omega)
  have n1 := mb1 h0 h1 q1 q2
  rw [ha] at m1
  have m2 := mulB (x := a * Q.2.2.2.2.2.2.2.2) (y := oHorses Q k w p) 160000 400 (by rw [m1.1]; omega) (by rw [m1.1]; omega) (by omega) (by omega) (by omega) (by omega)
  rw [m2.1, m1.1, Int.mul_assoc]
theorem tenths_i {Q : Stk} (h : SB Q) {k w p : Int32} (hk : VO k w) : (oTenths Q k w p).toInt = tenI Q k w p - 8000 * payI Q k w p := by
  have e : (bx_sum (fun s => oSa Q k w p s * oVa Q k w s) Q.1).toInt = tenI Q k w p := by
    rw [bx_int (c := 79200000) (by omega) (by omega) h.1 (fun s hs => by have := sv_b h (p := p) hk hs; rw [this.1]; omega)]
    exact fb_si_cong (fun s hs => (sv_b h hk hs).1)
  have a := ten_b h (p := p) hk
  have b := pay_b h (k := k) (w := w) (p := p)
  unfold oTenths
  by_cases c : k = 2
  · have d := payM h (k := k) (w := w) (p := p) 8000 8000 rfl (by omega) (by omega)
    have f : payI Q k w p = Q.2.2.2.2.2.2.2.2.toInt * (oHorses Q k w p).toInt := if_pos c
    rw [← f] at d
    rw [if_pos c, fb_subI (by rw [e, d]; omega) (by rw [e, d]; omega), e, d]
  · have f : payI Q k w p = 0 := if_neg c
    rw [if_neg c, e, f]; omega
theorem gained_i {Q : Stk} (h : SB Q) {k w p : Int32} (hk : VO k w) : (oGained Q k w p).toInt = gaiI Q k w p - 800 * payI Q k w p := by
  have e : (bx_sum (fun s => oSa Q k w p s * oSu Q s) Q.1).toInt = gaiI Q k w p := by
    rw [bx_int (c := 3960000) (by omega) (by omega) h.1 (fun s hs => by have := ss_b h (p := p) hk hs; rw [this.1]; omega)]
    exact fb_si_cong (fun s hs => (ss_b h hk hs).1)
  have a := gai_b h (p := p) hk
  have b := pay_b h (k := k) (w := w) (p := p)
  unfold oGained
  by_cases c : k = 2
  · have d := payM h (k := k) (w := w) (p := p) 800 800 rfl (by omega) (by omega)
    have f : payI Q k w p = Q.2.2.2.2.2.2.2.2.toInt * (oHorses Q k w p).toInt := if_pos c
    rw [← f] at d
    rw [if_pos c, fb_subI (by rw [e, d]; omega) (by rw [e, d]; omega), e, d]
  · have f : payI Q k w p = 0 := if_neg c
    rw [if_neg c, e, f]; omega
end OfferA
