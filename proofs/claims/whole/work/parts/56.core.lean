section Core
def lx_sum (f : Nat → Int64) : Nat → Int64
  | 0 => 0
  | n + 1 => lx_sum f n + f n
theorem bx_int {f : Nat → Int32} {c : Int} (hc : 0 ≤ c) (h8 : 8 * c < 2147483648) : ∀ {n : Nat}, n ≤ 8 → (∀ s, s < n → -c ≤ (f s).toInt ∧ (f s).toInt ≤ c) → (bx_sum f n).toInt = fb_si (fun s => (f s).toInt) n
  | 0, _, _ => rfl
  | n + 1, hn, h => by
    have ih := bx_int hc h8 (n := n) (by omega) (fun s hs => h s (by omega))
    have b1 := fb_si_bound (f := fun s => (f s).toInt) hc (n := n) (fun s hs => h s (by omega))
    have b2 := h n (by omega)
    have b3 : ((n : Int) + 1) * c ≤ 8 * c := Int.mul_le_mul_of_nonneg_right (by omega) hc
    have b4 : ((n : Int) + 1) * c = n * c + c := by rw [Int.add_mul, Int.one_mul]
    show (bx_sum f n + f n).toInt = fb_si (fun s => (f s).toInt) n + (f n).toInt
    rw [fb_addI (by rw [ih]; omega) (by rw [ih]; omega), ih]
theorem lx_int {f : Nat → Int64} {c : Int} (hc : 0 ≤ c) (h8 : 8 * c < 9223372036854775808) : ∀ {n : Nat}, n ≤ 8 → (∀ s, s < n → -c ≤ (f s).toInt ∧ (f s).toInt ≤ c) → (lx_sum f n).toInt = fb_si (fun s => (f s).toInt) n
  | 0, _, _ => rfl
  | n + 1, hn, h => by
    have ih := lx_int hc h8 (n := n) (by omega) (fun s hs => h s (by omega))
    have b1 := fb_si_bound (f := fun s => (f s).toInt) hc (n := n) (fun s hs => h s (by omega))
    have b2 := h n (by omega)
    have b3 : ((n : Int) + 1) * c ≤ 8 * c := Int.mul_le_mul_of_nonneg_right (by omega) hc
    have b4 : ((n : Int) + 1) * c = n * c + c := by rw [Int.add_mul, Int.one_mul]
    show (lx_sum f n + f n).toInt = fb_si (fun s => (f s).toInt) n + (f n).toInt
    rw [fb_addL (by rw [ih]; omega) (by rw [ih]; omega), ih]
theorem mb1 {x y a b : Int} (h1 : 0 ≤ x) (h2 : x ≤ a) (h3 : 0 ≤ y) (h4 : y ≤ b) : 0 ≤ x * y ∧ x * y ≤ a * b := ⟨Int.mul_nonneg h1 h3, Int.mul_le_mul h2 h4 h3 (Int.le_trans h1 h2)⟩
theorem mb2 {x y a b : Int} (h1 : 0 ≤ x) (h2 : x ≤ a) (hb : 0 ≤ b) (h3 : -b ≤ y) (h4 : y ≤ b) : -(a * b) ≤ x * y ∧ x * y ≤ a * b := by
  have e1 : x * y ≤ x * b := Int.mul_le_mul_of_nonneg_left h4 h1
  have e2 : x * b ≤ a * b := Int.mul_le_mul_of_nonneg_right h2 hb
  have e3 : x * (-b) ≤ x * y := Int.mul_le_mul_of_nonneg_left h3 h1
  rw [Int.mul_neg] at e3
  omega
theorem mulB {x y : Int32} (a b : Int) (h1 : 0 ≤ x.toInt) (h2 : x.toInt ≤ a) (hb : 0 ≤ b) (h3 : -b ≤ y.toInt) (h4 : y.toInt ≤ b) (hab : a * b < 2147483648) : (x * y).toInt = x.toInt * y.toInt ∧ -(a * b) ≤ (x * y).toInt ∧ (x * y).toInt ≤ a * b := by
  have h := mb2 h1 h2 hb h3 h4
  have e := fb_mulI (x := x) (y := y) (by omega) (by omega)
  rw [e]
  exact ⟨rfl, h⟩
theorem mulL {x y : Int64} (a b : Int) (h1 : 0 ≤ x.toInt) (h2 : x.toInt ≤ a) (hb : 0 ≤ b) (h3 : -b ≤ y.toInt) (h4 : y.toInt ≤ b) (hab : a * b < 9223372036854775808) : (x * y).toInt = x.toInt * y.toInt ∧ -(a * b) ≤ (x * y).toInt ∧ (x * y).toInt ≤ a * b := by
  have h := mb2 h1 h2 hb h3 h4
  have e := fb_mulL (x := x) (y := y) (by omega) (by omega)
  rw [e]
  exact ⟨rfl, h⟩
/-- an offer, a price, rules within their bounds -/
def VO (k w : Int32) : Prop := 0 ≤ k.toInt ∧ k.toInt ≤ 4 ∧ 0 ≤ w.toInt ∧ w.toInt ≤ 99 ∧ (k = 3 → w.toInt ≤ 10)
def VP (p : Int32) : Prop := 0 ≤ p.toInt ∧ p.toInt ≤ 99
def VR (mark look pay : Int32) : Prop := 0 ≤ mark.toInt ∧ mark.toInt ≤ 99 ∧ 4 ≤ look.toInt ∧ look.toInt ≤ 8 ∧ 0 ≤ pay.toInt ∧ pay.toInt ≤ 20
/-- whether a sort comes whole (no heap), the parts of one, how many come -/
def cwh (k w p has fail : Int32) : Int32 := if k = 1 then (if 10 * p < 10 * has + fail * w then 0 else 1) else if k = 3 then (if has ≤ p then 1 else if fail * w = 100 then 1 else 0) else (if p < has then 0 else 1)
def oneI (k w would fail mark look : Int32) : Int32 := if k = 2 then 100 * (if would < mark then 8 - look else look) else if k = 3 then 8 * (100 - fail * w) else 800
def comeI (k al many must : Int32) : Int32 := if al = 0 then (if k = 4 then 0 else must) else many
def valI (k w would fail : Int32) : Int32 := 10 * would + (if k = 1 then fail * w else 0)
theorem one_b {k w would fail mark look : Int32} (hk : VO k w) (h4 : 4 ≤ look.toInt) (h8 : look.toInt ≤ 8) (hf : 0 ≤ fail.toInt) (hf2 : fail.toInt ≤ 10) : 0 ≤ (oneI k w would fail mark look).toInt ∧ (oneI k w would fail mark look).toInt ≤ 800 := by
  unfold oneI
  by_cases e2 : k = 2
  · rw [if_pos e2]
    have e8 : ((8 : Int32) - look).toInt = 8 - look.toInt := fb_subI (x := 8) (by show -2147483648 ≤ (8 : Int) - look.toInt; omega) (by show (8 : Int) - look.toInt < 2147483648; omega)
    split
    · have h := mulB (x := 100) (y := 8 - look) 100 8 (by decide) (by decide) (by omega) (by omega) (by omega) (by omega)
      have e : (100 : Int32).toInt = 100 := rfl
      rw [h.1, e8, e]; omega
    · have h := mulB (x := 100) (y := look) 100 8 (by decide) (by decide) (by omega) (by omega) (by omega) (by omega)
      have e : (100 : Int32).toInt = 100 := rfl
      rw [h.1, e]; omega
  · rw [if_neg e2]
    by_cases e3 : k = 3
    · rw [if_pos e3]
      have hw := hk.2.2.2.2 e3
      have hw0 := hk.2.2.1
      have m := mb1 hf hf2 hw0 hw
      have h := mulB (x := fail) (y := w) 10 10 hf hf2 (by omega) (by omega) (by omega) (by omega)
      have e1 : ((100 : Int32) - fail * w).toInt = 100 - fail.toInt * w.toInt := by
        rw [fb_subI (x := 100) (by rw [h.1]; show -2147483648 ≤ (100 : Int) - _; omega) (by rw [h.1]; show (100 : Int) - _ < 2147483648; omega), h.1]; rfl
      have h2 := mulB (x := 8) (y := 100 - fail * w) 8 100 (by decide) (by decide) (by omega) (by rw [e1]; omega) (by rw [e1]; omega) (by omega)
      have e : (8 : Int32).toInt = 8 := rfl
      rw [h2.1, e1, e]; omega
    · rw [if_neg e3]; decide
theorem val_b {k w would fail : Int32} (hk : VO k w) (hu : 0 ≤ would.toInt) (hu2 : would.toInt ≤ 99) (hf : 0 ≤ fail.toInt) (hf2 : fail.toInt ≤ 10) : (valI k w would fail).toInt = 10 * would.toInt + (if k = 1 then fail.toInt * w.toInt else 0) ∧ 0 ≤ (valI k w would fail).toInt ∧ (valI k w would fail).toInt ≤ 1980 := by
  unfold valI
  have h1 := mulB (x := 10) (y := would) 10 99 (by decide) (by decide) (by omega) (by omega) (by omega) (by omega)
  have e : (10 : Int32).toInt = 10 := rfl
  by_cases e1 : k = 1
  · rw [if_pos e1, if_pos e1]
    have h2 := mulB (x := fail) (y := w) 10 99 hf hf2 (by omega) (by have := hk.2.2.1; omega) (by have := hk.2.2.2.1; omega) (by omega)
    have m := mb1 hf hf2 hk.2.2.1 hk.2.2.2.1
    rw [fb_addI (by rw [h1.1, h2.1, e]; omega) (by rw [h1.1, h2.1, e]; omega), h1.1, h2.1, e]
    omega
  · rw [if_neg e1, if_neg e1]
    rw [Int32.add_zero, h1.1, e]
    omega
theorem come_b {k al many must : Int32} (h1 : 1 ≤ many.toInt) (h2 : many.toInt ≤ 50) (h3 : 0 ≤ must.toInt) (h4 : must.toInt ≤ many.toInt) : 0 ≤ (comeI k al many must).toInt ∧ (comeI k al many must).toInt ≤ many.toInt := by
  unfold comeI
  split
  · split
    · exact ⟨by decide, by show (0 : Int) ≤ _; omega⟩
    · exact ⟨h3, h4⟩
  · exact ⟨by omega, Int.le_refl _⟩
end Core
