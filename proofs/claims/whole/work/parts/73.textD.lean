section TextD
def SpR (s5 s6 s7 s8 s9 : Int32) (r0 r1 r2 r3 r4 m13 m16 : Nat → Int32) (m14 w w' : Int32) : Prop := RStock s5 s6 s7 s8 s9 r0 r1 r2 r3 r4 m14 m13 m16 ∧ ToldR w w'
def LnE (tb : Nat → Int32) (n lo : Nat) (X : Option (Int32 × Int32 × Int32 × Int32 × Int32 × Int32 × Int32 × (Nat → Int32) × (Nat → Int32) × (Nat → Int32) × (Nat → Int32) × (Nat → Int32) × Int32 × Int32 × Int32 × Int32 × Int32)) (Y : Option ((Nat → Int32) × (Nat → Int32) × Int32 × Int32 × Int32 × Int32 × Int32 × Int32 × Int32 × Int32)) : Prop := ∃ (c2 m2 : K6) (w1 : Int32) (a0 a1 a2 a3 a4 : Nat → Int32) (a5 a6 a7 a8 a9 : Int32) (e13 e16 : Nat → Int32) (e14 e17 : Int32), X = some (c2.1, c2.2.1, c2.2.2.1, w1, c2.2.2.2.1, c2.2.2.2.2.1, c2.2.2.2.2.2, a0, a1, a2, a3, a4, a5, a6, a7, a8, a9) ∧ Y = some (e13, e16, m2.1, m2.2.1, m2.2.2.1, m2.2.2.2.1, m2.2.2.2.2.1, m2.2.2.2.2.2, e14, e17) ∧ NR tb n lo c2 m2 ∧ (m2.1 = 0 → SpR a5 a6 a7 a8 a9 a0 a1 a2 a3 a4 e13 e16 e14 w1 e17)
section Tape
variable {n : Nat} {tb mr : Nat → Int32} {g : Nat → Nat} {cuts letters : Nat → Int32}
theorem line_fin (hT : TP n tb mr g) (hC : RConst cuts letters) {lo : Nat} {c1 m1 : K6} (h : NR tb n lo c1 m1) {w1 : Int32} {a0 a1 a2 a3 a4 : Nat → Int32} {a5 a6 a7 a8 a9 : Int32} {e13 e16 : Nat → Int32} {e14 e17 : Int32} (hS : m1.1 = 0 → SpR a5 a6 a7 a8 a9 a0 a1 a2 a3 a4 e13 e16 e14 w1 e17) :
    LnE tb n lo (bd (fX0_takeStop c1.1 c1.2.1 c1.2.2.1 c1.2.2.2.1 c1.2.2.2.2.1 c1.2.2.2.2.2 tb (nI n)) (fun t20 => some (t20.1, t20.2.1, t20.2.2.1, w1, t20.2.2.2.1, t20.2.2.2.2.1, t20.2.2.2.2.2, a0, a1, a2, a3, a4, a5, a6, a7, a8, a9))) (bd (if m1.1 = (0 : Int32) then (if m1.2.2.2.2.1 = (3 : Int32) then (some (m1.1, m1.2.1)) else (bd (fX6_fails m1.1 m1.2.1 m1.2.2.2.1 (2 : Int32)) (fun t39 => some (t39.1, t39.2)))) else (some (m1.1, m1.2.1))) (fun t41 => bd (fX6_next mr cuts letters (nI n) t41.1 t41.2 m1.2.2.1 m1.2.2.2.1 m1.2.2.2.2.1 m1.2.2.2.2.2) (fun t42 => some (e13, e16, t42.1, t42.2.1, t42.2.2.1, t42.2.2.2.1, t42.2.2.2.2.1, t42.2.2.2.2.2, e14, e17)))) := by
  obtain ⟨c2, p, p', h1, h2, h3, h4⟩ := stop_two h
  obtain ⟨m2, n2, R2, k2⟩ := rd hT hC (lo' := lo) h3 (Or.inl (Nat.le_refl _))
  refine ⟨c2, m2, w1, a0, a1, a2, a3, a4, a5, a6, a7, a8, a9, e13, e16, e14, e17, ?_, ?_, R2, fun z => hS (h4 (k2 z))⟩
  · rw [h1, bd_s]
  · rw [h2, bd_s]
    dsimp only
    rw [n2, bd_s]
theorem cod_v {x : Int32} {q : Nat} (h : x = nI (codN q)) {v : Int32} (hv : nI (codN q) = v) : x = v := h.trans hv
theorem line_two (hT : TP n tb mr g) (hC : RConst cuts letters) {lo : Nat} {c : K6} {x3 x4 x5 x6 x7 x8 : Int32} (h : TkR n lo c (x3, x4, x5, x6, x7, x8)) (h0 : x3 = 0) (ht : ¬ c.2.2.2.1 = 0) {s5 s6 s7 s8 s9 w w' m14 : Int32} {r0 r1 r2 r3 r4 m13 m16 : Nat → Int32} (hS : SpR s5 s6 s7 s8 s9 r0 r1 r2 r3 r4 m13 m16 m14 w w') :
    LnE tb n (lo + 1) (fX0_takeLine c.1 c.2.1 c.2.2.1 w c.2.2.2.1 c.2.2.2.2.1 c.2.2.2.2.2 tb (nI n) r0 r1 r2 r3 r4 s5 s6 s7 s8 s9) (fX6_readLine mr cuts letters m13 m16 (nI n) x3 x4 x5 x6 x7 x8 m14 w') := by
  have c0 : c.1 = 0 := (TkR_0 h).mpr h0
  have pl : c.2.2.2.2.1 = x6 := TkR_pl h h0
  have hh := h
  obtain ⟨⟨⟨q, hq, rfl, rfl, hs⟩, hr0, hr1, hr2, hr3, hb⟩, hw⟩ := hS
  rcases h with ⟨a, b, h1, h2, h3, h4, h5, h6, h7, h8, h9, htk⟩ | ⟨h1, h2, h3⟩
  · dsimp only at h5 h7 h9 htk
    have bad : ¬ c.2.2.2.1 = 1 → ¬ x7 = 1 → LnE tb n (lo + 1) (fX0_takeLine c.1 c.2.1 c.2.2.1 w c.2.2.2.1 c.2.2.2.2.1 c.2.2.2.2.2 tb (nI n) r0 r1 r2 r3 r4 (nI q) s6 s7 s8 s9) (fX6_readLine mr cuts letters m13 m16 (nI n) x3 x4 x5 x6 x7 x8 (nI q) w') := fun k1 k2 => by
      unfold fX0_takeLine fX6_readLine
      rw [if_neg k1, if_neg k2]
      refine ⟨(2, c.2.2.2.2.1, c.2.2.1, c.2.2.2.1, c.2.2.2.2.1, c.2.2.2.2.2), (2, x6, x5, x6, x7, x8), w, r0, r1, r2, r3, r4, nI q, s6, s7, s8, s9, m13, m16, nI q, w', rfl, ?_, ⟨(2, c.2.2.2.2.1, c.2.2.1, c.2.2.2.1, c.2.2.2.2.1, c.2.2.2.2.2), rfl, Or.inr ⟨show (0 : Int32) < 2 by decide, rfl, pl⟩⟩, fun z => absurd z (show ¬ (2 : Int32) = 0 by decide)⟩
      unfold fX6_fails
      rw [if_pos h0]
      rfl
    rcases htk with htk | htk | htk | htk
    · exact absurd htk.1 ht
    · obtain ⟨hba, k1, k2, nm, hnm, kv, rfl⟩ := htk
      clear bad
      unfold fX0_takeLine fX6_readLine
      rw [if_pos k1, if_pos k2]
      rcases (show nm = 0 ∨ nm = 1 ∨ nm = 2 ∨ nm = 3 ∨ nm = 4 ∨ nm = 5 by omega) with rfl | rfl | rfl | rfl | rfl | rfl
      · replace kv : c.2.2.2.2.2 = (1936683636 : Int32) := cod_v kv (by decide +kernel)
        obtain ⟨p, p', c1, a0, a1, a2, a3, a4, a5, e13, m1, e14, g1, g2, g3, R, k⟩ := sort_two hT hC hq hh ht h0 hs
        rw [if_neg (show ¬ c.2.2.2.2.2 = (1717660012 : Int32) by rw [kv]; decide), if_neg (show ¬ c.2.2.2.2.2 = (1819242347 : Int32) by rw [kv]; decide), if_neg (show ¬ c.2.2.2.2.2 = (1835102827 : Int32) by rw [kv]; decide), if_neg (show ¬ c.2.2.2.2.2 = (1836413812 : Int32) by rw [kv]; decide), if_pos kv, g1, bd_s, if_pos (show nI 0 = (0 : Int32) from rfl), g2]
        simp only [bd_s]
        rw [g3]
        simp only [bd_s]
        refine line_fin hT hC R (fun z => ?_)
        obtain ⟨q', y1, y2, y3, y4⟩ := k z
        exact ⟨⟨⟨q', y1, y2, y3, y4⟩, hr0, hr1, hr2, hr3, hb⟩, hw⟩
      · replace kv : c.2.2.2.2.2 = (1717660012 : Int32) := cod_v kv (by decide +kernel)
        obtain ⟨c1, w1, a3, e13, m1, e17, g1, g2, R, k⟩ := fail_two hT hC hq hh ht hw hs
        rw [if_pos kv, g1, bd_s, if_neg (show ¬ nI 1 = (0 : Int32) by decide), if_neg (show ¬ (3 : Int32) ≤ nI 1 by decide), g2, bd_s, bd_s, bd_s]
        exact line_fin hT hC R (fun z => ⟨⟨⟨q, hq, rfl, rfl, (k z).1⟩, hr0, hr1, hr2, hr3, hb⟩, (k z).2⟩)
      · replace kv : c.2.2.2.2.2 = (1836413812 : Int32) := cod_v kv (by decide +kernel)
        obtain ⟨c1, w1, a3, e13, m1, e17, g1, g2, R, k⟩ := must_two hT hC hq hh ht hw hs
        rw [if_neg (show ¬ c.2.2.2.2.2 = (1717660012 : Int32) by rw [kv]; decide), if_neg (show ¬ c.2.2.2.2.2 = (1819242347 : Int32) by rw [kv]; decide), if_neg (show ¬ c.2.2.2.2.2 = (1835102827 : Int32) by rw [kv]; decide), if_pos kv, g1, bd_s, if_neg (show ¬ nI 2 = (0 : Int32) by decide), if_neg (show ¬ (3 : Int32) ≤ nI 2 by decide), g2, bd_s, bd_s, bd_s]
        exact line_fin hT hC R (fun z => ⟨⟨⟨q, hq, rfl, rfl, (k z).1⟩, hr0, hr1, hr2, hr3, hb⟩, (k z).2⟩)
      · replace kv : c.2.2.2.2.2 = (1835102827 : Int32) := cod_v kv (by decide +kernel)
        obtain ⟨f1, f2, w1, p, p', g1, g2, T0, g3, g4⟩ := tell_two (j := 16) (by omega) hh h0 hw
        rw [show tm 16 = 3 from rfl] at g2 g4
        obtain ⟨m1, n1, R1, j1⟩ := rd hT hC (lo' := lo + 1) T0 (Or.inr ⟨Nat.le_refl _, ht⟩)
        obtain ⟨v1, u1, c1, p1, p1', t1, z1, T1, D1⟩ := tnum R1 0 99 99 (fun _ => rfl)
        obtain ⟨m2, n2, R2, j2⟩ := rd hT hC (lo' := lo + 1) T1 (Or.inl (Nat.le_refl _))
        dsimp only at t1
        have hk : fX0_takeMark c.1 c.2.1 c.2.2.1 w c.2.2.2.1 c.2.2.2.2.1 c.2.2.2.2.2 tb (nI n) = some (c1.1, c1.2.1, c1.2.2.1, w1, c1.2.2.2.1, c1.2.2.2.2.1, c1.2.2.2.2.2, v1) := by
          unfold fX0_takeMark
          rw [show (16 : Int32) = nI 16 from rfl, g1, bd_s]
          dsimp only
          rw [t1, bd_s]
        rw [if_neg (show ¬ c.2.2.2.2.2 = (1717660012 : Int32) by rw [kv]; decide), if_neg (show ¬ c.2.2.2.2.2 = (1819242347 : Int32) by rw [kv]; decide), if_pos kv, hk, bd_s, if_neg (show ¬ nI 3 = (0 : Int32) by decide), if_pos (show (3 : Int32) ≤ nI 3 by decide), g2]
        simp only [bd_s]
        rw [n1]
        simp only [show (nI 3 = (4 : Int32)) = False from eq_false (by decide), show (nI 3 = (3 : Int32)) = True from eq_true rfl, ite_true, ite_false, bd_s]
        rw [z1]
        simp only [bd_s]
        rw [n2]
        simp only [bd_s]
        rw [show ∀ {α : Type} (x : Option α), ckI (0 : Int32) 4 x = x from fun x => ckI_nI (k := 0) (by omega) (by omega) x]
        simp only [bd_s]
        refine line_fin hT hC R2 (fun z => ?_)
        rcases D1 with ⟨-, y1, y2, x, x1, rfl, rfl, x2, x3⟩ | ⟨-, y1, -, -⟩
        · obtain ⟨b1, b2, b3, b4, b5, b6, b7, b8⟩ := hb
          have d1 := toI x1 x2 x3
          exact ⟨⟨⟨q, hq, rfl, rfl, hs⟩, rfl, hr1, hr2, hr3, d1.1, d1.2, b3, b4, b5, b6, b7, b8⟩, g4⟩
        · exact absurd (j2 z) (pos_ne y1)
      · replace kv : c.2.2.2.2.2 = (1819242347 : Int32) := cod_v kv (by decide +kernel)
        obtain ⟨f1, f2, w1, p, p', g1, g2, T0, g3, g4⟩ := tell_two (j := 17) (by omega) hh h0 hw
        rw [show tm 17 = 4 from rfl] at g2 g4
        obtain ⟨m1, n1, R1, j1⟩ := rd hT hC (lo' := lo + 1) T0 (Or.inr ⟨Nat.le_refl _, ht⟩)
        obtain ⟨v1, u1, c1, p1, p1', t1, z1, T1, D1⟩ := tnum R1 4 8 8 (fun _ => rfl)
        obtain ⟨m2, n2, R2, j2⟩ := rd hT hC (lo' := lo + 1) T1 (Or.inl (Nat.le_refl _))
        dsimp only at t1
        obtain ⟨v2, u2, c2, p2, p2', t2, z2, T2, D2⟩ := tnum R2 0 20 20 (fun _ => rfl)
        obtain ⟨m3, n3, R3, j3⟩ := rd hT hC (lo' := lo + 1) T2 (Or.inl (Nat.le_refl _))
        have hk : fX0_takeLook c.1 c.2.1 c.2.2.1 w c.2.2.2.1 c.2.2.2.2.1 c.2.2.2.2.2 tb (nI n) = some (c2.1, c2.2.1, c2.2.2.1, w1, c2.2.2.2.1, c2.2.2.2.2.1, c2.2.2.2.2.2, v1, v2) := by
          unfold fX0_takeLook
          rw [show (17 : Int32) = nI 17 from rfl, g1, bd_s]
          dsimp only
          rw [t1, bd_s]
          dsimp only
          rw [t2, bd_s]
        rw [if_neg (show ¬ c.2.2.2.2.2 = (1717660012 : Int32) by rw [kv]; decide), if_pos kv, hk, bd_s, if_neg (show ¬ nI 4 = (0 : Int32) by decide), if_pos (show (3 : Int32) ≤ nI 4 by decide), g2]
        simp only [bd_s]
        rw [n1]
        simp only [show (nI 4 = (4 : Int32)) = True from eq_true rfl, show (nI 4 = (3 : Int32)) = False from eq_false (by decide), ite_true, ite_false, bd_s]
        rw [z1]
        simp only [bd_s]
        rw [n2]
        simp only [bd_s]
        rw [show ∀ {α : Type} (x : Option α), ckI (1 : Int32) 4 x = x from fun x => ckI_nI (k := 1) (by omega) (by omega) x]
        rw [z2]
        simp only [bd_s]
        rw [n3]
        simp only [bd_s]
        refine line_fin hT hC R3 (fun z => ?_)
        rcases D2 with ⟨-, y1, y2, x, x1, rfl, rfl, x2, x3⟩ | ⟨-, y1, -, -⟩
        · rcases D1 with ⟨-, y3, y4, xx, x4, rfl, rfl, x5, x6⟩ | ⟨-, y3, -, -⟩
          · obtain ⟨b1, b2, b3, b4, b5, b6, b7, b8⟩ := hb
            have d1 := toI x1 x2 x3
            have d2 := toI x4 x5 x6
            exact ⟨⟨⟨q, hq, rfl, rfl, hs⟩, hr0, rfl, rfl, hr3, b1, b2, d2.1, d2.2, d1.1, d1.2, b7, b8⟩, g4⟩
          · exact absurd (j2 y2) (pos_ne y3)
        · exact absurd (j3 z) (pos_ne y1)
      · replace kv : c.2.2.2.2.2 = (1801807214 : Int32) := cod_v kv (by decide +kernel)
        obtain ⟨f1, f2, w1, p, p', g1, g2, T0, g3, g4⟩ := tell_two (j := 18) (by omega) hh h0 hw
        rw [show tm 18 = 5 from rfl] at g2 g4
        obtain ⟨m1, n1, R1, j1⟩ := rd hT hC (lo' := lo + 1) T0 (Or.inr ⟨Nat.le_refl _, ht⟩)
        obtain ⟨v1, u1, c1, p1, p1', t1, z1, T1, D1⟩ := tnum R1 1 10 10 (fun _ => rfl)
        obtain ⟨m2, n2, R2, j2⟩ := rd hT hC (lo' := lo + 1) T1 (Or.inl (Nat.le_refl _))
        dsimp only at t1
        have hk : fX0_takeKeen c.1 c.2.1 c.2.2.1 w c.2.2.2.1 c.2.2.2.2.1 c.2.2.2.2.2 tb (nI n) = some (c1.1, c1.2.1, c1.2.2.1, w1, c1.2.2.2.1, c1.2.2.2.2.1, c1.2.2.2.2.2, v1) := by
          unfold fX0_takeKeen
          rw [show (18 : Int32) = nI 18 from rfl, g1, bd_s]
          dsimp only
          rw [t1, bd_s]
        rw [if_neg (show ¬ c.2.2.2.2.2 = (1717660012 : Int32) by rw [kv]; decide), if_neg (show ¬ c.2.2.2.2.2 = (1819242347 : Int32) by rw [kv]; decide), if_neg (show ¬ c.2.2.2.2.2 = (1835102827 : Int32) by rw [kv]; decide), if_neg (show ¬ c.2.2.2.2.2 = (1836413812 : Int32) by rw [kv]; decide), if_neg (show ¬ c.2.2.2.2.2 = (1936683636 : Int32) by rw [kv]; decide), hk, bd_s, if_neg (show ¬ nI 5 = (0 : Int32) by decide), if_pos (show (3 : Int32) ≤ nI 5 by decide), g2]
        simp only [bd_s]
        rw [n1]
        simp only [show (nI 5 = (4 : Int32)) = False from eq_false (by decide), show (nI 5 = (3 : Int32)) = False from eq_false (by decide), ite_true, ite_false, bd_s]
        rw [z1]
        simp only [bd_s]
        rw [n2]
        simp only [bd_s]
        rw [show ∀ {α : Type} (x : Option α), ckI (3 : Int32) 4 x = x from fun x => ckI_nI (k := 3) (by omega) (by omega) x]
        simp only [bd_s]
        refine line_fin hT hC R2 (fun z => ?_)
        rcases D1 with ⟨-, y1, y2, x, x1, rfl, rfl, x2, x3⟩ | ⟨-, y1, -, -⟩
        · obtain ⟨b1, b2, b3, b4, b5, b6, b7, b8⟩ := hb
          have d1 := toI x1 x2 x3
          exact ⟨⟨⟨q, hq, rfl, rfl, hs⟩, hr0, hr1, hr2, rfl, b1, b2, b3, b4, b5, b6, d1.1, d1.2⟩, g4⟩
        · exact absurd (j2 z) (pos_ne y1)
    · exact bad (by rw [htk.2.1]; decide) (by rw [htk.2.2.1]; decide)
    · exact bad (by rw [htk.2.1]; decide) (by rw [htk.2.2]; decide)
  · exact absurd c0 (pos_ne h1)
end Tape
end TextD
