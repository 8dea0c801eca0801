section TextE
def TxI (n k : Nat) (v : Int32 × Int32 × Int32 × Int32 × Int32 × Int32 × Int32 × Int32 × Int32 × (Nat → Int32) × (Nat → Int32) × (Nat → Int32) × (Nat → Int32) × (Nat → Int32) × Int32 × Int32 × Int32 × Int32 × Int32) (v' : Int32 × (Nat → Int32) × (Nat → Int32) × Int32 × Int32 × Int32 × Int32 × Int32 × Int32 × Int32 × Int32) : Prop := ∃ (c m : K6) (L w w' : Int32) (a0 a1 a2 a3 a4 : Nat → Int32) (a5 a6 a7 a8 a9 : Int32) (e13 e16 : Nat → Int32) (e14 : Int32), L = nI k ∧ v = (nI k, c.1, c.2.1, L, c.2.2.1, w, c.2.2.2.1, c.2.2.2.2.1, c.2.2.2.2.2, a0, a1, a2, a3, a4, a5, a6, a7, a8, a9) ∧ v' = (L, e13, e16, m.1, m.2.1, m.2.2.1, m.2.2.2.1, m.2.2.2.2.1, m.2.2.2.2.2, e14, w') ∧ TkR n k c m ∧ (m.1 = 0 → SpR a5 a6 a7 a8 a9 a0 a1 a2 a3 a4 e13 e16 e14 w w')
def TxE (n : Nat) (T : Int32 × Int32 × Int32 × Int32 × Int32 × Int32 × Int32 × Int32 × (Nat → Int32) × (Nat → Int32) × (Nat → Int32) × (Nat → Int32) × (Nat → Int32) × Int32 × Int32 × Int32 × Int32 × Int32) (T' : Int32 × (Nat → Int32) × (Nat → Int32) × Int32 × Int32 × Int32 × Int32 × Int32 × Int32 × Int32 × Int32) : Prop := ∃ (c m : K6) (L w w' : Int32) (a0 a1 a2 a3 a4 : Nat → Int32) (a5 a6 a7 a8 a9 : Int32) (e13 e16 : Nat → Int32) (e14 : Int32), T = (c.1, c.2.1, L, c.2.2.1, w, c.2.2.2.1, c.2.2.2.2.1, c.2.2.2.2.2, a0, a1, a2, a3, a4, a5, a6, a7, a8, a9) ∧ T' = (L, e13, e16, m.1, m.2.1, m.2.2.1, m.2.2.2.1, m.2.2.2.2.1, m.2.2.2.2.2, e14, w') ∧ TkR n 0 c m ∧ (m.1 = 0 → SpR a5 a6 a7 a8 a9 a0 a1 a2 a3 a4 e13 e16 e14 w w')
theorem TkR_tok {n lo : Nat} {c m : K6} (h : TkR n lo c m) (h0 : m.1 = 0) : c.2.2.2.1 = 0 ↔ m.2.2.2.2.1 = 0 := by
  rcases h with ⟨a, b, h1, h2, h3, h4, h5, h6, h7, h8, h9, ht⟩ | ⟨h1, h2, h3⟩
  · rcases ht with ht | ht | ht | ht
    · exact ⟨fun _ => ht.2, fun _ => ht.1⟩
    · rw [ht.2.1, ht.2.2.1]
    · rw [ht.2.1, ht.2.2.1]
    · rw [ht.2.1, ht.2.2]
  · rw [h2, h0] at h1; exact absurd h1 (by decide)
theorem TkR_end {n lo : Nat} {c m : K6} (h : TkR n lo c m) (h0 : m.1 = 0) (hl : n ≤ lo) : m.2.2.2.2.1 = 0 := by
  rcases h with ⟨a, b, h1, h2, h3, h4, h5, h6, h7, h8, h9, ht⟩ | ⟨h1, h2, h3⟩
  · rcases ht with ht | ht | ht | ht
    · exact ht.2
    · have := ht.1; omega
    · have := ht.1; omega
    · have := ht.1; omega
  · rw [h2, h0] at h1; exact absurd h1 (by decide)
section Tape
variable {n : Nat} {tb mr : Nat → Int32} {g : Nat → Nat} {cuts letters : Nat → Int32}
theorem tx_out {k : Nat} {v : Int32 × Int32 × Int32 × Int32 × Int32 × Int32 × Int32 × Int32 × Int32 × (Nat → Int32) × (Nat → Int32) × (Nat → Int32) × (Nat → Int32) × (Nat → Int32) × Int32 × Int32 × Int32 × Int32 × Int32} {v' : Int32 × (Nat → Int32) × (Nat → Int32) × Int32 × Int32 × Int32 × Int32 × Int32 × Int32 × Int32 × Int32} (h : TxI n k v v') (hx : 240 ≤ k ∨ ¬ v'.2.2.2.1 = 0 ∨ v'.2.2.2.2.2.2.2.1 = 0) (hn : n ≤ 240) (hk : k ≤ 240) : ∃ t t', fX0_readInto_b31 tb (nI n) v = some (.inr t) ∧ fX6_text_b56 mr cuts letters (nI n) v' = some (.inr t') ∧ TxE n t t' := by
  obtain ⟨c, m, L, w, w', a0, a1, a2, a3, a4, a5, a6, a7, a8, a9, e13, e16, e14, hL, rfl, rfl, hK, hS⟩ := h
  dsimp only at hx
  have hK0 : TkR n 0 c m := TkR_mono (Nat.zero_le _) hK
  by_cases z : m.1 = 0
  · have zc := (TkR_0 hK).mpr z
    have zt : m.2.2.2.2.1 = 0 := by
      rcases hx with hx | hx | hx
      · exact TkR_end hK z (by omega)
      · exact absurd z hx
      · exact hx
    have zd := (TkR_tok hK z).mpr zt
    refine ⟨(c.1, c.2.1, L, c.2.2.1, w, c.2.2.2.1, c.2.2.2.2.1, c.2.2.2.2.2, a0, a1, a2, a3, a4, a5, a6, a7, a8, a9), (L, e13, e16, m.1, m.2.1, m.2.2.1, m.2.2.2.1, m.2.2.2.2.1, m.2.2.2.2.2, e14, w'), ?_, ?_, ⟨c, m, L, w, w', a0, a1, a2, a3, a4, a5, a6, a7, a8, a9, e13, e16, e14, rfl, rfl, hK0, hS⟩⟩
    · unfold fX0_readInto_b31
      dsimp only
      rw [if_pos zc, if_pos zd, ite_self]
    · unfold fX6_text_b56
      dsimp only
      rw [if_pos z, if_pos zt]
  · have zc : ¬ c.1 = 0 := fun q => z ((TkR_0 hK).mp q)
    refine ⟨(c.1, c.2.1, L, c.2.2.1, w, c.2.2.2.1, c.2.2.2.2.1, c.2.2.2.2.2, a0, a1, a2, a3, a4, a5, a6, a7, a8, a9), (L, e13, e16, m.1, m.2.1, m.2.2.1, m.2.2.2.1, m.2.2.2.2.1, m.2.2.2.2.2, e14, w'), ?_, ?_, ⟨c, m, L, w, w', a0, a1, a2, a3, a4, a5, a6, a7, a8, a9, e13, e16, e14, rfl, rfl, hK0, hS⟩⟩
    · unfold fX0_readInto_b31
      dsimp only
      rw [if_neg zc, ite_self]
    · unfold fX6_text_b56
      dsimp only
      rw [if_neg z]
theorem tx_step (hT : TP n tb mr g) (hC : RConst cuts letters) {k : Nat} (hk : k < 240) {v : Int32 × Int32 × Int32 × Int32 × Int32 × Int32 × Int32 × Int32 × Int32 × (Nat → Int32) × (Nat → Int32) × (Nat → Int32) × (Nat → Int32) × (Nat → Int32) × Int32 × Int32 × Int32 × Int32 × Int32} {v' : Int32 × (Nat → Int32) × (Nat → Int32) × Int32 × Int32 × Int32 × Int32 × Int32 × Int32 × Int32 × Int32} (h : TxI n k v v') (h0 : v'.2.2.2.1 = 0) (h1 : ¬ v'.2.2.2.2.2.2.2.1 = 0) : ∃ u u', fX0_readInto_b31 tb (nI n) v = some (.inl u) ∧ fX6_text_b56 mr cuts letters (nI n) v' = some (.inl u') ∧ TxI n (k + 1) u u' := by
  obtain ⟨c, m, _, w, w', a0, a1, a2, a3, a4, a5, a6, a7, a8, a9, e13, e16, e14, rfl, rfl, rfl, hK, hS⟩ := h
  dsimp only at h0 h1
  have zc := (TkR_0 hK).mpr h0
  have zd : ¬ c.2.2.2.1 = 0 := fun q => h1 ((TkR_tok hK h0).mp q)
  obtain ⟨c2, m2, w1, b0, b1, b2, b3, b4, b5, b6, b7, b8, b9, f13, f16, f14, f17, g1, g2, ⟨c3, g3, g4⟩, g5⟩ := line_two hT hC (x3 := m.1) (x4 := m.2.1) (x5 := m.2.2.1) (x6 := m.2.2.2.1) (x7 := m.2.2.2.2.1) (x8 := m.2.2.2.2.2) hK h0 zd (hS h0)
  refine ⟨(nI (k + 1), c3.1, c3.2.1, nI (k + 1), c3.2.2.1, w1, c3.2.2.2.1, c3.2.2.2.2.1, c3.2.2.2.2.2, b0, b1, b2, b3, b4, b5, b6, b7, b8, b9), (nI (k + 1), f13, f16, m2.1, m2.2.1, m2.2.2.1, m2.2.2.2.1, m2.2.2.2.2.1, m2.2.2.2.2.2, f14, f17), ?_, ?_, ⟨c3, m2, nI (k + 1), w1, f17, b0, b1, b2, b3, b4, b5, b6, b7, b8, b9, f13, f16, f14, rfl, rfl, rfl, g4, g5⟩⟩
  · unfold fX0_readInto_b31
    dsimp only
    rw [if_neg (show ¬ (240 : Int32) ≤ nI k from nle (n := 240) hk (by omega)), if_pos zc, if_neg zd, g1, bd_s]
    dsimp only
    rw [g3, bd_s, nI_1]
  · unfold fX6_text_b56
    dsimp only
    rw [if_pos h0, if_neg h1, g2, bd_s, nI_1]
theorem text_loop (hT : TP n tb mr g) (hC : RConst cuts letters) {c m : K6} (h : TkR n 0 c m) {r0 r1 r2 r3 r4 m13 m16 : Nat → Int32} (hS : SpR 0 50 6 1 5 r0 r1 r2 r3 r4 m13 m16 0 0 0) : ∃ t t', loopF (fX0_readInto_b31 tb (nI n)) 1000 ((0 : Int32), c.1, c.2.1, (0 : Int32), c.2.2.1, (0 : Int32), c.2.2.2.1, c.2.2.2.2.1, c.2.2.2.2.2, r0, r1, r2, r3, r4, (0 : Int32), (50 : Int32), (6 : Int32), (1 : Int32), (5 : Int32)) = some t ∧ loopF (fX6_text_b56 mr cuts letters (nI n)) 1000 ((0 : Int32), m13, m16, m.1, m.2.1, m.2.2.1, m.2.2.2.1, m.2.2.2.2.1, m.2.2.2.2.2, (0 : Int32), (0 : Int32)) = some t' ∧ TxE n t t' := by
  have hn := hT.1
  refine loop_twoO (fX0_readInto_b31 tb (nI n)) (fX6_text_b56 mr cuts letters (nI n)) (TxI n) (TxE n) 240 ?_ ?_ 240 0 _ _ 1000 (by omega) (by omega) ⟨c, m, 0, 0, 0, r0, r1, r2, r3, r4, 0, 50, 6, 1, 5, m13, m16, 0, rfl, rfl, rfl, h, fun _ => hS⟩
  · intro k v v' hk hI
    by_cases h0 : v'.2.2.2.1 = 0
    · by_cases h1 : v'.2.2.2.2.2.2.2.1 = 0
      · exact Or.inr (tx_out hI (Or.inr (Or.inr h1)) hn (by omega))
      · exact Or.inl (tx_step hT hC hk hI h0 h1)
    · exact Or.inr (tx_out hI (Or.inr (Or.inl h0)) hn (by omega))
  · intro v v' hI
    exact tx_out hI (Or.inl (Nat.le_refl _)) hn (by omega)
theorem copyS (f h : Nat → Int32) (l1 : Int32) : loopF (fX6_text_b110 l1 f) 1000 ((0 : Int32), h) = some (fa_fill f h 40) := by
  have e0 : ((0 : Int32), h) = (nI 0, fa_fill f h 0) := by rw [fa_fill_0]; rfl
  rw [e0]
  refine loop_run (B := fX6_text_b110 l1 f) (fun k => (nI k, fa_fill f h k)) (a := 0) (e := 40) (fun k _ hk => ?_) ?_ 40 0 1000 (by omega) (by omega) (by omega)
  · show fX6_text_b110 l1 f (nI k, fa_fill f h k) = _
    unfold fX6_text_b110
    dsimp only
    rw [if_neg (show ¬ (40 : Int32) ≤ nI k from nle (n := 40) hk (by omega)), ckI_nI hk (by omega), ckI_nI hk (by omega), nI_clamp (by omega), fa_fill_succ, nI_1]
  · show fX6_text_b110 l1 f (nI 40, fa_fill f h 40) = _
    unfold fX6_text_b110
    dsimp only
    rw [if_pos (show (40 : Int32) ≤ nI 40 by decide)]
theorem copyR (f h : Nat → Int32) (l1 : Int32) : loopF (fX6_text_b136 l1 f) 1000 ((0 : Int32), h) = some (fa_fill f h 4) := by
  have e0 : ((0 : Int32), h) = (nI 0, fa_fill f h 0) := by rw [fa_fill_0]; rfl
  rw [e0]
  refine loop_run (B := fX6_text_b136 l1 f) (fun k => (nI k, fa_fill f h k)) (a := 0) (e := 4) (fun k _ hk => ?_) ?_ 4 0 1000 (by omega) (by omega) (by omega)
  · show fX6_text_b136 l1 f (nI k, fa_fill f h k) = _
    unfold fX6_text_b136
    dsimp only
    rw [if_neg (show ¬ (4 : Int32) ≤ nI k from nle (n := 4) hk (by omega)), ckI_nI hk (by omega), ckI_nI hk (by omega), nI_clamp (by omega), fa_fill_succ, nI_1]
  · show fX6_text_b136 l1 f (nI 4, fa_fill f h 4) = _
    unfold fX6_text_b136
    dsimp only
    rw [if_pos (show (4 : Int32) ≤ nI 4 by decide)]
theorem stock_copy {s5 s6 s7 s8 s9 m14 w w' : Int32} {r0 r1 r2 r3 r4 m13 m16 h13 h16 : Nat → Int32} (hS : SpR s5 s6 s7 s8 s9 r0 r1 r2 r3 r4 m13 m16 m14 w w') : RStock s5 s6 s7 s8 s9 r0 r1 r2 r3 r4 m14 (fa_fill m13 h13 40) (fa_fill m16 h16 4) := by
  obtain ⟨⟨⟨q, hq, h1, h2, hs⟩, hr0, hr1, hr2, hr3, hb⟩, -⟩ := hS
  refine ⟨⟨q, hq, h1, h2, fun s hsq => ?_⟩, ?_, ?_, ?_, ?_, hb⟩
  · rw [fa_fill_in (by omega), fa_fill_in (by omega), fa_fill_in (by omega), fa_fill_in (by omega), fa_fill_in (by omega)]
    exact hs s hsq
  · rw [fa_fill_in (by omega)]; exact hr0
  · rw [fa_fill_in (by omega)]; exact hr1
  · rw [fa_fill_in (by omega)]; exact hr2
  · rw [fa_fill_in (by omega)]; exact hr3
theorem sp_start (r0 r1 r2 r3 r4 m13 m16 : Nat → Int32) : SpR 0 50 6 1 5 r0 r1 r2 r3 r4 m13 (upd (upd (upd (upd m16 (0 : Int32).toNatClampNeg (50 : Int32)) (1 : Int32).toNatClampNeg (6 : Int32)) (2 : Int32).toNatClampNeg (1 : Int32)) (3 : Int32).toNatClampNeg (5 : Int32)) 0 0 0 := by
  refine ⟨⟨⟨0, by omega, rfl, rfl, fun s hs => by omega⟩, rfl, rfl, rfl, rfl, by decide, by decide, by decide, by decide, by decide, by decide, by decide, by decide⟩, fun i hi => ?_⟩
  rw [show (0 : Int32).toBitVec = 0#32 from rfl, BitVec.getLsbD_zero, BitVec.getLsbD_zero]
end Tape
end TextE
