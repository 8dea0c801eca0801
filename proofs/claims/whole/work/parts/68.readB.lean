section ReadB
theorem addAt5 {cells : Nat → Int32} {j n : Nat} (hj : j + 4 ≤ 40) (hn : n < 8) {r0 r1 r2 r3 r4 : Nat → Int32} : fX1_addSortAt cells r0 r1 r2 r3 r4 (nI n) (nI j) = some (upd r0 n (cells j), upd r1 n (cells (j + 1)), upd r2 n (cells (j + 2)), upd r3 n (cells (j + 3)), upd r4 n 0, nI (n + 1)) := by
  have ei1 : nI j + (1 : Int32) = nI (j + 1) := nI_add _ 1
  have ei2 : nI j + (2 : Int32) = nI (j + 2) := nI_add _ 2
  have ei3 : nI j + (3 : Int32) = nI (j + 3) := nI_add _ 3
  unfold fX1_addSortAt
  rw [ei1, ei2, ei3, ckI_nI (by omega) (by omega), ckI_nI (by omega) (by omega), ckI_nI (by omega) (by omega), ckI_nI (by omega) (by omega), nI_clamp (by omega), nI_clamp (by omega), nI_clamp (by omega), nI_clamp (by omega), add_ok hn, bd_s]
theorem adds {k c wn f0 : Nat} {cells mc : Nat → Int32} {y : Int32} (hk : k < 4) (hf : f0 + 4 * wn ≤ 40) (hc : c + wn ≤ 8) (hcell : ∀ j, j < 40 → mc (40 * k + j) = cells j) (hT : Told cells (nI f0) wn) {S0 S1 S2 S3 S4 M11 : Nat → Int32} (hS : SS c M11 S0 S1 S2 S3 S4) :
    ∃ t t', loopF (fX5_read_b130 (nI f0) (nI wn) y cells) 1000 ((0 : Int32), S0, S1, S2, S3, S4, nI c) = some t ∧ loopF (fX6_read_b219 (nI k) (nI f0) y (nI wn) mc) 1000 ((0 : Int32), M11, nI c) = some t' ∧ (t.2.2.2.2.2 = nI (c + wn) ∧ t'.2 = nI (c + wn) ∧ SS (c + wn) t'.1 t.1 t.2.1 t.2.2.1 t.2.2.2.1 t.2.2.2.2.1) := by
  refine loop_two _ _ (fun i v v' => v.1 = nI i ∧ v'.1 = nI i ∧ v.2.2.2.2.2.2 = nI (c + i) ∧ v'.2.2 = nI (c + i) ∧ SS (c + i) v'.2.1 v.2.1 v.2.2.1 v.2.2.2.1 v.2.2.2.2.1 v.2.2.2.2.2.1) _ wn (by omega) ⟨rfl, rfl, rfl, rfl, hS⟩ ?_ ?_
  · rintro i ⟨b1, q0, q1, q2, q3, q4, q5⟩ ⟨d1, z1, z2⟩ hi ⟨h1, h2, h3, h4, h5⟩
    dsimp only at h1 h2 h3 h4 h5
    subst h1; subst h2; subst h3; subst h4
    have hO := hT i hi
    have hft : (nI f0).toInt.toNat = f0 := by rw [nI_toInt (by omega)]; rfl
    rw [hft] at hO
    have em : (4 : Int32) * nI i = nI (4 * i) := pk_mul 4 i
    have ek : (40 : Int32) * nI k + nI f0 + nI (4 * i) = nI (40 * k + (f0 + 4 * i)) := by
      rw [show (40 : Int32) * nI k = nI (40 * k) from pk_mul 40 k, nI_add, nI_add, Nat.add_assoc]
    have ei1 : nI (40 * k + (f0 + 4 * i)) + (1 : Int32) = nI (40 * k + (f0 + 4 * i + 1)) := nI_add _ 1
    have ei2 : nI (40 * k + (f0 + 4 * i)) + (2 : Int32) = nI (40 * k + (f0 + 4 * i + 2)) := nI_add _ 2
    have ei3 : nI (40 * k + (f0 + 4 * i)) + (3 : Int32) = nI (40 * k + (f0 + 4 * i + 3)) := nI_add _ 3
    have hci : c + i < 8 := by omega
    refine ⟨(nI (i + 1), upd q0 (c + i) (cells (f0 + 4 * i)), upd q1 (c + i) (cells (f0 + 4 * i + 1)), upd q2 (c + i) (cells (f0 + 4 * i + 2)), upd q3 (c + i) (cells (f0 + 4 * i + 3)), upd q4 (c + i) 0, nI (c + i + 1)), (nI (i + 1), upd (upd (upd (upd (upd z1 (5 * (c + i)) (cells (f0 + 4 * i))) (5 * (c + i) + 1) (cells (f0 + 4 * i + 1))) (5 * (c + i) + 2) (cells (f0 + 4 * i + 2))) (5 * (c + i) + 3) (cells (f0 + 4 * i + 3))) (5 * (c + i) + 4) 0, nI (c + i + 1)), ?_, ?_, rfl, rfl, rfl, rfl, added (n := c + i) hci h5 hO⟩
    · unfold fX5_read_b130
      dsimp only
      rw [if_neg (nle hi (by omega)), em, nI_add, addAt5 (by omega) (by omega), bd_s, nI_1]
    · unfold fX6_read_b219
      dsimp only
      rw [if_neg (nle hi (by omega)), em, ek, ei1, ei2, ei3, ckI_nI (by omega) (by omega), ckI_nI (by omega) (by omega), ckI_nI (by omega) (by omega), ckI_nI (by omega) (by omega), nI_clamp (by omega), nI_clamp (by omega), nI_clamp (by omega), nI_clamp (by omega), hcell _ (by omega), hcell _ (by omega), hcell _ (by omega), hcell _ (by omega), lay_ok (by omega), bd_s, nI_1, nI_1]
  · rintro ⟨b1, q0, q1, q2, q3, q4, q5⟩ ⟨d1, z1, z2⟩ ⟨h1, h2, h3, h4, h5⟩
    dsimp only at h1 h2 h3 h4 h5
    subst h1; subst h2
    unfold fX5_read_b130 fX6_read_b219
    dsimp only
    rw [if_pos (nI_le (Nat.le_refl wn) (by omega)), if_pos (nI_le (Nat.le_refl wn) (by omega))]
    exact ⟨_, _, rfl, rfl, h3, h4, h5⟩
theorem adds0 {k c : Nat} {cells mc : Nat → Int32} {f y : Int32} {S0 S1 S2 S3 S4 M11 : Nat → Int32} :
    loopF (fX5_read_b130 f (nI 0) y cells) 1000 ((0 : Int32), S0, S1, S2, S3, S4, nI c) = some (S0, S1, S2, S3, S4, nI c) ∧ loopF (fX6_read_b219 (nI k) f y (nI 0) mc) 1000 ((0 : Int32), M11, nI c) = some (M11, nI c) := by
  constructor
  · exact loop_end (n := 999) (by unfold fX5_read_b130; dsimp only; rw [if_pos (show nI 0 ≤ 0 by decide)])
  · exact loop_end (n := 999) (by unfold fX6_read_b219; dsimp only; rw [if_pos (show nI 0 ≤ 0 by decide)])
theorem read_c {k n c : Nat} {size lane f L7 M33 l2 : Int32} {cells lanes lengths mc : Nat → Int32} {S0 S1 S2 S3 S4 M11 : Nat → Int32} (hk : k < 4) (hR : RSheet k size lane cells lanes lengths mc) (hn : n ≤ 8) (hc : c ≤ 8) (hS : SS c M11 S0 S1 S2 S3 S4) (hL : L7 = M33) :
    ∃ t1 t2, (bd (loopF (fX5_read_b48 l2 f (nI n) size lane cells (nI c) L7 S0 S1 S2 S3 S4) 1000 ((0 : Int32), (0 : Int32), (0 : Int32))) (fun T11 => sm T11 (fun z => some z) (fun e11 => bd (loopF (fX5_read_b130 f e11.1 e11.2 cells) 1000 ((0 : Int32), S0, S1, S2, S3, S4, nI c)) (fun T21 => some (e11.1, e11.2, T21.1, T21.2.1, T21.2.2.1, T21.2.2.2.1, T21.2.2.2.2.1, T21.2.2.2.2.2))))) = some t1 ∧
      (bd (loopF (fX6_read_b48 (nI k) l2 f (nI n) lanes lengths mc (nI c) M11 M33) 1000 ((0 : Int32), (0 : Int32), (0 : Int32))) (fun T10 => sm T10 (fun z => some z) (fun e10 => bd (loopF (fX6_read_b219 (nI k) f e10.1 e10.2 mc) 1000 ((0 : Int32), M11, nI c)) (fun T25 => some (e10.2, T25.1, T25.2, e10.1))))) = some t2 ∧
      t1.1 = t2.1 ∧ t1.2.1 = t2.2.2.2 ∧ ∃ n' : Nat, n' ≤ 8 ∧ t1.2.2.2.2.2.2.2 = nI n' ∧ t2.2.2.1 = nI n' ∧ SS n' t2.2.1 t1.2.2.1 t1.2.2.2.1 t1.2.2.2.2.1 t1.2.2.2.2.2.1 t1.2.2.2.2.2.2.1 := by
  obtain ⟨T, T', h1, h2, h3⟩ := scan (l2 := l2) (f := f) (L7 := L7) (M33 := M33) (S0 := S0) (S1 := S1) (S2 := S2) (S3 := S3) (S4 := S4) (M11 := M11) hk hR hn hc
  rw [h1, h2, bd_s, bd_s]
  rcases h3 with ⟨x, rfl, rfl⟩ | ⟨wn, y, rfl, rfl, hw, hp, hT⟩
  · exact ⟨_, _, rfl, rfl, rfl, hL, c, hc, rfl, rfl, hS⟩
  · simp only [sm]
    by_cases w0 : wn = 0
    · subst w0
      obtain ⟨e1, e2⟩ := adds0 (k := k) (c := c) (cells := cells) (mc := mc) (f := f) (y := y) (S0 := S0) (S1 := S1) (S2 := S2) (S3 := S3) (S4 := S4) (M11 := M11)
      rw [e1, e2, bd_s, bd_s]
      exact ⟨_, _, rfl, rfl, rfl, rfl, c, hc, rfl, rfl, hS⟩
    · have hp' : 0 ≤ f.toInt ∧ f.toInt + 4 * wn ≤ 40 := by
        rcases hp with h | h
        · exact absurd h w0
        · exact h
      have z0 : (0 : Int32).toInt = 0 := rfl
      obtain ⟨f0, hf0, rfl⟩ := nI_of (x := f) (by rw [fa_lt, z0]; omega)
      have hfi : (nI f0).toInt = (f0 : Int) := nI_toInt hf0
      rw [hfi] at hp'
      obtain ⟨t, t', e1, e2, e3, e4, e5⟩ := adds (y := y) hk (show f0 + 4 * wn ≤ 40 by omega) hw hR.2 hT hS
      rw [e1, e2, bd_s, bd_s]
      exact ⟨_, _, rfl, rfl, rfl, rfl, c + wn, hw, e3, e4, e5⟩
end ReadB
