section LawsN
/-- the places of a row with one left out -/
def sk (j s : Nat) : Nat := if s < j then s else s + 1
theorem sk_lt {j s m : Nat} (h : s < m) : sk j s < m + 1 := by unfold sk; split <;> omega
theorem bx_sk {f : Nat → Int32} {j : Nat} : ∀ {m : Nat}, j ≤ m → bx_sum (fun s => if s = j then 0 else f s) (m + 1) = bx_sum (fun s => f (sk j s)) m
  | 0, h => by
    have e : j = 0 := by omega
    subst e
    show (0 : Int32) + (if 0 = 0 then 0 else f 0) = 0
    rw [if_pos rfl]; rfl
  | m + 1, h => by
    by_cases e : j = m + 1
    · show bx_sum (fun s => if s = j then 0 else f s) (m + 1) + (if m + 1 = j then 0 else f (m + 1)) = _
      rw [if_pos e.symm, Int32.add_zero]
      exact bx_cong (fun s hs => by
        have e2 : sk j s = s := if_pos (by omega)
        rw [if_neg (by omega), e2])
    · have e2 : sk j m = m + 1 := if_neg (by omega)
      show bx_sum (fun s => if s = j then 0 else f s) (m + 1) + (if m + 1 = j then 0 else f (m + 1)) = bx_sum (fun s => f (sk j s)) m + f (sk j m)
      rw [bx_sk (m := m) (by omega), if_neg (by omega), e2]
theorem lx_sk {f : Nat → Int64} {j : Nat} : ∀ {m : Nat}, j ≤ m → lx_sum (fun s => if s = j then 0 else f s) (m + 1) = lx_sum (fun s => f (sk j s)) m
  | 0, h => by
    have e : j = 0 := by omega
    subst e
    show (0 : Int64) + (if 0 = 0 then 0 else f 0) = 0
    rw [if_pos rfl]; rfl
  | m + 1, h => by
    by_cases e : j = m + 1
    · show lx_sum (fun s => if s = j then 0 else f s) (m + 1) + (if m + 1 = j then 0 else f (m + 1)) = _
      rw [if_pos e.symm, Int64.add_zero]
      exact lx_cong (fun s hs => by
        have e2 : sk j s = s := if_pos (by omega)
        rw [if_neg (by omega), e2])
    · have e2 : sk j m = m + 1 := if_neg (by omega)
      show lx_sum (fun s => if s = j then 0 else f s) (m + 1) + (if m + 1 = j then 0 else f (m + 1)) = lx_sum (fun s => f (sk j s)) m + f (sk j m)
      rw [lx_sk (m := m) (by omega), if_neg (by omega), e2]
theorem thB_j {m j s : Nat} (hm : m + 1 ≤ 8) (hj : j ≤ m) (hs : s < m + 1) : thB (m + 1) (nI j) s = !decide (s = j) := by
  unfold thB
  by_cases e : s = j
  · simp [e]
  · have h : ¬ nI s = nI j := fun q => e ((nI_eq (by omega) (by omega)).mp q)
    simp [e, h, hs]
theorem tS_sk {m j : Nat} (hm : m + 1 ≤ 8) (hj : j ≤ m) {f f' : Nat → Int32} (h : ∀ s, s < m → f' s = f (sk j s)) : tS (m + 1) (nI j) f = tS m (-4) f' := by
  rw [tS_n (by omega)]
  unfold tS
  rw [bx_cut (f := fun s => if s = j then 0 else f s) (n := m + 1) (fun s hs => by
    try dsimp only
    rw [thB_j hm hj hs]
    by_cases e : s = j
    · simp [e]
    · simp [e]) 8 hm (fun s h1 _ => by rw [th_out h1]; rfl), bx_sk hj]
  exact bx_cong (fun s hs => (h s hs).symm)
theorem tL_sk {m j : Nat} (hm : m + 1 ≤ 8) (hj : j ≤ m) {f f' : Nat → Int64} (h : ∀ s, s < m → f' s = f (sk j s)) : tL (m + 1) (nI j) f = tL m (-4) f' := by
  rw [tL_n (by omega)]
  unfold tL
  rw [lx_cut (f := fun s => if s = j then 0 else f s) (n := m + 1) (fun s hs => by
    try dsimp only
    rw [thB_j hm hj hs]
    by_cases e : s = j
    · simp [e]
    · simp [e]) 8 hm (fun s h1 _ => by rw [th_out h1]; rfl), lx_sk hj]
  exact lx_cong (fun s hs => (h s hs).symm)
/-- rows with one left out -/
def Vw (m j : Nat) (many has would fail must many' has' would' fail' must' : Nat → Int32) : Prop := ∀ s, s < m → many' s = many (sk j s) ∧ has' s = has (sk j s) ∧ would' s = would (sk j s) ∧ fail' s = fail (sk j s) ∧ must' s = must (sk j s)
theorem lay_as {m j : Nat} (hm : m + 1 ≤ 8) (hj : j ≤ m) {sorts sorts' rules many has would fail must many' has' would' fail' must' : Nat → Int32} {mark look : Int32} (hS : SS (m + 1) sorts many has would fail must) (hS' : SS m sorts' many' has' would' fail' must') (r0 : rules 0 = mark) (r1 : rules 1 = look) (hv : Vw m j many has would fail must many' has' would' fail' must') (c0 s0 : Nat → Int32) (k w p : Int32) :
    ∃ tu td gl cm so wh ho pa cm' so' wh', fX6_layOffer sorts rules c0 s0 (nI (m + 1)) (nI j) k w p = some (tu, td, gl, cm, so, wh, ho, pa) ∧ fX6_layOffer sorts' rules c0 s0 (nI m) (-4) k w p = some (tu, td, gl, cm', so', wh', ho, pa) := by
  have eh : hp6I many has (m + 1) (nI j) k p = hp6I many' has' m (-4) k p := by
    unfold hp6I heap6I
    rw [tS_sk hm hj (f := many) (f' := many') (fun s hs => (hv s hs).1), tS_sk hm hj (f := fun s => many s * has s) (f' := fun s => many' s * has' s) (fun s hs => by
      obtain ⟨v0, v1, -⟩ := hv s hs
      rw [v0, v1])]
  obtain ⟨cm, so, h1, -⟩ := lay_run many has would fail must mark look k w p (hp6I many' has' m (-4) k p) (lo := nI j) hm hS r0 r1 c0 s0
  obtain ⟨cm', so', h2, -⟩ := lay_run many' has' would' fail' must' mark look k w p (hp6I many' has' m (-4) k p) (lo := -4) (by omega) hS' r0 r1 c0 s0
  generalize eh2 : hp6I many' has' m (-4) k p = hp at eh h1 h2
  have eC : tS (m + 1) (nI j) (qCo many has fail must k w p hp) = tS m (-4) (qCo many' has' fail' must' k w p hp) := tS_sk hm hj (fun s hs => by
    obtain ⟨v0, v1, v2, v3, v4⟩ := hv s hs
    unfold qCo qAl; rw [v0, v1, v3, v4])
  have eS : tS (m + 1) (nI j) (qSa many has would fail must mark look k w p hp) = tS m (-4) (qSa many' has' would' fail' must' mark look k w p hp) := tS_sk hm hj (fun s hs => by
    obtain ⟨v0, v1, v2, v3, v4⟩ := hv s hs
    unfold qSa qCo qAl; rw [v0, v1, v2, v3, v4])
  have eT : tL (m + 1) (nI j) (fun s => (qSa many has would fail must mark look k w p hp s).toInt64 * (valI k w (would s) (fail s)).toInt64) = tL m (-4) (fun s => (qSa many' has' would' fail' must' mark look k w p hp s).toInt64 * (valI k w (would' s) (fail' s)).toInt64) := tL_sk hm hj (fun s hs => by
    obtain ⟨v0, v1, v2, v3, v4⟩ := hv s hs
    try dsimp only
    unfold qSa qCo qAl; rw [v0, v1, v2, v3, v4])
  have eG : tL (m + 1) (nI j) (fun s => (qSa many has would fail must mark look k w p hp s).toInt64 * (would s - has s).toInt64) = tL m (-4) (fun s => (qSa many' has' would' fail' must' mark look k w p hp s).toInt64 * (would' s - has' s).toInt64) := tL_sk hm hj (fun s hs => by
    obtain ⟨v0, v1, v2, v3, v4⟩ := hv s hs
    try dsimp only
    unfold qSa qCo qAl; rw [v0, v1, v2, v3, v4])
  rw [eC, eS, eT, eG] at h1
  unfold fX6_layOffer
  rw [hp6 hm hS, hp6 (by omega) hS', bd_s, bd_s, eh, eh2, h1, h2, bd_s, bd_s]
  dsimp only
  by_cases c : k = 2
  · simp only [if_pos c, bd_s]
    exact ⟨_, _, _, _, _, _, _, _, _, _, _, rfl, rfl⟩
  · simp only [if_neg c, bd_s]
    exact ⟨_, _, _, _, _, _, _, _, _, _, _, rfl, rfl⟩
theorem rests_j {m j : Nat} (hm : m + 1 ≤ 8) (hj : j ≤ m) {sorts sorts' rules many has would fail must many' has' would' fail' must' : Nat → Int32} {mark look pay : Int32} (hS : SS (m + 1) sorts many has would fail must) (hS' : SS m sorts' many' has' would' fail' must') (hB' : SB (m, many', has', would', fail', must', mark, look, pay)) (r0 : rules 0 = mark) (r1 : rules 1 = look) (r2 : rules 2 = pay) (hv : Vw m j many has would fail must many' has' would' fail' must') {k w : Int32} (hk : VO k w) : RestsAs sorts rules (m + 1) (nI j) (m, many', has', would', fail', must', mark, look, pay) k w := by
  intro c0 s0 p hp
  obtain ⟨tu, td, gl, cm, so, wh, ho, pa, cm', so', wh', A, B⟩ := lay_as hm hj hS hS' r0 r1 hv c0 s0 k w p
  obtain ⟨tu', td', gl', cm2, so2, wh2, ho2, h1, h2⟩ := rests_as hS' hB' r0 r1 r2 hk c0 s0 p hp
  unfold fX6_doesRest at h1 ⊢
  rw [B, bd_s] at h1
  rw [A, bd_s]
  dsimp only at h1 ⊢
  by_cases c1 : pa ≤ 0
  · rw [if_pos c1] at h1
    rw [if_pos c1]
    simp only [Option.some.injEq, Prod.mk.injEq] at h1
    obtain ⟨a1, a2, a3, a4, a5, a6, a7, a8, a9⟩ := h1
    exact ⟨tu, td, gl, cm, so, wh, ho, by rw [← a1, ← a9], by rw [a4]; exact h2⟩
  · rw [if_neg c1] at h1
    rw [if_neg c1]
    by_cases c2 : lg_cmp tu (p.toInt64 * td) < 0
    · rw [if_pos c2] at h1
      rw [if_pos c2]
      simp only [Option.some.injEq, Prod.mk.injEq] at h1
      obtain ⟨a1, a2, a3, a4, a5, a6, a7, a8, a9⟩ := h1
      exact ⟨tu, td, gl, cm, so, wh, ho, by rw [← a1, ← a9], by rw [a4]; exact h2⟩
    · rw [if_neg c2] at h1
      rw [if_neg c2]
      simp only [Option.some.injEq, Prod.mk.injEq] at h1
      obtain ⟨a1, a2, a3, a4, a5, a6, a7, a8, a9⟩ := h1
      exact ⟨tu, td, gl, cm, so, wh, ho, by rw [← a1, ← a9], by rw [a4]; exact h2⟩
end LawsN
section LawsW
/-- a reference's row out of five -/
def mk5 (a b c d e : Nat → Int32) (i : Nat) : Int32 := if i % 5 = 0 then a (i / 5) else if i % 5 = 1 then b (i / 5) else if i % 5 = 2 then c (i / 5) else if i % 5 = 3 then d (i / 5) else e (i / 5)
theorem SS_mk5 {n : Nat} {a b c d e : Nat → Int32} (h : ∀ s, s < n → ROne (a s) (b s) (c s) (d s) (e s)) : SS n (mk5 a b c d e) a b c d e := by
  intro s hs
  unfold mk5
  refine ⟨?_, ?_, ?_, ?_, ?_, h s hs⟩
  · rw [if_pos (by omega), show 5 * s / 5 = s by omega]
  · rw [if_neg (by omega), if_pos (by omega), show (5 * s + 1) / 5 = s by omega]
  · rw [if_neg (by omega), if_neg (by omega), if_pos (by omega), show (5 * s + 2) / 5 = s by omega]
  · rw [if_neg (by omega), if_neg (by omega), if_neg (by omega), if_pos (by omega), show (5 * s + 3) / 5 = s by omega]
  · rw [if_neg (by omega), if_neg (by omega), if_neg (by omega), if_neg (by omega), show (5 * s + 4) / 5 = s by omega]
/-- the first of the least -/
def wi (r : Nat → Int32) : Nat → Nat
  | 0 => 0
  | i + 1 => if r (wi r i) ≤ r (i + 1) then wi r i else i + 1
theorem wi_le (r : Nat → Int32) : ∀ i, wi r i ≤ i
  | 0 => Nat.le_refl 0
  | i + 1 => by
    have h := wi_le r i
    rw [wi]
    split <;> omega
theorem worst5 (r : Nat → Int32) {m : Nat} (hm : m + 1 ≤ 8) : fX2_worst r (nI (m + 1)) = some (nI (wi r m)) := by
  unfold fX2_worst
  obtain ⟨t, h1, h2⟩ := loop_to (fX2_worst_b4 (nI (m + 1)) r) (fun i v => v = (nI (wi r i), nI (i + 1))) (fun t => t = nI (wi r m)) m (v := ((0 : Int32), (1 : Int32))) (by omega) rfl (by
    rintro i v hi rfl
    refine ⟨_, ?_, rfl⟩
    have hw := wi_le r i
    unfold fX2_worst_b4
    try dsimp only
    rw [if_neg (nle (show i + 1 < m + 1 by omega) (by omega)), ckI_nI (by omega) (by omega), ckI_nI (by omega) (by omega), nI_clamp (by omega), nI_clamp (by omega), nI_1, wi]
    by_cases c : r (wi r i) ≤ r (i + 1)
    · rw [if_pos c, if_pos c]; rfl
    · rw [if_neg c, if_neg c]; rfl) (by
    rintro v rfl
    exact ⟨_, by unfold fX2_worst_b4; dsimp only; rw [if_pos (nI_le (Nat.le_refl (m + 1)) (by omega))], rfl⟩)
  rw [h1, bd_s, h2]
theorem worst6 {sorts many has would fail must : Nat → Int32} {m : Nat} (hm : m + 1 ≤ 8) (hS : SS (m + 1) sorts many has would fail must) (a b : Int32) : loopF (fX6_layLaws_b16 a b (nI (m + 1)) sorts) 1000 ((1 : Int32), (0 : Int32)) = some (nI (wi would m)) := by
  obtain ⟨t, h1, h2⟩ := loop_to (fX6_layLaws_b16 a b (nI (m + 1)) sorts) (fun i v => v = (nI (i + 1), nI (wi would i))) (fun t => t = nI (wi would m)) m (v := ((1 : Int32), (0 : Int32))) (by omega) rfl (by
    rintro i v hi rfl
    refine ⟨_, ?_, rfl⟩
    have hw := wi_le would i
    obtain ⟨-, -, g2, -⟩ := hS (i + 1) (by omega)
    obtain ⟨-, -, g2', -⟩ := hS (wi would i) (by omega)
    unfold fX6_layLaws_b16
    try dsimp only
    rw [if_neg (nle (show i + 1 < m + 1 by omega) (by omega)), i2' (by omega), bd_s, i2' (by omega), bd_s, g2, g2', nI_1, wi]
    by_cases c : would (wi would i) ≤ would (i + 1)
    · rw [if_pos c, if_pos c]; rfl
    · rw [if_neg c, if_neg c]; rfl) (by
    rintro v rfl
    exact ⟨_, by unfold fX6_layLaws_b16; dsimp only; rw [if_pos (nI_le (Nat.le_refl (m + 1)) (by omega))], rfl⟩)
  rw [h1, h2]
/-- a row with one taken out -/
def rmv (m j : Nat) (r : Nat → Int32) : Nat → Int32 := va_cpy r r (j + 1) j (m - j)
theorem rmv_at {m j s : Nat} (hj : j ≤ m) (hs : s < m) (r : Nat → Int32) : rmv m j r s = r (sk j s) := by
  unfold rmv sk
  by_cases c : s < j
  · rw [if_pos c, pk_cpy_out (Or.inl c)]
  · rw [if_neg c, pk_cpy_in (by omega) (by omega), show j + 1 + (s - j) = s + 1 by omega]
theorem remove_eq {m j : Nat} (hm : m + 1 ≤ 8) (hj : j ≤ m) (r0 r1 r2 r3 r4 : Nat → Int32) : fX2_remove r0 r1 r2 r3 r4 (nI (m + 1)) (nI j) = some (rmv m j r0, rmv m j r1, rmv m j r2, rmv m j r3, rmv m j r4, nI m) := by
  unfold fX2_remove
  have e1 : nI (m + 1) - (1 : Int32) = nI m := nI_pred m
  have w1 : fX5_isWithin (nI j) 0 (nI m) = some 1 := isW_t (nI_pos' (by omega)) ((nI_leI (by omega) (by omega)).mpr hj)
  have e2 : nI (m + 1) - nI j - (1 : Int32) = nI (m - j) := by
    rw [pk_sub (show j ≤ m + 1 by omega), show m + 1 - j = (m - j) + 1 by omega, nI_pred]
  have ck : ∀ {α : Type} (x : Option α), ckC (nI (j + 1)) (nI j) (nI (m - j)) 8 8 x = x := fun x => if_pos ⟨nI_pos (by omega), nI_pos (by omega), nI_pos (by omega), by rw [nI_clamp (by omega), nI_clamp (by omega)]; omega, by rw [nI_clamp (by omega), nI_clamp (by omega)]; omega⟩
  simp only [e1, w1, bd_s, one0, ite_false, e2, nI_1, ck, nI_clamp (show j + 1 < 2 ^ 31 by omega), nI_clamp (show j < 2 ^ 31 by omega), nI_clamp (show m - j < 2 ^ 31 by omega)]
  rfl
theorem left5 {m : Nat} (hm : m + 1 ≤ 8) (P0 P1 P2 P3 P4 many has would fail must : Nat → Int32) (mark look pay keen a : Int32) :
    ∃ many' has' would' fail' must' : Nat → Int32, fX5_leftByb P0 P1 P2 P3 P4 many has would fail must (nI (m + 1)) mark look pay keen a = some (many', has', would', fail', must', nI m, mark, look, pay, keen) ∧ Vw m (wi would m) many has would fail must many' has' would' fail' must' := by
  have hj := wi_le would m
  refine ⟨rmv m (wi would m) (cp8 many P0), rmv m (wi would m) (cp8 has P1), rmv m (wi would m) (cp8 would P2), rmv m (wi would m) (cp8 fail P3), rmv m (wi would m) (cp8 must P4), ?_, ?_⟩
  · unfold fX5_leftByb
    rw [copy_eq, bd_s, worst5 would hm, bd_s]
    try dsimp only
    rw [remove_eq hm hj, bd_s]
  · intro s hs
    have h8 : sk (wi would m) s < 8 := by have := sk_lt (j := wi would m) hs; omega
    rw [rmv_at hj hs, rmv_at hj hs, rmv_at hj hs, rmv_at hj hs, rmv_at hj hs, cp8_at h8, cp8_at h8, cp8_at h8, cp8_at h8, cp8_at h8]
    exact ⟨rfl, rfl, rfl, rfl, rfl⟩
theorem SB_vw {m j : Nat} (hm : m + 1 ≤ 8) {sorts many has would fail must many' has' would' fail' must' : Nat → Int32} (hS : SS (m + 1) sorts many has would fail must) (hv : Vw m j many has would fail must many' has' would' fail' must') : ∀ s, s < m → ROne (many' s) (has' s) (would' s) (fail' s) (must' s) := by
  intro s hs
  obtain ⟨v0, v1, v2, v3, v4⟩ := hv s hs
  rw [v0, v1, v2, v3, v4]
  exact (hS _ (sk_lt hs)).2.2.2.2.2
end LawsW
section LawsB
def kd (b : Nat) : Nat := if b % 2 = 1 then 1 else if b / 2 % 2 = 1 then 2 else if b / 8 % 2 = 1 then 4 else 0
theorem kd_5 : ∀ b, b < 16 → fX5_offerOf (nI b) = some (nI (kd b)) := by decide +kernel
theorem kd_6 : ∀ b, b < 16 → (if (nI b &&& (1 : Int32)) = (1 : Int32) then (some (1 : Int32)) else (if (nI b &&& (2 : Int32)) = (0 : Int32) then (if (nI b &&& (8 : Int32)) = (0 : Int32) then (some (0 : Int32)) else (some (4 : Int32))) else (some (2 : Int32)))) = some (nI (kd b)) := by decide +kernel
theorem kd_vo : ∀ b, b < 16 → 0 ≤ (nI (kd b)).toInt ∧ (nI (kd b)).toInt ≤ 4 ∧ nI (kd b) ≠ 3 := by decide +kernel
theorem go_all : ∀ b, b < 16 → ∀ n, n < 9 → fX6_areLaws (nI n) (nI b) = fX5_goTogether (nI n) (nI b) ∧ (fX5_goTogether (nI n) (nI b) = some 0 ∨ (fX5_goTogether (nI n) (nI b) = some 1 ∧ (nI b &&& (4 : Int32) = 0 ∨ 1 ≤ n))) := by decide +kernel
theorem bit11 : ∀ b, b < 16 → ∃ c, c < 256 ∧ nI b &&& (11 : Int32) = nI c := by
  intro b hb
  refine ⟨b &&& 11, Nat.lt_of_le_of_lt Nat.and_le_right (by omega), ?_⟩
  exact fa_and b 11
theorem go_c {n : Nat} (hn : n ≤ 8) (a : Int32) : (∃ b, b < 16 ∧ a = nI b ∧ (nI b &&& (4 : Int32) = 0 ∨ 1 ≤ n) ∧ fX5_goTogether (nI n) a = some 1 ∧ fX6_areLaws (nI n) a = some 1) ∨ (fX5_goTogether (nI n) a = some 0 ∧ fX6_areLaws (nI n) a = some 0) := by
  rcases isW_c a 0 15 with ⟨h1, h2, e⟩ | ⟨-, e⟩
  · obtain ⟨b, hb, rfl⟩ := rngN (n := 15) h1 h2 (by omega)
    obtain ⟨g1, g2⟩ := go_all b (by omega) n (by omega)
    rw [g1]
    rcases g2 with g2 | ⟨g2, g3⟩
    · exact Or.inr ⟨g2, g2⟩
    · exact Or.inl ⟨b, by omega, rfl, g3, g2, g2⟩
  · right
    constructor
    · obtain ⟨x, hx, ex⟩ := pk_andE a (m := 15) 4 (by decide)
      have e11 : a &&& (11 : Int32) = (a &&& 15) &&& 11 := by rw [Int32.and_assoc]; rfl
      obtain ⟨c, hc, ec⟩ := bit11 x (by omega)
      unfold fX5_goTogether
      rw [e11, ex, ec, bitc c hc, bd_s, e]
      have e1 : ∀ q : Prop, ∀ [Decidable q], ∃ y : Int32, (if q then (some (0 : Int32)) else (some (1 : Int32))) = some y := fun q _ => by by_cases z : q <;> simp [z]
      have e2 : ∃ y : Int32, (if a &&& (4 : Int32) = 0 then (some (1 : Int32)) else (if nI n ≤ (0 : Int32) then (some (0 : Int32)) else (some (1 : Int32)))) = some y := by
        split
        · exact ⟨_, rfl⟩
        · split <;> exact ⟨_, rfl⟩
      obtain ⟨y1, z1⟩ := e1 ((1 : Int32) < nI (pc8 c))
      obtain ⟨y2, z2⟩ := e2
      rw [z1, bd_s, z2, bd_s, bd_s, if_pos rfl]
    · unfold fX6_areLaws
      rw [in_0_15, e, bd_s, if_pos rfl]
end LawsB
