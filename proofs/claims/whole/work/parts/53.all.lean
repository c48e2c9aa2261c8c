section
/-! the reference: a text taken, laid on -/
section J3
variable {P : dP} {μ τ : pxS}
theorem mTake1 : dw (px_it Mo_takeText_L2 px_N (0, μ)) (fun τ => (∀ x, x < 11 → τ (1, 3, 0) x = μ (1, 3, 0) (11 + x)) ∧ ∀ j, j ≠ (1, 3, 0) → τ j = μ j) := by
  refine dw_up 11 (by unfold px_N; omega) (fun t s => s.1 = dn t ∧ (∀ x, s.2 (1, 3, 0) x = if x < t then μ (1, 3, 0) (11 + x) else μ (1, 3, 0) x) ∧ ∀ j, j ≠ (1, 3, 0) → s.2 j = μ j) (fun t s ht hI => ?_) (fun s hI => ?_) (Nat.zero_le _) ⟨rfl, fun x => by rw [if_neg (Nat.not_lt_zero _)], fun _ _ => rfl⟩
  · obtain ⟨v, τ⟩ := s
    obtain ⟨rfl, i1, i2⟩ := hI
    dsimp only at i1 i2
    show dw (Mo_takeText_n2 τ (dn t)) _
    unfold Mo_takeText_n2
    rw [if_neg (by rw [show (11 : Int32) = dn 11 from rfl, dn_le (by omega) (by omega)]; omega)]
    refine dw_v (mReading (by omega)) (dw_gi (by omega) (by omega) (dw_l.mpr (dw_some.mpr ⟨dn_suc t, fun x => ?_, fun j hj => ?_⟩)))
    · dsimp only
      rw [dn_nat (by omega), up_s, show τ (1, 3, 0) (11 + t) = μ (1, 3, 0) (11 + t) from by rw [i1, if_neg (by omega)]]
      by_cases e : x = t
      · rw [if_pos ⟨rfl, e⟩, if_pos (by omega), e]
      · rw [if_neg (fun z => e z.2), i1]
        by_cases c : x < t
        · rw [if_pos c, if_pos (by omega)]
        · rw [if_neg c, if_neg (by omega)]
    · dsimp only
      rw [upo hj]; exact i2 j hj
  · obtain ⟨v, τ⟩ := s
    obtain ⟨rfl, i1, i2⟩ := hI
    dsimp only at i1 i2
    show dw (Mo_takeText_n2 τ (dn 11)) _
    unfold Mo_takeText_n2
    rw [if_pos (by decide)]
    exact dw_some.mpr ⟨fun x hx => by rw [i1, if_pos hx], i2⟩
theorem mTake2 : dw (px_it Mo_takeText_L27 px_N (0, μ)) (fun τ => (∀ a x, 5 ≤ a → a ≤ 12 → x < 12 → τ (1, a, 0) x = μ (1, a, 0) (12 + x)) ∧ ∀ j, (∀ a, 5 ≤ a → a ≤ 12 → j ≠ (1, a, 0)) → τ j = μ j) := by
  refine dw_up 12 (by unfold px_N; omega) (fun t s => s.1 = dn t ∧ (∀ a x, 5 ≤ a → a ≤ 12 → s.2 (1, a, 0) x = if x < t then μ (1, a, 0) (12 + x) else μ (1, a, 0) x) ∧ ∀ j, (∀ a, 5 ≤ a → a ≤ 12 → j ≠ (1, a, 0)) → s.2 j = μ j) (fun t s ht hI => ?_) (fun s hI => ?_) (Nat.zero_le _) ⟨rfl, fun a x _ _ => by rw [if_neg (Nat.not_lt_zero _)], fun _ _ => rfl⟩
  · obtain ⟨v, τ⟩ := s
    obtain ⟨rfl, i1, i2⟩ := hI
    dsimp only at i1 i2
    show dw (Mo_takeText_n27 τ (dn t)) _
    unfold Mo_takeText_n27
    rw [if_neg (by rw [show (12 : Int32) = dn 12 from rfl, dn_le (by omega) (by omega)]; omega), show (12 : Int32) + dn t = dn (12 + t) from dn_add 12 t, dn_nat (show t < 2147483648 by omega), dn_nat (show 12 + t < 2147483648 by omega)]
    refine dw_gi (by omega) (by omega) (dw_gi (by omega) (by omega) (dw_l.mpr ?_))
    refine dw_gi (by omega) (by omega) (dw_gi (by omega) (by omega) (dw_l.mpr ?_))
    refine dw_gi (by omega) (by omega) (dw_gi (by omega) (by omega) (dw_l.mpr ?_))
    refine dw_gi (by omega) (by omega) (dw_gi (by omega) (by omega) (dw_l.mpr ?_))
    refine dw_gi (by omega) (by omega) (dw_gi (by omega) (by omega) (dw_l.mpr ?_))
    refine dw_gi (by omega) (by omega) (dw_gi (by omega) (by omega) (dw_l.mpr ?_))
    refine dw_gi (by omega) (by omega) (dw_gi (by omega) (by omega) (dw_l.mpr ?_))
    refine dw_gi (by omega) (by omega) (dw_gi (by omega) (by omega) (dw_l.mpr ?_))
    refine dw_some.mpr ⟨dn_suc t, fun a x h1 h2 => ?_, fun j hj => ?_⟩
    · have key : ∀ b, τ (1, b, 0) (12 + t) = τ (1, b, 0) (12 + t) := fun _ => rfl
      have fin : (if x = t then τ (1, a, 0) (12 + t) else τ (1, a, 0) x) = if x < t + 1 then μ (1, a, 0) (12 + x) else μ (1, a, 0) x := by
        by_cases e : x = t
        · rw [if_pos e, if_pos (by omega), i1 a _ h1 h2, if_neg (by omega), e]
        · rw [if_neg e, i1 a _ h1 h2]
          by_cases c : x < t
          · rw [if_pos c, if_pos (by omega)]
          · rw [if_neg c, if_neg (by omega)]
      refine Eq.trans ?_ fin
      rcases (show a = 5 ∨ a = 6 ∨ a = 7 ∨ a = 8 ∨ a = 9 ∨ a = 10 ∨ a = 11 ∨ a = 12 by omega) with e | e | e | e | e | e | e | e <;> subst e <;> simp [px_up]
    · dsimp only
      rw [upo (hj 12 (by omega) (by omega)), upo (hj 11 (by omega) (by omega)), upo (hj 10 (by omega) (by omega)), upo (hj 9 (by omega) (by omega)), upo (hj 8 (by omega) (by omega)), upo (hj 7 (by omega) (by omega)), upo (hj 6 (by omega) (by omega)), upo (hj 5 (by omega) (by omega))]
      exact i2 j hj
  · obtain ⟨v, τ⟩ := s
    obtain ⟨rfl, i1, i2⟩ := hI
    dsimp only at i1 i2
    show dw (Mo_takeText_n27 τ (dn 12)) _
    unfold Mo_takeText_n27
    rw [if_pos (by decide)]
    exact dw_some.mpr ⟨fun a x h1 h2 hx => by rw [i1 a x h1 h2, if_pos hx], i2⟩
theorem mTake3 : dw (px_it Mo_takeText_L161 px_N (0, μ)) (fun τ => (∀ a x, 13 ≤ a → a ≤ 15 → x < 24 → τ (1, a, 0) x = μ (1, a, 0) (24 + x)) ∧ ∀ j, (∀ a, 13 ≤ a → a ≤ 15 → j ≠ (1, a, 0)) → τ j = μ j) := by
  refine dw_up 24 (by unfold px_N; omega) (fun t s => s.1 = dn t ∧ (∀ a x, 13 ≤ a → a ≤ 15 → s.2 (1, a, 0) x = if x < t then μ (1, a, 0) (24 + x) else μ (1, a, 0) x) ∧ ∀ j, (∀ a, 13 ≤ a → a ≤ 15 → j ≠ (1, a, 0)) → s.2 j = μ j) (fun t s ht hI => ?_) (fun s hI => ?_) (Nat.zero_le _) ⟨rfl, fun a x _ _ => by rw [if_neg (Nat.not_lt_zero _)], fun _ _ => rfl⟩
  · obtain ⟨v, τ⟩ := s
    obtain ⟨rfl, i1, i2⟩ := hI
    dsimp only at i1 i2
    show dw (Mo_takeText_n161 τ (dn t)) _
    unfold Mo_takeText_n161
    rw [if_neg (by rw [show (24 : Int32) = dn 24 from rfl, dn_le (by omega) (by omega)]; omega), show (24 : Int32) + dn t = dn (24 + t) from dn_add 24 t, dn_nat (show t < 2147483648 by omega), dn_nat (show 24 + t < 2147483648 by omega)]
    refine dw_gi (by omega) (by omega) (dw_gi (by omega) (by omega) (dw_l.mpr ?_))
    refine dw_gi (by omega) (by omega) (dw_gi (by omega) (by omega) (dw_l.mpr ?_))
    refine dw_gi (by omega) (by omega) (dw_gi (by omega) (by omega) (dw_l.mpr ?_))
    refine dw_some.mpr ⟨dn_suc t, fun a x h1 h2 => ?_, fun j hj => ?_⟩
    · have fin : (if x = t then τ (1, a, 0) (24 + t) else τ (1, a, 0) x) = if x < t + 1 then μ (1, a, 0) (24 + x) else μ (1, a, 0) x := by
        by_cases e : x = t
        · rw [if_pos e, if_pos (by omega), i1 a _ h1 h2, if_neg (by omega), e]
        · rw [if_neg e, i1 a _ h1 h2]
          by_cases c : x < t
          · rw [if_pos c, if_pos (by omega)]
          · rw [if_neg c, if_neg (by omega)]
      refine Eq.trans ?_ fin
      rcases (show a = 13 ∨ a = 14 ∨ a = 15 by omega) with e | e | e <;> subst e <;> simp [px_up]
    · dsimp only
      rw [upo (hj 15 (by omega) (by omega)), upo (hj 14 (by omega) (by omega)), upo (hj 13 (by omega) (by omega))]
      exact i2 j hj
  · obtain ⟨v, τ⟩ := s
    obtain ⟨rfl, i1, i2⟩ := hI
    dsimp only at i1 i2
    show dw (Mo_takeText_n161 τ (dn 24)) _
    unfold Mo_takeText_n161
    rw [if_pos (by decide)]
    exact dw_some.mpr ⟨fun a x h1 h2 hx => by rw [i1 a x h1 h2, if_pos hx], i2⟩
theorem mLays1 (hW : dWR P) (h0 : μ (1, 3, 0) 0 = dn P.1) (h1 : ∀ i, i < P.1 → μ (1, 6, 0) i = P.2.2.2 1 i) (h7 : ∀ i, i < P.1 → μ (1, 12, 0) i = P.2.2.2 7 i) : dw (px_it Mo_laysOn_L2 px_N (0, μ)) (fun τ => (∀ i, i < P.1 → τ (1, 26, 0) i = dTd P i ∧ τ (1, 27, 0) i = dTd P i) ∧ ∀ j, j ≠ (1, 26, 0) → j ≠ (1, 27, 0) → τ j = μ j) := by
  have hn := hW.n
  refine dw_up P.1 (by unfold px_N; omega) (fun t s => s.1 = dn t ∧ (∀ i, i < t → s.2 (1, 26, 0) i = dTd P i ∧ s.2 (1, 27, 0) i = dTd P i) ∧ ∀ j, j ≠ (1, 26, 0) → j ≠ (1, 27, 0) → s.2 j = μ j) (fun t s ht hI => ?_) (fun s hI => ?_) (Nat.zero_le _) ⟨rfl, fun i hi => absurd hi (Nat.not_lt_zero _), fun _ _ _ => rfl⟩
  · obtain ⟨v, τ⟩ := s
    obtain ⟨rfl, i1, i2⟩ := hI
    dsimp only at i1 i2
    show dw (Mo_laysOn_n2 τ (dn t)) _
    have fin : ∀ x : Int32, x = dTd P t → dw (px_gd (dn t) 12 (px_l (px_up τ (1, 26, 0) (dn t).toNatClampNeg x) fun σ11 => px_gd (dn t) 12 (px_gd (dn t) 12 (px_l (px_up σ11 (1, 27, 0) (dn t).toNatClampNeg (σ11 (1, 26, 0) (dn t).toNatClampNeg)) fun σ14 => some (.inl ((dn t + 1), σ14) : (Int32 × pxS) ⊕ pxS))))) (dR (fun s => s.1 = dn (t + 1) ∧ (∀ i, i < t + 1 → s.2 (1, 26, 0) i = dTd P i ∧ s.2 (1, 27, 0) i = dTd P i) ∧ ∀ j, j ≠ (1, 26, 0) → j ≠ (1, 27, 0) → s.2 j = μ j) (fun τ => (∀ i, i < P.1 → τ (1, 26, 0) i = dTd P i ∧ τ (1, 27, 0) i = dTd P i) ∧ ∀ j, j ≠ (1, 26, 0) → j ≠ (1, 27, 0) → τ j = μ j)) := fun x hx => by
      rw [dn_nat (show t < 2147483648 by omega)]
      refine dw_gi (by omega) (by omega) (dw_l.mpr (dw_gi (by omega) (by omega) (dw_gi (by omega) (by omega) (dw_l.mpr (dw_some.mpr ⟨dn_suc t, fun i hi => ?_, fun j j1 j2 => ?_⟩)))))
      · dsimp only
        by_cases e : i = t
        · simp [up_s, hx, e]
        · have := i1 i (by omega)
          simp [up_s, e, this]
      · dsimp only
        rw [upo j2, upo j1]; exact i2 j j1 j2
    unfold Mo_laysOn_n2 F_Mo_rails
    have e3 : τ (1, 3, 0) = μ (1, 3, 0) := i2 _ (by simp) (by simp)
    have e6 : τ (1, 6, 0) = μ (1, 6, 0) := i2 _ (by simp) (by simp)
    have e12 : τ (1, 12, 0) = μ (1, 12, 0) := i2 _ (by simp) (by simp)
    rw [e3, h0]
    refine dw_v rfl ?_
    rw [if_neg (by rw [dn_le (by omega) (by omega)]; omega)]
    refine dw_gi (by omega) (by omega) (dw_gi (by omega) (by omega) ?_)
    have f1 : μ (1, 6, 0) (dn t).toNatClampNeg = P.2.2.2 1 t := by rw [dn_nat (by omega)]; exact h1 t ht
    have f7 : μ (1, 12, 0) (dn t).toNatClampNeg = P.2.2.2 7 t := by rw [dn_nat (by omega)]; exact h7 t ht
    rw [e6, f1, e12, f7]
    rcases hW.pr t ht with c | ⟨q, q1, c⟩
    · rw [if_pos c]
      exact fin _ (by unfold dTd; rw [c, if_pos dn_neg2])
    · have hne : ¬ P.2.2.2 1 t = -2 := fun z => by
        rw [c] at z
        have z2 := congrArg Int32.toInt z
        rw [dn_toInt (by omega)] at z2
        have h2 : (-2 : Int32).toInt = -2 := by decide
        omega
      rw [if_neg hne]
      have c0 : ¬ P.2.2.2 1 t < 0 := by rw [c]; exact dn_nn (by omega)
      exact dw_gi (by omega) (by omega) (fin _ (by unfold dTd; rw [if_neg c0]))
  · obtain ⟨v, τ⟩ := s
    obtain ⟨rfl, i1, i2⟩ := hI
    dsimp only at i1 i2
    show dw (Mo_laysOn_n2 τ (dn P.1)) _
    unfold Mo_laysOn_n2 F_Mo_rails
    refine dw_v rfl ?_
    rw [i2 _ (by simp) (by simp), h0, if_pos (by rw [dn_le (by omega) (by omega)]; omega)]
    exact dw_some.mpr ⟨i1, i2⟩
/-- rows between what is told and what is reached -/
abbrev mRd (P : dP) (μ τ : pxS) : Prop := (∀ i, i < P.1 → ∀ j, j < 32 → db (τ (1, 27, 0) i) j = true → cW P P.1 i j = true) ∧ (∀ j, j ≠ (1, 27, 0) → τ j = μ j)
theorem mRd.s {P : dP} {μ τ : pxS} (h0 : mRd P μ τ) : ∀ i, i < P.1 → ∀ j, j < 32 → db (τ (1, 27, 0) i) j = true → cW P P.1 i j = true := h0.1
theorem mRd.fr {P : dP} {μ τ : pxS} (h0 : mRd P μ τ) : ∀ j, j ≠ (1, 27, 0) → τ j = μ j := h0.2
theorem mRound {H : Nat → Int32} {t : Nat} (hn : P.1 ≤ 12) (h0 : μ (1, 3, 0) 0 = dn P.1) (hH : ∀ i, i < P.1 → τ (1, 27, 0) i = H i) (hR : mRd P μ τ) : dw (px_it (Mo_laysOn_L76 (dn t)) px_N (0, τ)) (fun τ' => mRd P μ τ' ∧ (∀ i, i < P.1 → ∀ j, j < 32 → db (H i) j = true → db (τ' (1, 27, 0) i) j = true) ∧ ∀ i, i < P.1 → ∀ o, o < P.1 → db (H i) o = true → ∀ j, j < 32 → db (H o) j = true → db (τ' (1, 27, 0) i) j = true) := by
  refine dw_up P.1 (by unfold px_N; omega) (fun r s => s.1 = dn r ∧ mRd P μ s.2 ∧ (∀ i, i < P.1 → ∀ j, j < 32 → db (H i) j = true → db (s.2 (1, 27, 0) i) j = true) ∧ ∀ i, i < r → ∀ o, o < P.1 → db (H i) o = true → ∀ j, j < 32 → db (H o) j = true → db (s.2 (1, 27, 0) i) j = true) (fun r s hr hI => ?_) (fun s hI => ?_) (Nat.zero_le _) ⟨rfl, hR, fun i hi j _ z => by dsimp only; rw [hH i hi]; exact z, fun i hi => absurd hi (Nat.not_lt_zero _)⟩
  · obtain ⟨v, τ1⟩ := s
    obtain ⟨rfl, i1, i2, i3⟩ := hI
    dsimp only at i1 i2 i3
    show dw (Mo_laysOn_n76 τ1 (dn t) (dn r)) _
    unfold Mo_laysOn_n76 F_Mo_rails
    refine dw_v rfl ?_
    rw [i1.fr _ (by simp), h0, if_neg (by rw [dn_le (by omega) (by omega)]; omega), dw_b1]
    refine dw_mono (P := fun τ' : pxS => mRd P μ τ' ∧ (∀ i, i < P.1 → ∀ j, j < 32 → db (H i) j = true → db (τ' (1, 27, 0) i) j = true) ∧ ∀ i, i < r + 1 → ∀ o, o < P.1 → db (H i) o = true → ∀ j, j < 32 → db (H o) j = true → db (τ' (1, 27, 0) i) j = true) ?_ fun τ' h => dw_some.mpr ⟨dn_suc r, h⟩
    refine dw_up P.1 (by unfold px_N; omega) (fun u s => s.1 = dn u ∧ mRd P μ s.2 ∧ (∀ i, i < P.1 → ∀ j, j < 32 → db (H i) j = true → db (s.2 (1, 27, 0) i) j = true) ∧ (∀ i, i < r → ∀ o, o < P.1 → db (H i) o = true → ∀ j, j < 32 → db (H o) j = true → db (s.2 (1, 27, 0) i) j = true) ∧ ∀ o, o < u → db (H r) o = true → ∀ j, j < 32 → db (H o) j = true → db (s.2 (1, 27, 0) r) j = true) (fun u s hu hI => ?_) (fun s hI => ?_) (Nat.zero_le _) ⟨rfl, i1, i2, i3, fun o ho => absurd ho (Nat.not_lt_zero _)⟩
    · obtain ⟨v, τ2⟩ := s
      obtain ⟨rfl, j1, j2, j3, j4⟩ := hI
      dsimp only at j1 j2 j3 j4
      show dw (Mo_laysOn_n86 τ2 (dn t) (dn r) (dn u)) _
      unfold Mo_laysOn_n86 F_Mo_rails Mo_laysOn_n123
      refine dw_v rfl ?_
      rw [j1.fr _ (by simp), h0, if_neg (by rw [dn_le (by omega) (by omega)]; omega)]
      refine dw_gi (by omega) (by omega) ?_
      rw [dn_nat (show r < 2147483648 by omega)]
      by_cases c : db (τ2 (1, 27, 0) r) u = true
      · rw [if_pos ((db_sh1 (by omega)).mpr c)]
        refine dw_gi (by omega) (by omega) (dw_gi (by omega) (by omega) (dw_gi (by omega) (by omega) (dw_l.mpr ?_)))
        rw [dn_nat (show u < 2147483648 by omega)]
        generalize hτ : px_up τ2 (1, 27, 0) r (τ2 (1, 27, 0) r ||| τ2 (1, 27, 0) u) = τ3
        have e1 : ∀ i j, db (τ3 (1, 27, 0) i) j = if i = r then (db (τ2 (1, 27, 0) r) j || db (τ2 (1, 27, 0) u) j) else db (τ2 (1, 27, 0) i) j := fun i j => by
          rw [← hτ, up_s]
          by_cases e : i = r
          · rw [if_pos ⟨rfl, e⟩, if_pos e, db_or]
          · rw [if_neg (fun z => e z.2), if_neg e]
        have mono : ∀ i j, db (τ2 (1, 27, 0) i) j = true → db (τ3 (1, 27, 0) i) j = true := fun i j z => by
          rw [e1]
          by_cases e : i = r
          · rw [if_pos e, ← e, z]; rfl
          · rw [if_neg e]; exact z
        refine dw_some.mpr ⟨dn_suc u, ⟨fun i hi j hj z => ?_, fun j hj => by show τ3 j = μ j; rw [← hτ, upo hj]; exact j1.fr j hj⟩, fun i hi j hj z => mono i j (j2 i hi j hj z), fun i hi o ho z j hj y => mono i j (j3 i hi o ho z j hj y), fun o ho z j hj y => ?_⟩
        · dsimp only at z
          rw [e1] at z
          by_cases e : i = r
          · rw [if_pos e, Bool.or_eq_true] at z
            rcases z with z | z
            · rw [e]; exact j1.s r hr j hj z
            · rw [e]; exact cW_tr hu (j1.s r hr u (by omega) c) (j1.s u hu j hj z)
          · rw [if_neg e] at z; exact j1.s i hi j hj z
        · show db (τ3 (1, 27, 0) r) j = true
          by_cases e : o = u
          · rw [e] at y
            rw [e1, if_pos rfl, j2 u hu j hj y, Bool.or_true]
          · exact mono r j (j4 o (by omega) z j hj y)
      · rw [if_neg (fun z => c ((db_sh1 (by omega)).mp z))]
        refine dw_some.mpr ⟨dn_suc u, j1, j2, j3, fun o ho z j hj y => ?_⟩
        by_cases e : o = u
        · rw [e] at z
          exact absurd (j2 r hr u (by omega) z) c
        · exact j4 o (by omega) z j hj y
    · obtain ⟨v, τ2⟩ := s
      obtain ⟨rfl, j1, j2, j3, j4⟩ := hI
      dsimp only at j1 j2 j3 j4
      show dw (Mo_laysOn_n86 τ2 (dn t) (dn r) (dn P.1)) _
      unfold Mo_laysOn_n86 F_Mo_rails
      refine dw_v rfl ?_
      rw [j1.fr _ (by simp), h0, if_pos (by rw [dn_le (by omega) (by omega)]; omega)]
      refine dw_some.mpr ⟨j1, j2, fun i hi o ho z j hj y => ?_⟩
      by_cases e : i = r
      · rw [e] at z ⊢; exact j4 o ho z j hj y
      · exact j3 i (by omega) o ho z j hj y
  · obtain ⟨v, τ1⟩ := s
    obtain ⟨rfl, i1, i2, i3⟩ := hI
    dsimp only at i1 i2 i3
    show dw (Mo_laysOn_n76 τ1 (dn t) (dn P.1)) _
    unfold Mo_laysOn_n76 F_Mo_rails
    refine dw_v rfl ?_
    rw [i1.fr _ (by simp), h0, if_pos (by rw [dn_le (by omega) (by omega)]; omega)]
    exact dw_some.mpr ⟨i1, i2, i3⟩
theorem mLays2 (hn : P.1 ≤ 12) (h0 : μ (1, 3, 0) 0 = dn P.1) (h9 : ∀ i, i < P.1 → μ (1, 27, 0) i = P.2.2.2 8 i) : dw (px_it Mo_laysOn_L66 px_N (0, μ)) (fun τ => (∀ i, i < P.1 → ∀ j, j < 32 → db (τ (1, 27, 0) i) j = cW P P.1 i j) ∧ ∀ j, j ≠ (1, 27, 0) → τ j = μ j) := by
  refine dw_up P.1 (by unfold px_N; omega) (fun t s => s.1 = dn t ∧ mRd P μ s.2 ∧ ∀ i, i < P.1 → ∀ j, j < 32 → cW P t i j = true → db (s.2 (1, 27, 0) i) j = true) (fun t s ht hI => ?_) (fun s hI => ?_) (Nat.zero_le _) ⟨rfl, ⟨fun i hi j _ z => cW_le (Nat.zero_le _) (by show db (P.2.2.2 8 i) j = true; rw [← h9 i hi]; exact z), fun _ _ => rfl⟩, fun i hi j _ z => by dsimp only; rw [h9 i hi]; exact z⟩
  · obtain ⟨v, τ⟩ := s
    obtain ⟨rfl, i1, i2⟩ := hI
    dsimp only at i1 i2
    show dw (Mo_laysOn_n66 τ (dn t)) _
    unfold Mo_laysOn_n66 F_Mo_rails
    refine dw_v rfl ?_
    rw [i1.fr _ (by simp), h0, if_neg (by rw [dn_le (by omega) (by omega)]; omega), dw_b1]
    refine dw_mono (mRound (H := τ (1, 27, 0)) hn h0 (fun _ _ => rfl) i1) fun τ' ⟨g1, g2, g3⟩ => dw_some.mpr ⟨dn_suc t, g1, fun i hi j hj z => ?_⟩
    rcases cW_s.mp z with a | ⟨a, b⟩
    · exact g2 i hi j hj (i2 i hi j hj a)
    · exact g3 i hi t ht (i2 i hi t (by omega) a) j hj (i2 t ht j hj b)
  · obtain ⟨v, τ⟩ := s
    obtain ⟨rfl, i1, i2⟩ := hI
    dsimp only at i1 i2
    show dw (Mo_laysOn_n66 τ (dn P.1)) _
    unfold Mo_laysOn_n66 F_Mo_rails
    refine dw_v rfl ?_
    rw [i1.fr _ (by simp), h0, if_pos (by rw [dn_le (by omega) (by omega)]; omega)]
    refine dw_some.mpr ⟨fun i hi j hj => ?_, i1.fr⟩
    cases e : cW P P.1 i j with
    | true => exact i2 i hi j hj e
    | false =>
      cases e2 : db (τ (1, 27, 0) i) j with
      | false => rfl
      | true => exact absurd (i1.s i hi j hj e2) (by rw [e]; decide)
/-- a text taken -/
theorem mTake (hW : dWR P) (h0 : μ (1, 3, 0) 11 = dn P.1) (hm : μ (1, 3, 0) 12 = dn P.2.1) (hst : μ (1, 3, 0) 13 = dn P.2.2.1) (he : ∀ i, i < 8 → μ (1, 3, 0) (11 + dst i) = P.2.2.2 14 i) (ha : ∀ a i, a < 8 → i < P.1 → μ (1, a + 5, 0) (12 + i) = P.2.2.2 a i) (hs : ∀ a i, 11 ≤ a → a < 14 → i < P.2.2.1 → μ (1, a + 2, 0) (24 + i) = P.2.2.2 a i) : dw (F_Mo_takeText μ) (fun τ => dMP τ (dTie P) ∧ ∀ j, (∀ a, 3 ≤ a → a ≤ 27 → j ≠ (1, a, 0)) → τ j = μ j) := by
  have hn := hW.n
  have hst24 := hW.st
  unfold F_Mo_takeText
  rw [dw_b1]
  refine dw_mono mTake1 fun τ1 ⟨a1, a2⟩ => ?_
  rw [dw_b1]
  refine dw_mono mTake2 fun τ2 ⟨b1, b2⟩ => ?_
  rw [dw_b1]
  refine dw_mono mTake3 fun τ3 ⟨c1, c2⟩ => ?_
  have e3 : ∀ x, x < 11 → τ3 (1, 3, 0) x = μ (1, 3, 0) (11 + x) := fun x hx => by
    rw [c2 _ (fun a h1 h2 => by simp; omega), b2 _ (fun a h1 h2 => by simp; omega)]; exact a1 x hx
  have ea : ∀ a, a < 8 → ∀ i, i < P.1 → τ3 (1, a + 5, 0) i = P.2.2.2 a i := fun a h i hi => by
    rw [c2 _ (fun b h1 h2 => by simp; omega), b1 _ i (by omega) (by omega) (by omega), a2 _ (by simp)]; exact ha a i h hi
  have es : ∀ a, 11 ≤ a → a < 14 → ∀ i, i < P.2.2.1 → τ3 (1, a + 2, 0) i = P.2.2.2 a i := fun a h1 h2 i hi => by
    rw [c1 _ i (by omega) (by omega) (by omega), b2 _ (fun b h1 h2 => by simp; omega), a2 _ (by simp; omega)]; exact hs a i h1 h2 hi
  have ef : ∀ j, (∀ a, 3 ≤ a → a ≤ 27 → j ≠ (1, a, 0)) → τ3 j = μ j := fun j hj => by
    rw [c2 j (fun a h1 h2 => hj a (by omega) (by omega)), b2 j (fun a h1 h2 => hj a (by omega) (by omega)), a2 j (hj 3 (by omega) (by omega))]
  rw [dw_b1]
  refine dw_mono (P := fun τ : pxS => (∀ i, i < P.1 → τ (1, 26, 0) i = (dTie P).2.2.2 8 i ∧ τ (1, 27, 0) i = (dTie P).2.2.2 9 i) ∧ ∀ j, j ≠ (1, 26, 0) → j ≠ (1, 27, 0) → τ j = τ3 j) ?_ fun τ ⟨g1, g2⟩ => dw_some.mpr ⟨?_, fun j hj => ?_⟩
  · unfold F_Mo_laysOn
    rw [dw_b1]
    refine dw_mono (mLays1 hW (by rw [e3 0 (by omega)]; exact h0) (fun i hi => ea 1 (by omega) i hi) (fun i hi => ea 7 (by omega) i hi)) fun τ4 ⟨q1, q2⟩ => ?_
    rw [dw_b1]
    refine dw_mono (mLays2 (P := dT8 P) hn (by rw [q2 _ (by simp) (by simp), e3 0 (by omega)]; exact h0) (fun i hi => by rw [(q1 i hi).2, dT8_8])) fun τ5 ⟨r1, r2⟩ => dw_some.mpr ⟨fun i hi => ⟨by rw [r2 _ (by simp), (q1 i hi).1, dTie_8], ?_⟩, fun j j1 j2 => by rw [r2 j j2, q2 j j1 j2]⟩
    apply db_ext
    intro j hj
    rw [r1 i hi j hj, dTie_9, db_dor (by omega)]
    simp [hj]
    rfl
  · have g3 : τ (1, 3, 0) = τ3 (1, 3, 0) := g2 _ (by simp) (by simp)
    have hx : ∀ i, i < 8 → (dTie P).2.2.2 14 i = P.2.2.2 14 i := fun i _ => dTie_o (by omega)
    refine ⟨by rw [g3, e3 0 (by omega)]; exact h0, by rw [g3, e3 1 (by omega)]; exact hm, by rw [g3, e3 2 (by omega)]; exact hst, ?_, ?_, ?_, ?_, ?_, ?_, ?_, ?_, fun a h i hi => ?_, fun i hi => (g1 i hi).1, fun i hi => (g1 i hi).2, fun a h1 h2 i hi => ?_⟩
    · rw [g3, e3 3 (by omega), hx 0 (by omega)]; exact he 0 (by omega)
    · rw [g3, e3 4 (by omega), hx 1 (by omega)]; exact he 1 (by omega)
    · rw [g3, e3 5 (by omega), hx 2 (by omega)]; exact he 2 (by omega)
    · rw [g3, e3 6 (by omega), hx 6 (by omega)]; exact he 6 (by omega)
    · rw [g3, e3 7 (by omega), hx 7 (by omega)]; exact he 7 (by omega)
    · rw [g3, e3 8 (by omega), hx 3 (by omega)]; exact he 3 (by omega)
    · rw [g3, e3 9 (by omega), hx 4 (by omega)]; exact he 4 (by omega)
    · rw [g3, e3 10 (by omega), hx 5 (by omega)]; exact he 5 (by omega)
    · rw [g2 _ (by simp; omega) (by simp; omega), dTie_o (by omega)]; exact ea a h i hi
    · rw [g2 _ (by simp; omega) (by simp; omega), dTie_o (by omega)]; exact es a h1 h2 i hi
  · rw [g2 j (hj 26 (by omega) (by omega)) (hj 27 (by omega) (by omega))]; exact ef j hj
end J3
end
section
/-! a fresh board -/
def dB0 (P : dP) : dB := ⟨fun i q => if q = 0 then P.2.2.2 5 i else if q = 1 then P.2.2.2 6 i else if q = 8 then -2 else if q = 11 then -2 else 0, [], [], 0, 0, 0, 0, 0, []⟩
section J4
variable {P : dP} {μ τ σ : pxS} {p : Nat}
theorem dWA_t (hW : dWR P) : dWA (dTie P) := by
  have o : ∀ {a i : Nat}, a < 8 ∨ 10 < a → (dTie P).2.2.2 a i = P.2.2.2 a i := dTie_o
  refine ⟨⟨hW.n, hW.m, hW.st⟩, fun k hk => ?_, ⟨fun i hi => ?_, fun i hi => ?_, ?_⟩, dTie_H hW, dTie_N hW, ⟨fun i hi => ?_, fun i hi => ?_, ?_, ?_, ?_, ?_, ?_⟩, dTie_D hW, dTie_C hW⟩
  · obtain ⟨w, w1, w2, w3, t, w4, w5, w6⟩ := hW.s k hk
    rw [o (by omega), o (by omega), o (by omega), w2]
    refine ⟨?_, fun z => ?_, t, w4, w5, fun z => w6 ?_⟩
    · rcases (show w = 0 ∨ w = 1 ∨ w = 2 ∨ w = 3 by omega) with e | e | e | e <;> subst e <;> decide
    · exact w3 fun e => z (by rw [e]; rfl)
    · rw [show (3 : Int32) = dn 3 from rfl, dn_inj (by omega) (by omega)] at z; exact z
  · obtain ⟨x, x1, x2⟩ := hW.lv i hi
    rw [o (by omega), x2, dn_toInt (by omega)]; omega
  · rw [o (by omega)]; exact hW.pr i hi
  · obtain ⟨x, x1, x2⟩ := hW.e3
    rw [o (by omega), x2, dn_toInt (by omega)]; omega
  · obtain ⟨x, x1, x2⟩ := hW.rp i hi
    exact ⟨x, x1.1, x1.2, by rw [o (by omega)]; exact x2⟩
  · obtain ⟨x, x1, x2⟩ := hW.ch i hi
    exact ⟨x, x1.2, by rw [o (by omega)]; exact x2⟩
  · obtain ⟨x, x1, x2⟩ := hW.e0
    exact ⟨x, by omega, by rw [o (by omega)]; exact x2⟩
  · obtain ⟨x, x1, x2⟩ := hW.e1
    exact ⟨x, x1.2, by rw [o (by omega)]; exact x2⟩
  · obtain ⟨x, x1, x2⟩ := hW.e2
    exact ⟨x, x1.2, by rw [o (by omega)]; exact x2⟩
  · obtain ⟨x, x1, x2⟩ := hW.e5
    exact ⟨x, x1.1, x1.2, by rw [o (by omega)]; exact x2⟩
  · obtain ⟨x, x1, x2⟩ := hW.e7
    exact ⟨x, x1.2, by rw [o (by omega)]; exact x2⟩
theorem dB0_ok (hW : dWR P) : dOK (dTie P) 9999 (dB0 (dTie P)) := by
  have o : ∀ {a i : Nat}, a < 8 ∨ 10 < a → (dTie P).2.2.2 a i = P.2.2.2 a i := dTie_o
  refine ⟨⟨⟨?_, ?_, fun i hi => ?_, fun i hi => absurd hi (List.not_mem_nil)⟩, Nat.zero_le _, Nat.zero_le _, by show 0 < 4; omega, Nat.zero_le _, fun z => absurd z (by show ¬ 0 = 1; omega)⟩, ⟨fun i hi => ?_, fun e he => absurd he (List.not_mem_nil)⟩, Nat.zero_le _⟩
  · exact ⟨List.nodup_nil, fun i hi => absurd hi (List.not_mem_nil)⟩
  · exact ⟨List.nodup_nil, fun i hi => absurd hi (List.not_mem_nil)⟩
  · exact ⟨fun z => absurd z (by show ¬ (0 : Int32) = 1; decide), fun z => absurd z (List.not_mem_nil)⟩
  · obtain ⟨x, x1, x2⟩ := hW.lv i hi
    obtain ⟨y, y1, y2⟩ := hW.ld i hi
    refine ⟨⟨0, x, by rw [o (by omega)]; exact x2, by omega, x1.1, x1.2, rfl⟩, ⟨y, by omega, ?_⟩, Or.inl rfl, Or.inl rfl, ⟨0, by omega, rfl⟩, Or.inl rfl⟩
    show (dTie P).2.2.2 5 i = dn y
    rw [o (by omega)]; exact y2
theorem cStart (hp : p < 2) (hn : P.1 ≤ 12) (h : dCP σ p P) : dw (F_Bo_start σ 1 (dn p)) (fun τ => dC τ 1 p P (dB0 P) ∧ dF 1 σ τ) := by
  unfold F_Bo_start
  rw [dw_l]
  generalize hσ1 : px_up σ (2, 1, 0) 4 (dn p) = σ1
  have f1 : dF 1 σ σ1 := by rw [← hσ1]; exact dF_up (by simp [dbk])
  have p1 : σ1 (2, 1, 0) 4 = dn p := by rw [← hσ1, up_s, if_pos ⟨rfl, rfl⟩]
  rw [dw_b1]
  refine dw_mono (P := fun τ : pxS => (∀ i, i < P.1 → ∀ q, q < 13 → τ (3, 1, i) q = (dB0 P).1 i q) ∧ dF 1 σ τ ∧ τ (2, 1, 0) 4 = dn p) ?_ fun τ ⟨g1, g2, g3⟩ => ?_
  · refine dw_up 12 (by unfold px_N; omega) (fun t s => s.1 = dn t ∧ (∀ i, i < P.1 → i < t → ∀ q, q < 13 → s.2 (3, 1, i) q = (dB0 P).1 i q) ∧ dF 1 σ s.2 ∧ s.2 (2, 1, 0) 4 = dn p) (fun t s ht hI => ?_) (fun s hI => ?_) (Nat.zero_le _) ⟨rfl, fun i _ hi => absurd hi (Nat.not_lt_zero _), f1, p1⟩
    · obtain ⟨v, τ⟩ := s
      obtain ⟨rfl, i1, i2, i3⟩ := hI
      dsimp only at i1 i2 i3
      show dw (Bo_start_n7 τ 1 (dn t)) _
      unfold Bo_start_n7 F_Ra_start
      have hP := dCP_F i2 h
      rw [if_neg (by rw [show (12 : Int32) = dn 12 from rfl, dn_le (by omega) (by omega)]; omega), i3, dn_nat (show p < 2147483648 by omega)]
      refine dw_gi (by omega) (by omega) (dw_gi (by omega) (by omega) (dw_gi (by omega) (by omega) ?_))
      rw [dn_nat (show t < 2147483648 by omega)]
      simp only [dw_b1, dw_l, dw_some, dR_l]
      refine ⟨dn_suc t, fun i hi hit q hq => ?_, ?_, ?_⟩
      · by_cases e : i = t
        · subst e
          rw [hP.a 5 (by omega) i hi, hP.a 6 (by omega) i hi]
          show _ = if q = 0 then P.2.2.2 5 i else if q = 1 then P.2.2.2 6 i else if q = 8 then -2 else if q = 11 then -2 else 0
          rcases (show q = 0 ∨ q = 1 ∨ q = 2 ∨ q = 3 ∨ q = 4 ∨ q = 5 ∨ q = 6 ∨ q = 7 ∨ q = 8 ∨ q = 9 ∨ q = 10 ∨ q = 11 ∨ q = 12 by omega) with e | e | e | e | e | e | e | e | e | e | e | e | e <;> subst e <;> simp [px_up]
        · have := i1 i hi (by omega) q hq
          simp [px_up, e, this]
      · exact dF_trans i2 (fun j hj => by
          have : j ≠ (3, 1, t) := fun e => hj (by rw [e]; simp [dbk])
          funext x
          simp [px_up, this])
      · simp [px_up, i3]
    · obtain ⟨v, τ⟩ := s
      obtain ⟨rfl, i1, i2, i3⟩ := hI
      dsimp only at i1 i2 i3
      show dw (Bo_start_n7 τ 1 (dn 12)) _
      unfold Bo_start_n7
      rw [if_pos (by decide)]
      exact dw_some.mpr ⟨fun i hi => i1 i hi (by omega), i2, i3⟩
  · unfold F_Qu_forget
    simp only [dw_b1, dw_l, dw_some]
    have hP := dCP_F g2 h
    refine ⟨⟨?_, fun i hi q hq => ?_, ⟨?_, fun t ht => absurd ht (Nat.not_lt_zero _), fun i hi => ?_⟩, ⟨?_, fun t ht => absurd ht (Nat.not_lt_zero _), fun i hi => ?_⟩, ?_, ?_, ?_, ?_, ?_, ?_, fun t ht => absurd ht (Nat.not_lt_zero _), ?_⟩, ?_⟩
    · simp [px_up, g3]
    · simp [px_up, g1 i hi q hq]
    · simp [px_up]; rfl
    · rw [show decide (i ∈ (dB0 P).2.1) = false from by simp [dB0]]
      simp [px_up, db_zero]
    · simp [px_up]; rfl
    · rw [show decide (i ∈ (dB0 P).2.2.1) = false from by simp [dB0]]
      simp [px_up, db_zero]
    · simp [px_up]; rfl
    · simp [px_up]; rfl
    · simp [px_up]; rfl
    · simp [px_up]; rfl
    · simp [px_up]; rfl
    · simp [px_up]; rfl
    · refine dCP_F (k := 1) (σ := τ) (fun j hj => ?_) hP
      have h2 : j ≠ (2, 1, 0) := fun e => hj (by rw [e]; simp [dbk])
      have h40 : j ≠ (4, 1, 0) := fun e => hj (by rw [e]; simp [dbk])
      have h41 : j ≠ (4, 1, 1) := fun e => hj (by rw [e]; simp [dbk])
      funext x
      simp [px_up, h2, h40, h41]
    · refine dF_trans g2 fun j hj => ?_
      have h2 : j ≠ (2, 1, 0) := fun e => hj (by rw [e]; simp [dbk])
      have h40 : j ≠ (4, 1, 0) := fun e => hj (by rw [e]; simp [dbk])
      have h41 : j ≠ (4, 1, 1) := fun e => hj (by rw [e]; simp [dbk])
      funext x
      simp [px_up, h2, h40, h41]
theorem mBegins (hn : P.1 ≤ 12) (h : dMP μ P) : dw (F_Mo_begins μ) (fun τ => dM τ P (dB0 P) ∧ dG μ τ) := by
  have e28 : ∀ {τ : pxS}, (∀ j, j ≠ (1, 28, 0) → τ j = μ j) → dMP τ P := fun hf => dMP_e (fun a ha => hf _ (by simp; omega)) h
  unfold F_Mo_begins
  rw [dw_b1]
  refine dw_mono (P := fun τ : pxS => (∀ x, x < 308 → τ (1, 28, 0) x = 0) ∧ ∀ j, j ≠ (1, 28, 0) → τ j = μ j) ?_ fun τ ⟨g1, g2⟩ => ?_
  · refine dw_up 308 (by unfold px_N; omega) (fun t s => s.1 = dn t ∧ (∀ x, x < t → s.2 (1, 28, 0) x = 0) ∧ ∀ j, j ≠ (1, 28, 0) → s.2 j = μ j) (fun t s ht hI => ?_) (fun s hI => ?_) (Nat.zero_le _) ⟨rfl, fun x hx => absurd hx (Nat.not_lt_zero _), fun _ _ => rfl⟩
    · obtain ⟨v, τ⟩ := s
      obtain ⟨rfl, i1, i2⟩ := hI
      dsimp only at i1 i2
      show dw (Mo_begins_n2 τ (dn t)) _
      unfold Mo_begins_n2
      rw [if_neg (by rw [show (308 : Int32) = dn 308 from rfl, dn_le (by omega) (by omega)]; omega)]
      refine dw_gi (by omega) (by omega) (dw_l.mpr (dw_some.mpr ⟨dn_suc t, fun x hx => ?_, fun j hj => ?_⟩))
      · dsimp only
        rw [dn_nat (by omega), up_s]
        by_cases e : x = t
        · rw [if_pos ⟨rfl, e⟩]
        · rw [if_neg (fun z => e z.2)]; exact i1 x (by omega)
      · dsimp only
        rw [upo hj]; exact i2 j hj
    · obtain ⟨v, τ⟩ := s
      obtain ⟨rfl, i1, i2⟩ := hI
      show dw (Mo_begins_n2 τ (dn 308)) _
      unfold Mo_begins_n2
      rw [if_pos (by decide)]
      exact dw_some.mpr ⟨i1, i2⟩
  · rw [dw_b1]
    refine dw_mono (P := fun τ : pxS => (∀ x, 156 ≤ x → x < 308 → τ (1, 28, 0) x = 0) ∧ (∀ i, i < P.1 → ∀ y, y < 13 → τ (1, 28, 0) (13 * i + y) = if y = 4 then -2 else if y = 6 then P.2.2.2 5 i else if y = 7 then P.2.2.2 6 i else 0) ∧ ∀ j, j ≠ (1, 28, 0) → τ j = μ j) ?_ fun τ ⟨f1, f2, f3⟩ => dw_some.mpr ⟨⟨?_, e28 f3⟩, f3⟩
    · refine dw_up P.1 (by unfold px_N; omega) (fun t s => s.1 = dn t ∧ (∀ x, 156 ≤ x → x < 308 → s.2 (1, 28, 0) x = 0) ∧ (∀ i, i < P.1 → ∀ y, y < 13 → s.2 (1, 28, 0) (13 * i + y) = if i < t then (if y = 4 then -2 else if y = 6 then P.2.2.2 5 i else if y = 7 then P.2.2.2 6 i else 0) else 0) ∧ ∀ j, j ≠ (1, 28, 0) → s.2 j = μ j) (fun t s ht hI => ?_) (fun s hI => ?_) (Nat.zero_le _) ⟨rfl, fun x _ hx => g1 x hx, fun i hi y hy => by rw [if_neg (Nat.not_lt_zero _)]; exact g1 _ (by omega), g2⟩
      · obtain ⟨v, τ⟩ := s
        obtain ⟨rfl, i1, i2, i3⟩ := hI
        dsimp only at i1 i2 i3
        show dw (Mo_begins_n24 τ (dn t)) _
        have hP := e28 i3
        unfold Mo_begins_n24 F_Mo_rails
        refine dw_v rfl ?_
        rw [hP.n, if_neg (by rw [dn_le (by omega) (by omega)]; omega), show 13 * dn t + 4 = dn (13 * t + 4) from ix t 4, show 13 * dn t + 6 = dn (13 * t + 6) from ix t 6, show 13 * dn t + 7 = dn (13 * t + 7) from ix t 7]
        refine dw_gi (by omega) (by omega) (dw_l.mpr (dw_gi (by omega) (by omega) (dw_gi (by omega) (by omega) (dw_l.mpr (dw_gi (by omega) (by omega) (dw_gi (by omega) (by omega) (dw_l.mpr (dw_some.mpr ?_))))))))
        rw [dn_nat (show t < 2147483648 by omega), dn_nat (show 13 * t + 4 < 2147483648 by omega), dn_nat (show 13 * t + 6 < 2147483648 by omega), dn_nat (show 13 * t + 7 < 2147483648 by omega), upo (show (1, 11, 0) ≠ (1, 28, 0) by simp), upo (show (1, 11, 0) ≠ (1, 28, 0) by simp), upo (show (1, 10, 0) ≠ (1, 28, 0) by simp), hP.a 5 (by omega) t ht, hP.a 6 (by omega) t ht]
        refine ⟨dn_suc t, fun x h1 h2 => ?_, fun i hi y hy => ?_, fun j hj => ?_⟩
        · dsimp only
          rw [up_s, if_neg (by omega), up_s, if_neg (by omega), up_s, if_neg (by omega)]; exact i1 x h1 h2
        · dsimp only
          rw [up_s, up_s, up_s]
          by_cases e : i = t
          · subst e
            rw [if_pos (show i < i + 1 by omega)]
            by_cases c4 : y = 4
            · rw [if_neg (by omega), if_neg (by omega), if_pos ⟨rfl, by omega⟩, if_pos c4]
            · by_cases c6 : y = 6
              · rw [if_neg (by omega), if_pos ⟨rfl, by omega⟩, if_neg c4, if_pos c6]
              · by_cases c7 : y = 7
                · rw [if_pos ⟨rfl, by omega⟩, if_neg c4, if_neg c6, if_pos c7]
                · rw [if_neg (by omega), if_neg (by omega), if_neg (by omega), i2 i hi y hy, if_neg (Nat.lt_irrefl _), if_neg c4, if_neg c6, if_neg c7]
          · rw [if_neg (by omega), if_neg (by omega), if_neg (by omega), i2 i hi y hy]
            by_cases z : i < t
            · rw [if_pos z, if_pos (show i < t + 1 by omega)]
            · rw [if_neg z, if_neg (show ¬ i < t + 1 by omega)]
        · dsimp only
          rw [upo hj, upo hj, upo hj]; exact i3 j hj
      · obtain ⟨v, τ⟩ := s
        obtain ⟨rfl, i1, i2, i3⟩ := hI
        dsimp only at i1 i2 i3
        show dw (Mo_begins_n24 τ (dn P.1)) _
        have hP := e28 i3
        unfold Mo_begins_n24 F_Mo_rails
        refine dw_v rfl ?_
        rw [hP.n, if_pos (by rw [dn_le (by omega) (by omega)]; omega)]
        exact dw_some.mpr ⟨i1, fun i hi y hy => by rw [i2 i hi y hy, if_pos hi], i3⟩
    · refine ⟨fun i hi a ha => ?_, fun i hi => ?_, fun i hi => ?_, f1 _ (by omega) (by omega), fun t ht => absurd ht (Nat.not_lt_zero _), f1 _ (by omega) (by omega), fun t ht => absurd ht (Nat.not_lt_zero _), f1 _ (by omega) (by omega), f1 _ (by omega) (by omega), f1 _ (by omega) (by omega), f1 _ (by omega) (by omega), f1 _ (by omega) (by omega), f1 _ (by omega) (by omega), fun t ht => absurd ht (Nat.not_lt_zero _)⟩
      · rw [f2 i hi _ (dfl_lt a ha).1]
        show _ = if a.1 = 0 then P.2.2.2 5 i else if a.1 = 1 then P.2.2.2 6 i else if a.1 = 8 then -2 else if a.1 = 11 then -2 else 0
        simp only [dfl, List.mem_cons, List.not_mem_nil, or_false] at ha
        rcases ha with e | e | e | e | e | e | e | e | e | e | e <;> subst e <;> rfl
      · rw [f2 i hi 8 (by omega), if_neg (by omega), if_neg (by omega), if_neg (by omega), if_neg (show ¬ i ∈ (dB0 P).2.2.1 from List.not_mem_nil)]
      · rw [f2 i hi 10 (by omega), if_neg (by omega), if_neg (by omega), if_neg (by omega)]
        rfl
end J4
end
section
/-! a text, both sides -/
section J5
variable {σ σ' μ μ' : pxS} {P P' : dP} {p : Nat} {B B' : dB} {I : Option dB} {H : List dB} {f : Nat}
/-- a text with a fault -/
theorem dI_bad (h : dI σ μ P p B I H f) (fC : ∀ j, j ≠ (6, 0, 0) → j ≠ (1, 1 - p, 0) → (∀ a, j ≠ (8, 1 - p, a)) → j ≠ (12, 1, 0) → j ≠ (12, 2, 0) → j ≠ (12, 3, 0) → j ≠ (0, 0, 0) → σ' j = σ j) (f0 : ∀ q, q ∉ [7, 8, 9] → σ' (0, 0, 0) q = σ (0, 0, 0) q) (r6 : σ' (6, 0, 0) 0 = dn (1 - p)) (t7 : σ' (0, 0, 0) 7 = 0) (t2 : μ' (0, 0, 0) 2 = 0) (e8 : σ' (0, 0, 0) 8 = μ' (0, 0, 0) 24) (e9 : σ' (0, 0, 0) 9 = μ' (0, 0, 0) 25) (m0 : μ' (0, 0, 0) 32 = μ (0, 0, 0) 32 ∧ μ' (0, 0, 0) 33 = μ (0, 0, 0) 33) (mf : ∀ j, j ≠ (0, 0, 0) → (∀ a, 3 ≤ a → a ≤ 15 → j ≠ (1, a, 0)) → μ' j = μ j) (m3 : ∀ x, x < 11 → μ' (1, 3, 0) x = μ (1, 3, 0) x) (m5 : ∀ a x, 5 ≤ a → a ≤ 12 → x < 12 → μ' (1, a, 0) x = μ (1, a, 0) x) (m13 : ∀ a x, 13 ≤ a → a ≤ 15 → x < 24 → μ' (1, a, 0) x = μ (1, a, 0) x) : dI σ' μ' P p B I H f := by
  have hp := h.pp
  have hn := h.W.wp.n
  have hst := h.W.wp.st
  have dc : ∀ {k : Nat} {B : dB}, dC σ k p P B → dC σ' k p P B := fun {k B} g => dC_e (fun j hj => by
    refine fC j ?_ ?_ ?_ ?_ ?_ ?_ ?_
    · rintro rfl; simp at hj
    · rintro rfl; simp at hj; omega
    · rintro a rfl; simp at hj; omega
    · rintro rfl; simp at hj
    · rintro rfl; simp at hj
    · rintro rfl; simp at hj
    · rintro rfl; simp at hj) g
  have hM : dMP μ' P := by
    have g := h.M.P
    exact ⟨by rw [m3 _ (by omega)]; exact g.n, by rw [m3 _ (by omega)]; exact g.m, by rw [m3 _ (by omega)]; exact g.st, by rw [m3 _ (by omega)]; exact g.droop, by rw [m3 _ (by omega)]; exact g.fall, by rw [m3 _ (by omega)]; exact g.low, by rw [m3 _ (by omega)]; exact g.budget, by rw [m3 _ (by omega)]; exact g.seed, by rw [m3 _ (by omega)]; exact g.filter, by rw [m3 _ (by omega)]; exact g.times, by rw [m3 _ (by omega)]; exact g.hold, fun a ha i hi => by rw [m5 _ _ (by omega) (by omega) (by omega)]; exact g.a a ha i hi, fun i hi => by rw [mf _ (by simp) (fun a h1 h2 => by simp; omega)]; exact g.dir i hi, fun i hi => by rw [mf _ (by simp) (fun a h1 h2 => by simp; omega)]; exact g.hang i hi, fun a h1 h2 i hi => by rw [m13 _ _ (by omega) (by omega) (by omega)]; exact g.s a h1 h2 i hi⟩
  have e : ∀ a, 28 ≤ a → μ' (1, a, 0) = μ (1, a, 0) := fun a ha => mf _ (by simp) (fun b h1 h2 => by simp; omega)
  exact ⟨h.W, hp, by rw [f0 _ (by simp)]; exact h.cp, r6, dc h.C, ⟨by rw [e 28 (by omega)]; exact h.M.s, hM⟩, h.ok, by rw [f0 _ (by simp)]; exact h.ik, by rw [m0.2]; exact h.im, fun Bi hB => ⟨dc (h.i Bi hB).1, by rw [e 30 (by omega)]; exact (h.i Bi hB).2.1, (h.i Bi hB).2.2⟩, h.hl, h.hf, by rw [f0 _ (by simp)]; exact h.pf, by rw [f0 _ (by simp)]; exact h.pc, by rw [m0.1]; exact h.uc, fun t ht => ⟨dc (h.h t ht).1, by rw [e 31 (by omega)]; exact (h.h t ht).2.1, (h.h t ht).2.2⟩, ⟨0, Nat.zero_le _, t7, t2, fun t ht => absurd ht (Nat.not_lt_zero _)⟩, e8, e9, fun k hk τ => by rw [fC _ (by simp) (by simp) (by simp) (by simp) (by simp) (by simp) (by simp)]; exact h.wl k hk τ⟩
theorem dS_text (h : dI σ μ P p B I H f) (v : Int32) : dSt (F_PR_text σ v) (F_Mo_text μ v) := by
  have h0 := dI_th (v := 0) h
  unfold F_Mo_text
  rw [px_l]
  generalize px_up μ (0, 0, 0) 0 0 = μ at h0
  clear h
  have h := h0
  clear h0
  unfold F_PR_text PR_text_n12 Mo_text_n17
  obtain ⟨nt, n1, n2, n3, n4⟩ := h.tl
  have hp := h.pp
  have hn := h.W.wp.n
  by_cases c0 : v < 0
  · rw [if_pos c0, if_pos c0]; exact dSt_2 rfl h
  rw [if_neg c0, if_neg c0, n2, n3]
  by_cases c1 : v ≤ dn nt
  · obtain ⟨n, hn2, rfl⟩ : ∃ n, n < 2147483648 ∧ v = dn n := (dn_cases v).resolve_left c0
    rw [dn_le (by omega) (by omega)] at c1
    rw [if_pos (by rw [dn_le (by omega) (by omega)]; exact c1), if_pos (by rw [dn_le (by omega) (by omega)]; exact c1)]
    -- the bytes, the tokens, the lines
    generalize hbt : (fun t => (μ (1, 1, 0) t).toNatClampNeg) = bt
    have hb : ∀ t, t < n → bt t < 256 ∧ σ (5, 0, 0) t &&& 255 = dn (bt t) ∧ μ (1, 1, 0) t = dn (bt t) := fun t ht => by
      obtain ⟨c, c1, c2, c3⟩ := n4 t (by omega)
      have : bt t = c := by rw [← hbt]; show (μ (1, 1, 0) t).toNatClampNeg = c; rw [c2, dn_nat (by omega)]
      rw [this]; exact ⟨c1, c3, c2⟩
    have hn7 : n ≤ 700 := by omega
    obtain ⟨m, m1, m2, m3, m4⟩ := dEnd_ex (bt := bt) hn7
    obtain ⟨hK, hv3, hend⟩ := dtk_K m1 hn7 m2 m3
    obtain ⟨t, t1, t2, t3⟩ := rEx hv3 hend
    have hwl : ∀ k, k < 14 → σ (12, 0, 0) k = dn (dNm (wX k) 6) := fun k hk => by
      have h1 := h.wl k hk (fun _ _ => 0)
      have h2 := wlet k hk
      exact Option.some.inj (h1.symm.trans h2)
    unfold dSt
    rw [dw_l, dw_b2]
    generalize hσ1 : px_up σ (0, 0, 0) 7 0 = σ1
    have s1 : ∀ j, j ≠ (0, 0, 0) → σ1 j = σ j := fun j hj => by rw [← hσ1]; exact upo hj
    have hC := creadAll (σ := σ1) (q := 1 - p) (bt := bt) hn7 (by omega) (fun t ht => ⟨(hb t ht).1, by rw [s1 _ (by simp)]; exact (hb t ht).2.1⟩) (fun k hk => by rw [s1 _ (by simp)]; exact hwl k hk) (by rw [s1 _ (by simp)]; exact h.rp) m1 m2 m3 m4 t1 t2 t3
    have hM := mReadText (μ := μ) (bt := bt) hn7 (fun t ht => ⟨(hb t ht).1, (hb t ht).2.2⟩) m1 m2 m3 m4 t1 t2 t3
    refine dw_mono hC fun r ⟨e1, σ0, n', fr5, hr⟩ => ?_
    obtain ⟨r1, σ2⟩ := r
    dsimp only at e1 hr
    subst e1
    -- what the reading left alone
    have u1 : ∀ j, j ≠ (6, 0, 0) → j ≠ (1, 1 - p, 0) → (∀ a, j ≠ (8, 1 - p, a)) → j ≠ (12, 1, 0) → j ≠ (12, 2, 0) → j ≠ (12, 3, 0) → σ2 j = σ1 j := fun j j1 j2 j3 j4 j5 j6 => by rw [hr.X.fr j j1 j2 j3]; exact fr5.2 j j1 j4 j5 j6
    have u2 : σ2 (6, 0, 0) 0 = dn (1 - p) := hr.X.hq
    have u0 : σ2 (0, 0, 0) = σ1 (0, 0, 0) := u1 _ (by simp) (by simp) (by simp) (by simp) (by simp) (by simp)
    have u00 : ∀ q, q ≠ 7 → σ1 (0, 0, 0) q = σ (0, 0, 0) q := fun q hq => by rw [← hσ1, up_s, if_neg (fun z => hq z.2)]
    have u07 : σ1 (0, 0, 0) 7 = 0 := by rw [← hσ1, up_s, if_pos ⟨rfl, rfl⟩]
    have o6 : ∀ {τ : pxS} {q : Nat} {v : Int32}, px_up τ (0, 0, 0) q v (6, 0, 0) = τ (6, 0, 0) := fun {τ q v} => upo (by simp)
    simp only [dw_l, o6]
    cases e : rS (dtk bt n m) t with
    | inr zz =>
      obtain ⟨fa, pl⟩ := zz
      rw [e] at hr hM
      have hs : dCB fa pl σ2 := hr.s
      rw [if_neg (dCB_ne hs)]
      simp only [dw_l, o6]
      rw [if_neg (dCB_ne hs), dw_some, dw_b1]
      refine dw_mono hM fun τ ⟨n2', hτ⟩ => ?_
      have ht : dMB fa pl τ := hτ.s
      have w0 : ∀ q, q ∉ [16, 17, 18, 19, 20, 21, 22, 23] → τ (0, 0, 0) q = μ (0, 0, 0) q := fun q hq => by
        rw [hτ.X.f0 q (fun z => hq (by simp at z ⊢; omega)), up_s, if_neg (fun z => hq (by simp; omega))]
      have w1 : ∀ j, j ≠ (0, 0, 0) → (∀ a, 3 ≤ a → a ≤ 15 → j ≠ (1, a, 0)) → τ j = μ j := fun j j1 j2 => by rw [hτ.X.fr j j1 j2, upo j1]
      have z22 : px_up (px_up τ (0, 0, 0) 2 0) (0, 0, 0) 24 (px_up τ (0, 0, 0) 2 0 (0, 0, 0) 22) (0, 0, 0) 22 = τ (0, 0, 0) 22 := by rw [up_0, if_neg (by omega), up_0, if_neg (by omega)]
      simp only [dw_l]
      rw [z22, if_neg (dMB_ne ht), dw_l, if_neg (by rw [up_0, if_neg (by omega), z22]; exact dMB_ne ht), dw_some]
      refine ⟨rfl, P, p, B, I, H, f, dI_bad h (fun j j1 j2 j3 j4 j5 j6 j7 => ?_) (fun q hq => ?_) ?_ ?_ ?_ ?_ ?_ ⟨?_, ?_⟩ (fun j j1 j2 => ?_) (fun x hx => ?_) (fun a x h1 h2 h3 => ?_) (fun a x h1 h2 h3 => ?_)⟩
      · (try dsimp only)
        rw [upo j7, upo j7, u1 j j1 j2 j3 j4 j5 j6]; exact s1 j j7
      · (try dsimp only)
        rw [up_0, if_neg (fun z => hq (by simp; omega)), up_0, if_neg (fun z => hq (by simp; omega)), u0, u00 q (fun z => hq (by simp; omega))]
      · (try dsimp only)
        rw [o6, o6]; exact u2
      · (try dsimp only)
        rw [up_0, if_neg (by omega), up_0, if_neg (by omega), u0]; exact u07
      · (try dsimp only)
        rw [up_0, if_neg (by omega), up_0, if_neg (by omega), up_0, if_pos rfl]
      · (try dsimp only)
        rw [up_0, if_neg (by omega), up_0, if_pos rfl, up_0, if_neg (by omega), up_0, if_pos rfl, up_0, if_neg (by omega), hs.1, ht.1]
      · (try dsimp only)
        rw [up_0, if_pos rfl, up_0, if_pos rfl, up_0, if_neg (by omega), up_0, if_neg (by omega), hs.2.2, ht.2.2]
      · (try dsimp only)
        rw [up_0, if_neg (by omega), up_0, if_neg (by omega), up_0, if_neg (by omega)]; exact w0 _ (by simp)
      · (try dsimp only)
        rw [up_0, if_neg (by omega), up_0, if_neg (by omega), up_0, if_neg (by omega)]; exact w0 _ (by simp)
      · (try dsimp only)
        rw [upo j1, upo j1, upo j1]; exact w1 j j1 j2
      · (try dsimp only)
        rw [upo (by simp), upo (by simp), upo (by simp), hτ.X.f3 x hx, upo (by simp)]
      · (try dsimp only)
        rw [upo (by simp), upo (by simp), upo (by simp), hτ.X.f5 a x h1 h2 h3, upo (by simp)]
      · (try dsimp only)
        rw [upo (by simp), upo (by simp), upo (by simp), hτ.X.f13 a x h1 h2 h3, upo (by simp)]
    | inl zz =>
      obtain ⟨P', T, k⟩ := zz
      have hW := (rS_p hv3 hend t P' T k e).2.2
      rw [e] at hr hM
      have hs : dCO (dtk bt n m) m (1 - p) n' 0 P' T k σ2 := hr.s
      have hPn := hs.hn
      have hq2 : 1 - p < 2 := by omega
      rw [if_pos hs.f0]
      simp only [dw_l, o6]
      rw [if_pos hs.f0, u2]
      simp only [dw_l]
      generalize hσ3 : px_up (px_up (px_up σ2 (0, 0, 0) 8 (σ2 (6, 0, 0) 1)) (0, 0, 0) 9 (-1)) (0, 0, 0) 6 (dn (1 - p)) = σ3
      have v6 : px_up (px_up σ2 (0, 0, 0) 8 (σ2 (6, 0, 0) 1)) (0, 0, 0) 9 (-1) (0, 0, 0) 6 = dn p := by rw [up_0, if_neg (by omega), up_0, if_neg (by omega), u0, u00 _ (by omega)]; exact h.cp
      rw [v6]
      generalize hσ4 : px_up σ3 (6, 0, 0) 0 (dn p) = σ4
      have v4 : ∀ j, j ≠ (0, 0, 0) → j ≠ (6, 0, 0) → σ4 j = σ2 j := fun j j1 j2 => by rw [← hσ4, upo j2, ← hσ3, upo j1, upo j1, upo j1]
      have v46 : σ4 (6, 0, 0) 0 = dn p := by rw [← hσ4, up_s, if_pos ⟨rfl, rfl⟩]
      have v40 : ∀ q, q ∉ [6, 8, 9] → σ4 (0, 0, 0) q = σ1 (0, 0, 0) q := fun q hq => by
        rw [← hσ4, upo (by simp), ← hσ3, up_0, if_neg (fun z => hq (by simp; omega)), up_0, if_neg (fun z => hq (by simp; omega)), up_0, if_neg (fun z => hq (by simp; omega)), u0]
      have v406 : σ4 (0, 0, 0) 6 = dn (1 - p) := by rw [← hσ4, upo (by simp), ← hσ3, up_0, if_pos rfl]
      have v408 : σ4 (0, 0, 0) 8 = 0 := by rw [← hσ4, upo (by simp), ← hσ3, up_0, if_neg (by omega), up_0, if_neg (by omega), up_0, if_pos rfl]; exact hs.f0
      have v409 : σ4 (0, 0, 0) 9 = -1 := by rw [← hσ4, upo (by simp), ← hσ3, up_0, if_neg (by omega), up_0, if_pos rfl]
      rw [v406, dw_b1]
      have h1q : σ4 (1, 1 - p, 0) = σ2 (1, 1 - p, 0) := v4 _ (by simp) (by simp)
      have h8q : ∀ a, σ4 (8, 1 - p, a) = σ2 (8, 1 - p, a) := fun a => v4 _ (by simp) (by simp)
      refine dw_mono (cTie (P := P') hq2 hW.n (by rw [h1q, hPn]; exact hr.hn) (fun i hi => by rw [h8q]; exact hs.a 1 i (by omega) (Or.inl (by omega))) (fun i hi => by rw [h8q]; exact hs.a 7 i (by omega) (Or.inl (by omega)))) fun σ5 ⟨g1, g2⟩ => ?_
      have x1 : ∀ j, (∀ a, j ≠ (8, 1 - p, a)) → σ5 j = σ4 j := fun j hj => g2 j (hj 8) (hj 9) (hj 10)
      have hCP : dCP σ5 (1 - p) (dTie P') := by
        have e1 : σ5 (1, 1 - p, 0) = σ2 (1, 1 - p, 0) := by rw [x1 _ (by simp), h1q]
        have e8 : ∀ a, a < 8 ∨ 10 < a → σ5 (8, 1 - p, a) = σ2 (8, 1 - p, a) := fun a ha => by rw [g2 _ (by simp; omega) (by simp; omega) (by simp; omega), h8q]
        refine ⟨by rw [e1]; show _ = dn P'.1; rw [hPn]; exact hr.hn, by rw [e1]; exact hs.m.1, by rw [e1]; exact hs.st.1, fun a ha i hi => ?_, fun a h1 h2 i hi => ?_, fun i hi => ?_⟩
        · have hi : i < P'.1 := hi
          by_cases c : a < 8
          · rw [e8 a (Or.inl c), dTie_o (Or.inl c)]; exact hs.a a i c (Or.inl (by omega))
          · rcases (show a = 8 ∨ a = 9 ∨ a = 10 by omega) with e | e | e
            · rw [e]; exact (g1 i hi).1
            · rw [e]; exact (g1 i hi).2.1
            · rw [e]; exact (g1 i hi).2.2
        · rw [e8 a (Or.inr (by omega)), dTie_o (Or.inr (by omega))]; exact hs.s a i h1 h2 hi
        · rw [e8 14 (Or.inr (by omega)), dTie_o (Or.inr (by omega))]; exact hs.e i hi
      have x0 : σ5 (0, 0, 0) = σ4 (0, 0, 0) := x1 _ (by simp)
      rw [x0, v406, dw_b1]
      refine dw_mono (cStart (P := dTie P') hq2 hW.n hCP) fun σ6 ⟨y1, y2⟩ => ?_
      unfold F_PR_forgetPast
      simp only [dw_l, dw_b1, dw_some]
      have y0 : σ6 (0, 0, 0) = σ4 (0, 0, 0) := by rw [y2 _ (by simp [dbk]), x0]
      have y6 : σ6 (6, 0, 0) = σ4 (6, 0, 0) := by rw [y2 _ (by simp [dbk]), x1 _ (by simp)]
      have y12 : σ6 (12, 0, 0) = σ (12, 0, 0) := by rw [y2 _ (by simp [dbk]), x1 _ (by simp), v4 _ (by simp) (by simp), u1 _ (by simp) (by simp) (by simp) (by simp) (by simp) (by simp), s1 _ (by simp)]
      -- the reference
      refine dw_mono hM fun τ ⟨n2', hτ⟩ => ?_
      have ht : dMO bt n m n2' 0 P' T k τ := hτ.s
      have w0 : ∀ q, q ∉ [16, 17, 18, 19, 20, 21, 22, 23] → τ (0, 0, 0) q = μ (0, 0, 0) q := fun q hq => by
        rw [hτ.X.f0 q (fun z => hq (by simp at z ⊢; omega)), up_s, if_neg (fun z => hq (by simp; omega))]
      have z22 : px_up (px_up τ (0, 0, 0) 2 0) (0, 0, 0) 24 (px_up τ (0, 0, 0) 2 0 (0, 0, 0) 22) (0, 0, 0) 22 = τ (0, 0, 0) 22 := by rw [up_0, if_neg (by omega), up_0, if_neg (by omega)]
      rw [z22, if_pos ht.f0, dw_l, if_pos (by rw [up_0, if_neg (by omega), z22]; exact ht.f0)]
      generalize hτ1 : px_up (px_up (px_up τ (0, 0, 0) 2 0) (0, 0, 0) 24 (px_up τ (0, 0, 0) 2 0 (0, 0, 0) 22)) (0, 0, 0) 25 (-1) = τ1
      have k1 : ∀ j, j ≠ (0, 0, 0) → τ1 j = τ j := fun j hj => by rw [← hτ1, upo hj, upo hj, upo hj]
      have k2 : τ1 (0, 0, 0) 2 = 0 := by rw [← hτ1, up_0, if_neg (by omega), up_0, if_neg (by omega), up_0, if_pos rfl]
      have k24 : τ1 (0, 0, 0) 24 = 0 := by rw [← hτ1, up_0, if_neg (by omega), up_0, if_pos rfl, up_0, if_neg (by omega)]; exact ht.f0
      have k25 : τ1 (0, 0, 0) 25 = -1 := by rw [← hτ1, up_0, if_pos rfl]
      have k16 : τ1 (0, 0, 0) 16 = dn t := by rw [← hτ1, up_0, if_neg (by omega), up_0, if_neg (by omega), up_0, if_neg (by omega)]; exact hτ.ln
      have htn := ht.hn
      rw [dw_b1]
      refine dw_mono (mTake (P := P') hW (by rw [k1 _ (by simp), htn]; exact hτ.hn) (by rw [k1 _ (by simp)]; exact ht.m.1) (by rw [k1 _ (by simp)]; exact ht.st.1) (fun i hi => by rw [k1 _ (by simp)]; exact ht.e i hi) (fun a i ha hi => by rw [k1 _ (by simp)]; exact ht.a a i ha (Or.inl (by omega))) (fun a i h1 h2 hi => by rw [k1 _ (by simp)]; exact ht.s a i h1 h2 hi)) fun τ2 ⟨l1, l2⟩ => ?_
      rw [dw_b1]
      refine dw_mono (mBegins (P := dTie P') hW.n l1) fun τ3 ⟨q1, q2⟩ => ?_
      have l0 : τ3 (0, 0, 0) = τ1 (0, 0, 0) := by rw [q2 _ (by simp [dmk]), l2 _ (by simp)]
      rw [dw_l, dw_l, dw_some]
      refine ⟨?_, dTie P', 1 - p, dB0 (dTie P'), none, [], 0, ?_⟩
      · show dn t = px_up (px_up τ3 (0, 0, 0) 32 0) (0, 0, 0) 33 0 (0, 0, 0) 16
        rw [up_0, if_neg (by omega), up_0, if_neg (by omega), l0, k16]
      · have up0 : ∀ j, j ≠ (0, 0, 0) → px_up (px_up τ3 (0, 0, 0) 32 0) (0, 0, 0) 33 0 j = τ3 j := fun j hj => by rw [upo hj, upo hj]
        have dm : dM (px_up (px_up τ3 (0, 0, 0) 32 0) (0, 0, 0) 33 0) (dTie P') (dB0 (dTie P')) := ⟨by rw [up0 _ (by simp)]; exact q1.s, dMP_e (fun a _ => up0 _ (by simp)) q1.P⟩
        refine ⟨dWA_t hW, hq2, ?_, ?_, dC_0 (dC_00 y1), dm, dB0_ok hW, ?_, ?_, fun Bi hB => (by cases hB), Nat.zero_le _, by omega, ?_, ?_, ?_, fun t ht => absurd ht (Nat.not_lt_zero _), ⟨0, Nat.zero_le _, ?_, ?_, fun t ht => absurd ht (Nat.not_lt_zero _)⟩, ?_, ?_, fun k hk τ => ?_⟩
        · (try dsimp only)
          rw [up_0, if_neg (by omega), up_0, if_neg (by omega), up_0, if_neg (by omega), y0]; exact v406
        · (try dsimp only)
          rw [upo (by simp), upo (by simp), upo (by simp), y6, v46]
          rcases (show p = 0 ∨ p = 1 by omega) with e | e <;> subst e <;> rfl
        · (try dsimp only)
          rw [up_0, if_neg (by omega), up_0, if_neg (by omega), up_0, if_pos rfl]; rfl
        · (try dsimp only)
          rw [up_0, if_pos rfl]; rfl
        · (try dsimp only)
          rw [up_0, if_neg (by omega), up_0, if_pos rfl]; rfl
        · (try dsimp only)
          rw [up_0, if_pos rfl]; rfl
        · (try dsimp only)
          rw [up_0, if_neg (by omega), up_0, if_pos rfl]; rfl
        · (try dsimp only)
          rw [up_0, if_neg (by omega), up_0, if_neg (by omega), up_0, if_neg (by omega), y0, v40 _ (by simp)]; exact u07
        · (try dsimp only)
          rw [up_0, if_neg (by omega), up_0, if_neg (by omega), l0]; exact k2
        · (try dsimp only)
          rw [up_0, if_neg (by omega), up_0, if_neg (by omega), up_0, if_neg (by omega), y0, v408, up_0, if_neg (by omega), up_0, if_neg (by omega), l0, k24]
        · (try dsimp only)
          rw [up_0, if_neg (by omega), up_0, if_neg (by omega), up_0, if_neg (by omega), y0, v409, up_0, if_neg (by omega), up_0, if_neg (by omega), l0, k25]
        · (try dsimp only)
          rw [upo (by simp), upo (by simp), upo (by simp), y12]; exact h.wl k hk τ
  · rw [if_neg c1, if_neg c1]; exact dSt_2 rfl h
end J5
end
section
/-! what stands of a rail; the beginning -/
def F_PR_rail (σ : pxS) (v1 : Int32) (v2 : Int32) : Option (Int32) :=
  px_gd v1 12 (if v2 = 0 then px_gd v1 12 (some (σ (8, (σ (0, 0, 0) 6).toNatClampNeg, 1) v1.toNatClampNeg))
  else if v2 = 1 then px_gd v1 12 (some (σ (8, (σ (0, 0, 0) 6).toNatClampNeg, 2) v1.toNatClampNeg))
  else if v2 = 2 then px_gd v1 12 (some (σ (8, (σ (0, 0, 0) 6).toNatClampNeg, 3) v1.toNatClampNeg))
  else if v2 = 3 then px_gd v1 12 (some (σ (8, (σ (0, 0, 0) 6).toNatClampNeg, 4) v1.toNatClampNeg))
  else if v2 = 4 then some (σ (3, 1, v1.toNatClampNeg) 0)
  else if v2 = 5 then some (σ (3, 1, v1.toNatClampNeg) 1)
  else if v2 = 6 then some (σ (3, 1, v1.toNatClampNeg) 2)
  else if v2 = 7 then some (σ (3, 1, v1.toNatClampNeg) 3)
  else if v2 = 8 then some (σ (3, 1, v1.toNatClampNeg) 5)
  else if v2 = 9 then (if σ (3, 1, v1.toNatClampNeg) 6 = 0 then some 0 else some 1)
  else if v2 = 10 then px_b1 (F_Bo_isGood σ 1 v1) fun r => if r = 0 then some 0 else some 1
  else if v2 = 11 then some (σ (3, 1, v1.toNatClampNeg) 8)
  else if v2 = 12 then some (σ (3, 1, v1.toNatClampNeg) 9)
  else if v2 = 13 then some (σ (3, 1, v1.toNatClampNeg) 10)
  else if v2 = 14 then (if σ (3, 1, v1.toNatClampNeg) 11 < 0 then some (-2) else some (σ (3, 1, v1.toNatClampNeg) 11 - σ (2, 1, 0) 5))
  else none)
def dWh (v : Int32) : Bool := decide (0 ≤ v) && decide (v ≤ 14)
section J6
variable {σ σ' μ μ' : pxS} {P P' : dP} {p : Nat} {B B' : dB} {I : Option dB} {H : List dB} {f : Nat}
theorem dG_rail (h : dI σ μ P p B I H f) (v w : Int32) : (F_PR_isRail σ v = some 0 ∧ dw (F_Mo_rail μ v w) (fun r => r.2 (0, 0, 0) 0 = 1 ∧ dI σ r.2 P p B I H f)) ∨ (F_PR_isRail σ v = some 1 ∧ ((dWh w = true ∧ dw (F_Mo_rail μ v w) (fun r => r.2 (0, 0, 0) 0 = 0 ∧ F_PR_rail σ v w = some r.1 ∧ dI σ r.2 P p B I H f)) ∨ (dWh w = false ∧ dw (F_Mo_rail μ v w) (fun r => r.2 (0, 0, 0) 0 = 2 ∧ dI σ r.2 P p B I H f)))) := by
  unfold F_Mo_rail
  rw [px_l]
  have h1 := dI_th (v := 0) h
  have h0 : px_up μ (0, 0, 0) 0 0 (0, 0, 0) 0 = 0 := by rw [up_0, if_pos rfl]
  clear h
  generalize px_up μ (0, 0, 0) 0 0 = μ at h1 h0
  have h := h1
  clear h1
  have hn := h.W.wp.n
  have hp := h.pp
  rcases dIr h v with ⟨i, hi, rfl, e1, e2⟩ | ⟨_, e1, e2⟩
  · refine Or.inr ⟨e1, ?_⟩
    rw [e2, px_b1_s, if_neg (show ¬ (1 : Int32) = 0 by decide)]
    by_cases hw : dWh w = true
    · refine Or.inl ⟨hw, ?_⟩
      have hw2 : 0 ≤ w ∧ w ≤ 14 := by simpa [dWh] using hw
      obtain ⟨x, hx, rfl⟩ : ∃ x, x < 15 ∧ w = dn x := by
        have a1 : 0 ≤ w.toInt := by have := Int32.le_iff_toInt_le.mp hw2.1; simpa using this
        have a2 : w.toInt ≤ 14 := by
          have := Int32.le_iff_toInt_le.mp hw2.2
          have e : (14 : Int32).toInt = 14 := by decide
          omega
        obtain ⟨x, x1, x2⟩ := dn_ex (N := 14) a1 (by omega)
        exact ⟨x, by omega, x2⟩
      have np : (σ (0, 0, 0) 6).toNatClampNeg = p := by rw [h.cp, dn_nat (by omega)]
      have ni : (dn i).toNatClampNeg = i := dn_nat (by omega)
      have fl : ∀ a ∈ dfl, μ (1, 28, 0) (13 * i + a.2) = σ (3, 1, i) a.1 := fun a ha => by
        have h13 : a.1 < 13 := by
          simp only [dfl, List.mem_cons, List.not_mem_nil, or_false] at ha
          rcases ha with e | e | e | e | e | e | e | e | e | e | e <;> subst e <;> decide
        rw [h.M.s.f i hi a ha, h.C.f i hi a.1 h13]
      have pl : ∀ a, a < 8 → μ (1, a + 5, 0) i = σ (8, p, a) i := fun a ha => by rw [h.M.P.a a ha i hi, h.C.P.a a (by omega) i hi]
      have g1 : ∀ a, a < 8 → F_PR_rail σ (dn i) (dn x) = px_gd (dn i) 12 (px_gd (dn i) 12 (some (σ (8, (σ (0, 0, 0) 6).toNatClampNeg, a) (dn i).toNatClampNeg))) → dw (px_gd (dn i) 24 (some (μ (1, a + 5, 0) (dn i).toNatClampNeg, μ))) (fun r => r.2 (0, 0, 0) 0 = 0 ∧ F_PR_rail σ (dn i) (dn x) = some r.1 ∧ dI σ r.2 P p B I H f) := fun a ha hA => by
        rw [hA, np, ni]
        refine dw_gi (by omega) (by omega) (dw_some.mpr ⟨h0, ?_, h⟩)
        rw [px_gi (by omega) (by omega), px_gi (by omega) (by omega), pl a ha]
      have g2 : ∀ a ∈ dfl, F_PR_rail σ (dn i) (dn x) = px_gd (dn i) 12 (some (σ (3, 1, (dn i).toNatClampNeg) a.1)) → dw (px_gd (13 * dn i + dn a.2) 308 (some (μ (1, 28, 0) (13 * dn i + dn a.2).toNatClampNeg, μ))) (fun r => r.2 (0, 0, 0) 0 = 0 ∧ F_PR_rail σ (dn i) (dn x) = some r.1 ∧ dI σ r.2 P p B I H f) := fun a ha hA => by
        have := (dfl_lt a ha).1
        rw [hA, ni, ix i a.2, dn_nat (by omega)]
        refine dw_gi (by omega) (by omega) (dw_some.mpr ⟨h0, ?_, h⟩)
        rw [px_gi (by omega) (by omega), fl a ha]
      rcases (show x = 0 ∨ x = 1 ∨ x = 2 ∨ x = 3 ∨ x = 4 ∨ x = 5 ∨ x = 6 ∨ x = 7 ∨ x = 8 ∨ x = 9 ∨ x = 10 ∨ x = 11 ∨ x = 12 ∨ x = 13 ∨ x = 14 by omega) with e | e | e | e | e | e | e | e | e | e | e | e | e | e | e <;> subst e
      · exact g1 1 (by omega) rfl
      · exact g1 2 (by omega) rfl
      · exact g1 3 (by omega) rfl
      · exact g1 4 (by omega) rfl
      · exact g2 (0, 6) (by decide) rfl
      · exact g2 (1, 7) (by decide) rfl
      · exact g2 (2, 0) (by decide) rfl
      · exact g2 (3, 1) (by decide) rfl
      · exact g2 (5, 2) (by decide) rfl
      · have ho := (h.ok.2.1.r i hi).o
        rw [← h.C.f i hi 6 (by omega)] at ho
        have e9 : F_PR_rail σ (dn i) (dn 9) = px_gd (dn i) 12 (if σ (3, 1, (dn i).toNatClampNeg) 6 = 0 then some 0 else some 1) := rfl
        refine g2 (6, 3) (by decide) ?_
        rw [e9, ni]
        rcases ho with z | z
        · rw [z, if_pos rfl]
        · rw [z, if_neg (by decide)]
      · have e10 : F_PR_rail σ (dn i) (dn 10) = px_gd (dn i) 12 (px_b1 (F_Bo_isGood σ 1 (dn i)) fun r => if r = 0 then some 0 else some 1) := rfl
        show dw (px_b1 (F_Mo_isGood μ (dn i)) fun r15 => if r15 = 0 then some (0, μ) else some (1, μ)) _
        rw [e10, px_gi (by omega) (by omega), dC_gd h.C h.W.wp hp hi, dM_gd h.M hn hi, px_b1_s, px_b1_s]
        by_cases c : B.gd P i
        · rw [if_pos c, if_neg (by decide), if_neg (by decide)]; exact dw_some.mpr ⟨h0, rfl, h⟩
        · rw [if_neg c, if_pos rfl, if_pos rfl]; exact dw_some.mpr ⟨h0, rfl, h⟩
      · exact g2 (8, 4) (by decide) rfl
      · exact g2 (9, 5) (by decide) rfl
      · exact g2 (10, 11) (by decide) rfl
      · have e14 : F_PR_rail σ (dn i) (dn 14) = px_gd (dn i) 12 (if σ (3, 1, (dn i).toNatClampNeg) 11 < 0 then some (-2) else some (σ (3, 1, (dn i).toNatClampNeg) 11 - σ (2, 1, 0) 5)) := rfl
        show dw (px_gd (13 * dn i + dn 10) 308 (if μ (1, 28, 0) (13 * dn i + dn 10).toNatClampNeg = 0 then some (-2, μ) else px_gd (13 * dn i + dn 10) 308 (some (μ (1, 28, 0) (13 * dn i + dn 10).toNatClampNeg - μ (1, 28, 0) 182, μ)))) _
        have ha := (h.ok.2.1.r i hi).a
        rw [e14, px_gi (by omega) (by omega), ni, h.C.f i hi 11 (by omega), ix i 10, dn_nat (show 13 * i + 10 < 2147483648 by omega), h.M.s.ag i hi, h.C.tick, h.M.s.tick]
        refine dw_gi (by omega) (by omega) ?_
        rcases ha with z | ⟨_, t, t1, t2, z⟩
        · rw [z, if_pos (show (-2 : Int32) < 0 by decide), if_pos (show dAg (-2) = 0 by decide)]
          exact dw_some.mpr ⟨h0, rfl, h⟩
        · obtain ⟨k1, k2⟩ := (dAg_eq (x := B.1 i 11) t1 (by omega)).mpr z
          rw [if_neg k1, k2, z, if_neg (dn_nn (by omega))]
          exact dw_gi (by omega) (by omega) (dw_some.mpr ⟨h0, rfl, h⟩)
    · refine Or.inr ⟨by simpa using hw, ?_⟩
      have hne : ∀ y : Nat, y < 15 → ¬ w = dn y := fun y hy z => hw (by
        rw [z]; unfold dWh
        have a1 : (0 : Int32) ≤ dn y := by rw [show (0 : Int32) = dn 0 from rfl, dn_le (by omega) (by omega)]; omega
        have a2 : dn y ≤ (14 : Int32) := by rw [show (14 : Int32) = dn 14 from rfl, dn_le (by omega) (by omega)]; omega
        simp [a1, a2])
      rw [if_neg (show ¬ w = 0 from hne 0 (by omega)), if_neg (show ¬ w = 1 from hne 1 (by omega)), if_neg (show ¬ w = 2 from hne 2 (by omega)), if_neg (show ¬ w = 3 from hne 3 (by omega)), if_neg (show ¬ w = 4 from hne 4 (by omega)), if_neg (show ¬ w = 5 from hne 5 (by omega)), if_neg (show ¬ w = 6 from hne 6 (by omega)), if_neg (show ¬ w = 7 from hne 7 (by omega)), if_neg (show ¬ w = 8 from hne 8 (by omega)), if_neg (show ¬ w = 9 from hne 9 (by omega)), if_neg (show ¬ w = 10 from hne 10 (by omega)), if_neg (show ¬ w = 11 from hne 11 (by omega)), if_neg (show ¬ w = 12 from hne 12 (by omega)), if_neg (show ¬ w = 13 from hne 13 (by omega)), if_neg (show ¬ w = 14 from hne 14 (by omega)), dw_l, dw_some]
      exact ⟨by dsimp only; rw [up_0, if_pos rfl], dI_th h⟩
  · refine Or.inl ⟨e1, ?_⟩
    rw [e2, px_b1_s, if_pos rfl, dw_l, dw_some]
    exact ⟨by dsimp only; rw [up_0, if_pos rfl], dI_th h⟩
/-! the beginning -/
theorem dlet (τ : pxS) (v : Int32) : F_Re_lettersOf τ v = F_Re_lettersOf (fun _ _ => 0) v := rfl
theorem dReInit : dw (F_Re_init (fun _ _ => 0)) (fun τ => τ (6, 0, 0) 0 = 1 ∧ (∀ q, q ≠ 0 → τ (6, 0, 0) q = 0) ∧ (∀ k, k < 14 → τ (12, 0, 0) k = dn (dNm (wX k) 6)) ∧ ∀ j, j ≠ (6, 0, 0) → j ≠ (12, 0, 0) → ∀ q, τ j q = 0) := by
  unfold F_Re_init
  rw [dw_l]
  refine dw_up 14 (by unfold px_N; omega) (fun t s => s.1 = dn t ∧ s.2 (6, 0, 0) 0 = 1 ∧ (∀ q, q ≠ 0 → s.2 (6, 0, 0) q = 0) ∧ (∀ k, k < t → s.2 (12, 0, 0) k = dn (dNm (wX k) 6)) ∧ ∀ j, j ≠ (6, 0, 0) → j ≠ (12, 0, 0) → ∀ q, s.2 j q = 0) (fun t s ht hI => ?_) (fun s hI => ?_) (Nat.zero_le _) ⟨rfl, by simp [px_up], fun q hq => by simp [px_up, hq], fun k hk => absurd hk (Nat.not_lt_zero _), fun j h1 _ q => by simp [px_up, h1]⟩
  · obtain ⟨v, τ⟩ := s
    obtain ⟨rfl, i1, i2, i3, i4⟩ := hI
    dsimp only at i1 i2 i3 i4
    unfold Re_init_L
    dsimp only
    rw [if_neg (by rw [show (14 : Int32) = dn 14 from rfl, dn_le (by omega) (by omega)]; omega), dlet, wlet t ht, px_b1_s]
    refine dw_gi (by omega) (by omega) (dw_l.mpr (dw_some.mpr ⟨dn_suc t, ?_, fun q hq => ?_, fun k hk => ?_, fun j h1 h2 q => ?_⟩))
    · dsimp only
      rw [upo (by simp)]; exact i1
    · dsimp only
      rw [upo (by simp)]; exact i2 q hq
    · dsimp only
      rw [dn_nat (by omega), up_s]
      by_cases e : k = t
      · rw [if_pos ⟨rfl, e⟩, e]
      · rw [if_neg (fun z => e z.2)]; exact i3 k (by omega)
    · dsimp only
      rw [upo h2]; exact i4 j h1 h2 q
  · obtain ⟨v, τ⟩ := s
    obtain ⟨rfl, i1, i2, i3, i4⟩ := hI
    unfold Re_init_L
    dsimp only
    rw [if_pos (by decide)]
    exact dw_some.mpr ⟨i1, i2, i3, i4⟩
theorem px_pl_o {τ : pxS} : ∀ m, (∀ j, j.1 ≠ 2 → px_pl τ m j = τ j) ∧ (∀ k q, q ≠ 4 → px_pl τ m (2, k, 0) q = τ (2, k, 0) q) ∧ (∀ k, τ (2, k, 0) 4 = τ (0, 0, 0) 6 → px_pl τ m (2, k, 0) 4 = τ (0, 0, 0) 6) := by
  intro m
  induction m with
  | zero => exact ⟨fun _ _ => rfl, fun _ _ _ => rfl, fun _ h => h⟩
  | succ m ih =>
    unfold px_pl
    refine ⟨fun j hj => by rw [upo (fun e => hj (by rw [e]))]; exact ih.1 j hj, fun k q hq => by rw [up_s, if_neg (fun z => hq z.2)]; exact ih.2.1 k q hq, fun k hk => ?_⟩
    rw [up_s]
    by_cases e : ((2, k, 0) : pxI) = (2, m, 0) ∧ 4 = 4
    · rw [if_pos e]; rw [ih.1 _ (by simp)]
    · rw [if_neg e]; exact ih.2.2 k hk
/-- what both constructors leave -/
theorem dInit : ∃ σ1 σ4 μ', F_Re_init (fun _ _ => 0) = some σ1 ∧ (∀ i : pxI, i.1 = 1 ∨ i.1 = 8 → i.2.1 = 0 → ∀ q, σ1 i q = 0) ∧ F_Pl_forget (px_up (px_up σ1 (0, 0, 0) 6 0) (0, 0, 0) 9 (-1)) ((px_up (px_up σ1 (0, 0, 0) 6 0) (0, 0, 0) 9 (-1)) (0, 0, 0) 6) = some σ4 ∧ (∀ i : pxI, i.1 = 2 ∨ i.1 = 3 ∨ i.1 = 4 ∨ i.1 = 9 ∨ i.1 = 10 ∨ i.1 = 11 → ∀ q, σ4 i q = 0) ∧ F_Mo_init (fun _ _ => 0) = some μ' ∧ dInv (px_pl σ4 23) μ' := by
  obtain ⟨σ1, a0, a1, a2, a3, a4⟩ := dReInit
  generalize hσ3 : px_up (px_up σ1 (0, 0, 0) 6 0) (0, 0, 0) 9 (-1) = σ3
  have b6 : σ3 (0, 0, 0) 6 = dn 0 := by rw [← hσ3, up_0, if_neg (by omega), up_0, if_pos rfl]; rfl
  have b0 : ∀ q, q ≠ 9 → σ3 (0, 0, 0) q = 0 := fun q hq => by
    rw [← hσ3, up_0, if_neg hq, up_0]
    by_cases e : q = 6
    · rw [if_pos e]
    · rw [if_neg e]; exact a4 _ (by simp) (by simp) q
  have b9 : σ3 (0, 0, 0) 9 = -1 := by rw [← hσ3, up_0, if_pos rfl]
  have bo : ∀ j, j ≠ (0, 0, 0) → σ3 j = σ1 j := fun j hj => by rw [← hσ3, upo hj, upo hj]
  obtain ⟨σ4, c0, c1, c2, c3, c4, c5⟩ := dforget (σ := σ3) (q := 0) (by omega)
  have d0 : σ4 (0, 0, 0) = σ3 (0, 0, 0) := c5 _ (by simp) (by simp)
  have dz : ∀ j : pxI, j.1 = 2 ∨ j.1 = 3 ∨ j.1 = 4 ∨ j.1 = 9 ∨ j.1 = 10 ∨ j.1 = 11 → ∀ q, σ4 j q = 0 := fun j hj q => by
    have n1 : j ≠ (1, 0, 0) := fun e => by rw [e] at hj; simp at hj
    have n8 : ∀ a, j ≠ (8, 0, a) := fun a e => by rw [e] at hj; simp at hj
    have n0 : j ≠ (0, 0, 0) := fun e => by rw [e] at hj; simp at hj
    have n6 : j ≠ (6, 0, 0) := fun e => by rw [e] at hj; simp at hj
    have n12 : j ≠ (12, 0, 0) := fun e => by rw [e] at hj; simp at hj
    rw [c5 j n1 n8, bo j n0]; exact a4 j n6 n12 q
  -- the reference
  generalize hμ0 : px_up (fun _ _ => 0) (0, 0, 0) 25 (-1) = μ0
  have m0 : ∀ j, j ≠ (0, 0, 0) → ∀ q, μ0 j q = 0 := fun j hj q => by rw [← hμ0, upo hj]
  have m25 : μ0 (0, 0, 0) 25 = -1 := by rw [← hμ0, up_0, if_pos rfl]
  have mq : ∀ q, q ≠ 25 → μ0 (0, 0, 0) q = 0 := fun q hq => by rw [← hμ0, up_0, if_neg hq]
  obtain ⟨μ1, e0, f11, f12, f13, fe, ft, fx, fr⟩ := mFresh (μ := μ0)
  obtain ⟨μ2, g0, g1, g2⟩ := mTake (P := rP0) (μ := μ1) dWR_0 f11 f12 f13 fe (fun a i _ hi => absurd hi (Nat.not_lt_zero _)) (fun a i _ _ hi => absurd hi (Nat.not_lt_zero _))
  obtain ⟨μ3, h0, h1, h2⟩ := mBegins (P := dTie rP0) (μ := μ2) (Nat.zero_le _) g1
  have k0 : μ3 (0, 0, 0) = μ0 (0, 0, 0) := by rw [h2 _ (by simp [dmk]), g2 _ (by simp), fr _ (by simp) (by simp)]
  refine ⟨σ1, σ4, μ3, a0, fun j h1 h2 q => a4 j (fun e => by rw [e] at h1; simp at h1) (fun e => by rw [e] at h1; simp at h1) q, by rw [hσ3, b6]; exact c0, dz, ?_, dTie rP0, 0, dB0 (dTie rP0), none, [], 0, ?_⟩
  · unfold F_Mo_init
    unfold px_l
    rw [hμ0]
    dsimp only
    rw [e0, px_b1_s, g0, px_b1_s]
    exact h0
  · have o1 : ∀ j, j.1 ≠ 2 → px_pl σ4 23 j = σ4 j := (px_pl_o 23).1
    have o2 : ∀ q, px_pl σ4 23 (2, 1, 0) q = 0 := fun q => by
      by_cases e : q = 4
      · rw [e, (px_pl_o 23).2.2 1 (by rw [dz _ (by simp), d0, b6]; rfl), d0, b6]; rfl
      · rw [(px_pl_o 23).2.1 1 q e]; exact dz _ (by simp) q
    have z0 : ∀ q, q ≠ 9 → px_pl σ4 23 (0, 0, 0) q = 0 := fun q hq => by rw [o1 _ (by simp), d0]; exact b0 q hq
    have dQ0 : ∀ w, w < 2 → dQ (px_pl σ4 23) 1 w [] := fun w hw => ⟨by rw [o1 _ (by simp), dz _ (by simp)]; rfl, fun t ht => absurd ht (Nat.not_lt_zero _), fun i hi => by rw [o1 _ (by simp), dz _ (by simp), db_zero]; rfl⟩
    refine ⟨dWA_t dWR_0, by omega, z0 6 (by omega), ?_, ⟨o2 4, fun i hi => absurd hi (Nat.not_lt_zero _), dQ0 0 (by omega), dQ0 1 (by omega), o2 5, o2 6, o2 7, o2 8, o2 9, o2 10, fun t ht => absurd ht (Nat.not_lt_zero _), ⟨?_, ?_, ?_, fun a _ i hi => absurd hi (Nat.not_lt_zero _), fun a _ _ i hi => absurd hi (Nat.not_lt_zero _), fun i hi => ?_⟩⟩, h1, dB0_ok dWR_0, z0 10 (by omega), ?_, fun Bi hB => (by cases hB), Nat.zero_le _, by omega, z0 11 (by omega), z0 12 (by omega), ?_, fun t ht => absurd ht (Nat.not_lt_zero _), ⟨0, Nat.zero_le _, z0 7 (by omega), ?_, fun t ht => absurd ht (Nat.not_lt_zero _)⟩, ?_, ?_, fun k hk τ => ?_⟩
    · rw [o1 _ (by simp), c5 _ (by simp) (by simp), bo _ (by simp)]; exact a1
    · rw [o1 _ (by simp)]; exact c1
    · rw [o1 _ (by simp)]; exact c2
    · rw [o1 _ (by simp)]; exact c3
    · rw [o1 _ (by simp), dTie_o (by omega)]; exact c4 i hi
    · rw [k0]; exact mq _ (by omega)
    · rw [k0]; exact mq _ (by omega)
    · rw [k0]; exact mq _ (by omega)
    · rw [z0 8 (by omega), k0, mq _ (by omega)]
    · rw [o1 _ (by simp), d0, b9, k0, m25]
    · rw [dlet, wlet k hk, o1 _ (by simp), c5 _ (by simp) (by simp), bo _ (by simp), a3 k hk]
end J6
end
